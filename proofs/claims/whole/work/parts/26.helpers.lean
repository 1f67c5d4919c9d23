theorem mH_L_joint : Cond.codeWith yL_joint cL_joint 7 (some .int) [(0, 14, 17, 13)] ∈ WW := mpw2 100 rfl rfl
theorem mH_L_price : Cond.codeWith yL_price cL_price 5 (some .int) [(0, 10, 13, 19)] ∈ WW := mpw2 196 rfl rfl
theorem mH_L_play : Cond.codeWith yL_play cL_play 4 (some .int) [(0, 16, 19, 13)] ∈ WW := mpw2 220 rfl rfl
theorem mH_L_ask : Cond.codeWith yL_ask cL_ask 4 (some .int) [(0, 9, 12, 19)] ∈ WW := mpw3 2 rfl rfl
theorem mH_L_way : Cond.codeWith yL_way cL_way 4 (some .int) [(0, 9, 12, 13)] ∈ WW := mpw3 22 rfl rfl
theorem mH_L_reach : Cond.codeWith yL_reach cL_reach 5 (some .int) [(0, 9, 12, 13), (0, 9, 16, 19)] ∈ WW := mpw3 31 rfl rfl
theorem mH_L_lacks : Cond.codeWith yL_lacks cL_lacks 5 (some .int) [(0, 10, 13, 13), (0, 10, 17, 19)] ∈ WW := mpw3 44 rfl rfl
theorem mH_L_layer : Cond.codeWith yL_layer cL_layer 5 (some .int) [(0, 10, 13, 13)] ∈ WW := mpw3 61 rfl rfl
theorem mH_L_sting : Cond.codeWith yL_sting cL_sting 4 (some .int) [(0, 9, 12, 13)] ∈ WW := mpw3 68 rfl rfl
theorem mH_L_go : Cond.codeWith yL_go cL_go 4 (some .int) [(0, 8, 11, 19)] ∈ WW := mpw3 75 rfl rfl
theorem mH_L_now : Cond.codeWith yL_now cL_now 4 (some .int) [(0, 9, 12, 13)] ∈ WW := mpw3 162 rfl rfl
theorem mH_L_level : Cond.codeWith yL_level cL_level 4 (some .int) [(0, 9, 12, 13)] ∈ WW := mpw3 171 rfl rfl
theorem mH_L_log : Cond.codeWith yL_log cL_log 5 (some .int) [(0, 9, 12, 13)] ∈ WW := mpw3 178 rfl rfl
theorem mH_L_keep : Cond.codeWith yL_keep cL_keep 4 (some .int) [(0, 16, 19, 19)] ∈ WW := mpw3 190 rfl rfl
theorem mH_L_goOn : Cond.codeWith yL_goOn cL_goOn 4 (some .int) [(0, 16, 19, 19)] ∈ WW := mpw3 209 rfl rfl
def f_L_joint (x : PD) (p1 : Int32) (p2 : Int32) (p3 : Int32) (p4 : Int32) : Option (Int32 × PD) :=
  bn2 (f_X5_joint x p1 p2 p3 p4) fun r1 x2 =>
  letv (wB x2 45 (vp_updL (rB x2 45) (Int32.toNatClampNeg ((0 : Int32))) (Int32.toInt64 r1))) fun x3 =>
  some ((0 : Int32), x3)
set_option maxHeartbeats 4000000 in
set_option maxRecDepth 100000 in
theorem c_L_joint (l : Launch) (D : va_G) (y : CY) (a : Nat → Nat) {x : PD} {x' : PD} {r : Int32} {p1 : Int32} {p2 : Int32} {p3 : Int32} {p4 : Int32} (h : f_L_joint x p1 p2 p3 p4 = some (r, x')) : mpMH l D y yL_joint cL_joint 7 (some .int) [(0, 14, 17, 13)] { frames := 6, cells := 0, slots := 0, locals := 146 } (pw y a x) (pw y a x') [.ref (a 0), .int p1, .int p2, .int p3, .int p4, .ref (a 45)] (some (.int r)) := by
  refine mpMH.mk (own := RL) (by decide) rfl (Nat.le_of_ble_eq_true rfl) ?_
  intro p e s m below meth c A ls X hK hA hP hD hl
  have hS : va_S A s.heap s.heap [] := va_S.rf
  obtain ⟨⟨hx, hb, hml, hown, hts⟩, hr, hlk⟩ := id X
  have hl : lv_has ls 7 [(0, .ref (a 0)), (1, .int p1), (2, .int p2), (3, .int p3), (4, .int p4), (5, .ref (a 45))] := hl
  unfold f_L_joint at h
  refine lv_aload hx hb dL_joint_0 (lv_at hl 5 rfl) ?_
  refine lv_iconst (v := 0) hx hb dL_joint_2 (by decide) ?_
  refine lv_aload_n hx hb dL_joint_3 rfl (lv_at hl 0 rfl) ?_
  refine lv_iload_n hx hb dL_joint_4 rfl (lv_at hl 1 rfl) ?_
  refine lv_iload_n hx hb dL_joint_5 rfl (lv_at hl 2 rfl) ?_
  refine lv_iload_n hx hb dL_joint_6 rfl (lv_at hl 3 rfl) ?_
  refine lv_iload hx hb dL_joint_7 (lv_at hl 4 rfl) ?_
  obtain ⟨r1, x2, hr0, h⟩ := bn2_elim h
  refine mp_call1 (As := [.int p1, .int p2, .int p3, .int p4]) (rest := [.int ((0 : Int32)), .ref (a 45)]) X (c_X5_joint l D y a hr0) (mp_cw (k := 4) hts mM_L_7 mI_X5_joint mS_X5_joint mN_X5 mC_X5_joint rfl rfl (by decide +kernel) ⟨Nat.le_of_ble_eq_true rfl, Nat.le_of_ble_eq_true rfl⟩) hK hP hD hS hA 0 pwC_0 rfl rfl hl.1 rfl (Nat.le_of_ble_eq_true rfl) dL_joint_9 ⟨Nat.zero_le _, Nat.zero_le _⟩ (fun H locs hP hD hS => ?_)
  refine lv_i2l (v := Int32.toInt64 r1) hx hb dL_joint_12 rfl ?_
  obtain ⟨x3, e1, h⟩ := letv_elim h
  refine pwS_45 X hK hP hD hS (by decide) e1 dL_joint_13 (fun H locs hP hD hS => ?_)
  refine lv_goto (tgt := 21) hx hb dL_joint_14 (by decide) ?_
  refine lv_iconst (v := 0) hx hb dL_joint_21 (by decide) ?_
  cases h
  exact mpr_i X hK hP hD hS rfl dL_joint_22
def f_L_price (x : PD) (p1 : Int32) (p2 : Int32) : Option (Int32 × PD) :=
  bn2 (f_X5_price x p1 p2) fun r1 x2 =>
  letv (wB x2 45 (vp_updL (rB x2 45) (Int32.toNatClampNeg ((0 : Int32))) (Int32.toInt64 r1))) fun x3 =>
  some ((0 : Int32), x3)
set_option maxHeartbeats 4000000 in
set_option maxRecDepth 100000 in
theorem c_L_price (l : Launch) (D : va_G) (y : CY) (a : Nat → Nat) {x : PD} {x' : PD} {r : Int32} {p1 : Int32} {p2 : Int32} (h : f_L_price x p1 p2 = some (r, x')) : mpMH l D y yL_price cL_price 5 (some .int) [(0, 10, 13, 19)] { frames := 6, cells := 0, slots := 0, locals := 144 } (pw y a x) (pw y a x') [.ref (a 0), .int p1, .int p2, .ref (a 45)] (some (.int r)) := by
  refine mpMH.mk (own := RL) (by decide) rfl (Nat.le_of_ble_eq_true rfl) ?_
  intro p e s m below meth c A ls X hK hA hP hD hl
  have hS : va_S A s.heap s.heap [] := va_S.rf
  obtain ⟨⟨hx, hb, hml, hown, hts⟩, hr, hlk⟩ := id X
  have hl : lv_has ls 5 [(0, .ref (a 0)), (1, .int p1), (2, .int p2), (3, .ref (a 45))] := hl
  unfold f_L_price at h
  refine lv_aload_n hx hb dL_price_0 rfl (lv_at hl 3 rfl) ?_
  refine lv_iconst (v := 0) hx hb dL_price_1 (by decide) ?_
  refine lv_aload_n hx hb dL_price_2 rfl (lv_at hl 0 rfl) ?_
  refine lv_iload_n hx hb dL_price_3 rfl (lv_at hl 1 rfl) ?_
  refine lv_iload_n hx hb dL_price_4 rfl (lv_at hl 2 rfl) ?_
  obtain ⟨r1, x2, hr0, h⟩ := bn2_elim h
  refine mp_call1 (As := [.int p1, .int p2]) (rest := [.int ((0 : Int32)), .ref (a 45)]) X (c_X5_price l D y a hr0) (mp_cw (k := 2) hts mM_L_15 mI_X5_price mS_X5_price mN_X5 mC_X5_price rfl rfl (by decide +kernel) ⟨Nat.le_of_ble_eq_true rfl, Nat.le_of_ble_eq_true rfl⟩) hK hP hD hS hA 0 pwC_0 rfl rfl hl.1 rfl (Nat.le_of_ble_eq_true rfl) dL_price_5 ⟨Nat.zero_le _, Nat.zero_le _⟩ (fun H locs hP hD hS => ?_)
  refine lv_i2l (v := Int32.toInt64 r1) hx hb dL_price_8 rfl ?_
  obtain ⟨x3, e1, h⟩ := letv_elim h
  refine pwS_45 X hK hP hD hS (by decide) e1 dL_price_9 (fun H locs hP hD hS => ?_)
  refine lv_goto (tgt := 17) hx hb dL_price_10 (by decide) ?_
  refine lv_iconst (v := 0) hx hb dL_price_17 (by decide) ?_
  cases h
  exact mpr_i X hK hP hD hS rfl dL_price_18
def f_L_play (x : PD) (p1 : Int32) : Option (Int32 × PD) :=
  bn2 (f_X5_play x p1) fun r1 x2 =>
  if r1 = 0 then
  (letv (wB x2 45 (vp_updL (rB x2 45) (Int32.toNatClampNeg ((0 : Int32))) ((0 : Int64)))) fun x3 =>
  some ((0 : Int32), x3))
  else
  letv (wB x2 45 (vp_updL (rB x2 45) (Int32.toNatClampNeg ((0 : Int32))) ((1 : Int64)))) fun x4 =>
  some ((0 : Int32), x4)
set_option maxHeartbeats 4000000 in
set_option maxRecDepth 100000 in
theorem c_L_play (l : Launch) (D : va_G) (y : CY) (a : Nat → Nat) {x : PD} {x' : PD} {r : Int32} {p1 : Int32} (h : f_L_play x p1 = some (r, x')) : mpMH l D y yL_play cL_play 4 (some .int) [(0, 16, 19, 13)] { frames := 5, cells := 0, slots := 0, locals := 122 } (pw y a x) (pw y a x') [.ref (a 0), .int p1, .ref (a 45)] (some (.int r)) := by
  refine mpMH.mk (own := RL) (by decide) rfl (Nat.le_of_ble_eq_true rfl) ?_
  intro p e s m below meth c A ls X hK hA hP hD hl
  have hS : va_S A s.heap s.heap [] := va_S.rf
  obtain ⟨⟨hx, hb, hml, hown, hts⟩, hr, hlk⟩ := id X
  have hl : lv_has ls 4 [(0, .ref (a 0)), (1, .int p1), (2, .ref (a 45))] := hl
  unfold f_L_play at h
  refine lv_aload_n hx hb dL_play_0 rfl (lv_at hl 2 rfl) ?_
  refine lv_iconst (v := 0) hx hb dL_play_1 (by decide) ?_
  refine lv_aload_n hx hb dL_play_2 rfl (lv_at hl 0 rfl) ?_
  refine lv_iload_n hx hb dL_play_3 rfl (lv_at hl 1 rfl) ?_
  obtain ⟨r1, x2, hr0, h⟩ := bn2_elim h
  refine mp_call1 (As := [.int p1]) (rest := [.int ((0 : Int32)), .ref (a 45)]) X (c_X5_play l D y a hr0) (mp_cw (k := 1) hts mM_L_21 mI_X5_play mS_X5_play mN_X5 mC_X5_play rfl rfl (by decide +kernel) ⟨Nat.le_of_ble_eq_true rfl, Nat.le_of_ble_eq_true rfl⟩) hK hP hD hS hA 0 pwC_0 rfl rfl hl.1 rfl (Nat.le_of_ble_eq_true rfl) dL_play_4 ⟨Nat.zero_le _, Nat.zero_le _⟩ (fun H locs hP hD hS => ?_)
  refine lv_if_eq (tgt := 14) hx hb dL_play_7 (by decide) (fun hc => ?_) (fun hc => ?_)
  · replace h := ift hc h
    refine lv_lconst (v := 0) hx hb dL_play_14 (by decide) ?_
    obtain ⟨x3, e1, h⟩ := letv_elim h
    refine pwS_45 X hK hP hD hS (by decide) e1 dL_play_15 (fun H locs hP hD hS => ?_)
    refine lv_goto (tgt := 22) hx hb dL_play_16 (by decide) ?_
    refine lv_iconst (v := 0) hx hb dL_play_22 (by decide) ?_
    cases h
    exact mpr_i X hK hP hD hS rfl dL_play_23
  · replace h := iff_ hc h
    refine lv_lconst (v := 1) hx hb dL_play_10 (by decide) ?_
    refine lv_goto (tgt := 15) hx hb dL_play_11 (by decide) ?_
    obtain ⟨x4, e1, h⟩ := letv_elim h
    refine pwS_45 X hK hP hD hS (by decide) e1 dL_play_15 (fun H locs hP hD hS => ?_)
    refine lv_goto (tgt := 22) hx hb dL_play_16 (by decide) ?_
    refine lv_iconst (v := 0) hx hb dL_play_22 (by decide) ?_
    cases h
    exact mpr_i X hK hP hD hS rfl dL_play_23
def f_L_ask (x : PD) (p1 : Int32) : Option (Int32 × PD) :=
  bn2 (f_X5_ask x p1) fun r1 x2 =>
  letv (wB x2 45 (vp_updL (rB x2 45) (Int32.toNatClampNeg ((0 : Int32))) (Int32.toInt64 r1))) fun x3 =>
  some ((0 : Int32), x3)
set_option maxHeartbeats 4000000 in
set_option maxRecDepth 100000 in
theorem c_L_ask (l : Launch) (D : va_G) (y : CY) (a : Nat → Nat) {x : PD} {x' : PD} {r : Int32} {p1 : Int32} (h : f_L_ask x p1 = some (r, x')) : mpMH l D y yL_ask cL_ask 4 (some .int) [(0, 9, 12, 19)] { frames := 5, cells := 0, slots := 0, locals := 122 } (pw y a x) (pw y a x') [.ref (a 0), .int p1, .ref (a 45)] (some (.int r)) := by
  refine mpMH.mk (own := RL) (by decide) rfl (Nat.le_of_ble_eq_true rfl) ?_
  intro p e s m below meth c A ls X hK hA hP hD hl
  have hS : va_S A s.heap s.heap [] := va_S.rf
  obtain ⟨⟨hx, hb, hml, hown, hts⟩, hr, hlk⟩ := id X
  have hl : lv_has ls 4 [(0, .ref (a 0)), (1, .int p1), (2, .ref (a 45))] := hl
  unfold f_L_ask at h
  refine lv_aload_n hx hb dL_ask_0 rfl (lv_at hl 2 rfl) ?_
  refine lv_iconst (v := 0) hx hb dL_ask_1 (by decide) ?_
  refine lv_aload_n hx hb dL_ask_2 rfl (lv_at hl 0 rfl) ?_
  refine lv_iload_n hx hb dL_ask_3 rfl (lv_at hl 1 rfl) ?_
  obtain ⟨r1, x2, hr0, h⟩ := bn2_elim h
  refine mp_call1 (As := [.int p1]) (rest := [.int ((0 : Int32)), .ref (a 45)]) X (c_X5_ask l D y a hr0) (mp_cw (k := 1) hts mM_L_25 mI_X5_ask mS_X5_ask mN_X5 mC_X5_ask rfl rfl (by decide +kernel) ⟨Nat.le_of_ble_eq_true rfl, Nat.le_of_ble_eq_true rfl⟩) hK hP hD hS hA 0 pwC_0 rfl rfl hl.1 rfl (Nat.le_of_ble_eq_true rfl) dL_ask_4 ⟨Nat.zero_le _, Nat.zero_le _⟩ (fun H locs hP hD hS => ?_)
  refine lv_i2l (v := Int32.toInt64 r1) hx hb dL_ask_7 rfl ?_
  obtain ⟨x3, e1, h⟩ := letv_elim h
  refine pwS_45 X hK hP hD hS (by decide) e1 dL_ask_8 (fun H locs hP hD hS => ?_)
  refine lv_goto (tgt := 15) hx hb dL_ask_9 (by decide) ?_
  refine lv_iconst (v := 0) hx hb dL_ask_15 (by decide) ?_
  cases h
  exact mpr_i X hK hP hD hS rfl dL_ask_16
def f_L_way (x : PD) (p1 : Int32) : Option (Int32 × PD) :=
  bn1 (f_X5_way x p1) fun r1 =>
  letv (wB x 45 (vp_updL (rB x 45) (Int32.toNatClampNeg ((0 : Int32))) (Int32.toInt64 r1))) fun x2 =>
  some ((0 : Int32), x2)
set_option maxHeartbeats 4000000 in
set_option maxRecDepth 100000 in
theorem c_L_way (l : Launch) (D : va_G) (y : CY) (a : Nat → Nat) {x : PD} {x' : PD} {r : Int32} {p1 : Int32} (h : f_L_way x p1 = some (r, x')) : mpMH l D y yL_way cL_way 4 (some .int) [(0, 9, 12, 13)] { frames := 3, cells := 0, slots := 0, locals := 62 } (pw y a x) (pw y a x') [.ref (a 0), .int p1, .ref (a 45)] (some (.int r)) := by
  refine mpMH.mk (own := RL) (by decide) rfl (Nat.le_of_ble_eq_true rfl) ?_
  intro p e s m below meth c A ls X hK hA hP hD hl
  have hS : va_S A s.heap s.heap [] := va_S.rf
  obtain ⟨⟨hx, hb, hml, hown, hts⟩, hr, hlk⟩ := id X
  have hl : lv_has ls 4 [(0, .ref (a 0)), (1, .int p1), (2, .ref (a 45))] := hl
  unfold f_L_way at h
  refine lv_aload_n hx hb dL_way_0 rfl (lv_at hl 2 rfl) ?_
  refine lv_iconst (v := 0) hx hb dL_way_1 (by decide) ?_
  refine lv_aload_n hx hb dL_way_2 rfl (lv_at hl 0 rfl) ?_
  refine lv_iload_n hx hb dL_way_3 rfl (lv_at hl 1 rfl) ?_
  obtain ⟨r1, hr0, h⟩ := bn1_elim h
  refine mp_call1 (As := [.int p1]) (rest := [.int ((0 : Int32)), .ref (a 45)]) X (c_X5_way l D y a hr0) (mp_cw (k := 1) hts mM_L_29 mI_X5_way mS_X5_way mN_X5 mC_X5_way rfl rfl (by decide +kernel) ⟨Nat.le_of_ble_eq_true rfl, Nat.le_of_ble_eq_true rfl⟩) hK hP hD hS hA 0 pwC_0 rfl rfl hl.1 rfl (Nat.le_of_ble_eq_true rfl) dL_way_4 ⟨Nat.zero_le _, Nat.zero_le _⟩ (fun H locs hP hD hS => ?_)
  refine lv_i2l (v := Int32.toInt64 r1) hx hb dL_way_7 rfl ?_
  obtain ⟨x2, e1, h⟩ := letv_elim h
  refine pwS_45 X hK hP hD hS (by decide) e1 dL_way_8 (fun H locs hP hD hS => ?_)
  refine lv_goto (tgt := 15) hx hb dL_way_9 (by decide) ?_
  refine lv_iconst (v := 0) hx hb dL_way_15 (by decide) ?_
  cases h
  exact mpr_i X hK hP hD hS rfl dL_way_16
def f_L_reach (x : PD) (p1 : Int32) (p2 : Int32) : Option (Int32 × PD) :=
  bn2 (f_X5_reach x p1 p2) fun r1 x2 =>
  letv (wB x2 45 (vp_updL (rB x2 45) (Int32.toNatClampNeg ((0 : Int32))) r1)) fun x3 =>
  some ((0 : Int32), x3)
set_option maxHeartbeats 4000000 in
set_option maxRecDepth 100000 in
theorem c_L_reach (l : Launch) (D : va_G) (y : CY) (a : Nat → Nat) {x : PD} {x' : PD} {r : Int32} {p1 : Int32} {p2 : Int32} (h : f_L_reach x p1 p2 = some (r, x')) : mpMH l D y yL_reach cL_reach 5 (some .int) [(0, 9, 12, 13), (0, 9, 16, 19)] { frames := 4, cells := 0, slots := 0, locals := 102 } (pw y a x) (pw y a x') [.ref (a 0), .int p1, .int p2, .ref (a 45)] (some (.int r)) := by
  refine mpMH.mk (own := RL) (by decide) rfl (Nat.le_of_ble_eq_true rfl) ?_
  intro p e s m below meth c A ls X hK hA hP hD hl
  have hS : va_S A s.heap s.heap [] := va_S.rf
  obtain ⟨⟨hx, hb, hml, hown, hts⟩, hr, hlk⟩ := id X
  have hl : lv_has ls 5 [(0, .ref (a 0)), (1, .int p1), (2, .int p2), (3, .ref (a 45))] := hl
  unfold f_L_reach at h
  refine lv_aload_n hx hb dL_reach_0 rfl (lv_at hl 3 rfl) ?_
  refine lv_iconst (v := 0) hx hb dL_reach_1 (by decide) ?_
  refine lv_aload_n hx hb dL_reach_2 rfl (lv_at hl 0 rfl) ?_
  refine lv_iload_n hx hb dL_reach_3 rfl (lv_at hl 1 rfl) ?_
  refine lv_iload_n hx hb dL_reach_4 rfl (lv_at hl 2 rfl) ?_
  obtain ⟨r1, x2, hr0, h⟩ := bn2_elim h
  refine mp_call1 (As := [.int p1, .int p2]) (rest := [.int ((0 : Int32)), .ref (a 45)]) X (c_X5_reach l D y a hr0) (mp_cw (k := 2) hts mM_L_32 mI_X5_reach mS_X5_reach mN_X5 mC_X5_reach rfl rfl (by decide +kernel) ⟨Nat.le_of_ble_eq_true rfl, Nat.le_of_ble_eq_true rfl⟩) hK hP hD hS hA 0 pwC_0 rfl rfl hl.1 rfl (Nat.le_of_ble_eq_true rfl) dL_reach_5 ⟨Nat.zero_le _, Nat.zero_le _⟩ (fun H locs hP hD hS => ?_)
  obtain ⟨x3, e1, h⟩ := letv_elim h
  refine pwS_45 X hK hP hD hS (by decide) e1 dL_reach_8 (fun H locs hP hD hS => ?_)
  refine lv_goto (tgt := 20) hx hb dL_reach_9 (by decide) ?_
  refine lv_iconst (v := 0) hx hb dL_reach_20 (by decide) ?_
  cases h
  exact mpr_i X hK hP hD hS rfl dL_reach_21
def f_L_lacks (x : PD) (p1 : Int32) (p2 : Int32) : Option (Int32 × PD) :=
  bn2 (f_X5_lacks x p1 p2) fun r1 x2 =>
  letv (wB x2 45 (vp_updL (rB x2 45) (Int32.toNatClampNeg ((0 : Int32))) (Int32.toInt64 r1))) fun x3 =>
  some ((0 : Int32), x3)
set_option maxHeartbeats 4000000 in
set_option maxRecDepth 100000 in
theorem c_L_lacks (l : Launch) (D : va_G) (y : CY) (a : Nat → Nat) {x : PD} {x' : PD} {r : Int32} {p1 : Int32} {p2 : Int32} (h : f_L_lacks x p1 p2 = some (r, x')) : mpMH l D y yL_lacks cL_lacks 5 (some .int) [(0, 10, 13, 13), (0, 10, 17, 19)] { frames := 4, cells := 0, slots := 0, locals := 103 } (pw y a x) (pw y a x') [.ref (a 0), .int p1, .int p2, .ref (a 45)] (some (.int r)) := by
  refine mpMH.mk (own := RL) (by decide) rfl (Nat.le_of_ble_eq_true rfl) ?_
  intro p e s m below meth c A ls X hK hA hP hD hl
  have hS : va_S A s.heap s.heap [] := va_S.rf
  obtain ⟨⟨hx, hb, hml, hown, hts⟩, hr, hlk⟩ := id X
  have hl : lv_has ls 5 [(0, .ref (a 0)), (1, .int p1), (2, .int p2), (3, .ref (a 45))] := hl
  unfold f_L_lacks at h
  refine lv_aload_n hx hb dL_lacks_0 rfl (lv_at hl 3 rfl) ?_
  refine lv_iconst (v := 0) hx hb dL_lacks_1 (by decide) ?_
  refine lv_aload_n hx hb dL_lacks_2 rfl (lv_at hl 0 rfl) ?_
  refine lv_iload_n hx hb dL_lacks_3 rfl (lv_at hl 1 rfl) ?_
  refine lv_iload_n hx hb dL_lacks_4 rfl (lv_at hl 2 rfl) ?_
  obtain ⟨r1, x2, hr0, h⟩ := bn2_elim h
  refine mp_call1 (As := [.int p1, .int p2]) (rest := [.int ((0 : Int32)), .ref (a 45)]) X (c_X5_lacks l D y a hr0) (mp_cw (k := 2) hts mM_L_36 mI_X5_lacks mS_X5_lacks mN_X5 mC_X5_lacks rfl rfl (by decide +kernel) ⟨Nat.le_of_ble_eq_true rfl, Nat.le_of_ble_eq_true rfl⟩) hK hP hD hS hA 0 pwC_0 rfl rfl hl.1 rfl (Nat.le_of_ble_eq_true rfl) dL_lacks_5 ⟨Nat.zero_le _, Nat.zero_le _⟩ (fun H locs hP hD hS => ?_)
  refine lv_i2l (v := Int32.toInt64 r1) hx hb dL_lacks_8 rfl ?_
  obtain ⟨x3, e1, h⟩ := letv_elim h
  refine pwS_45 X hK hP hD hS (by decide) e1 dL_lacks_9 (fun H locs hP hD hS => ?_)
  refine lv_goto (tgt := 21) hx hb dL_lacks_10 (by decide) ?_
  refine lv_iconst (v := 0) hx hb dL_lacks_21 (by decide) ?_
  cases h
  exact mpr_i X hK hP hD hS rfl dL_lacks_22
def f_L_layer (x : PD) (p1 : Int32) (p2 : Int32) : Option (Int32 × PD) :=
  bn2 (f_X5_layer x p1 p2) fun r1 x2 =>
  letv (wB x2 45 (vp_updL (rB x2 45) (Int32.toNatClampNeg ((0 : Int32))) (Int32.toInt64 r1))) fun x3 =>
  some ((0 : Int32), x3)
set_option maxHeartbeats 4000000 in
set_option maxRecDepth 100000 in
theorem c_L_layer (l : Launch) (D : va_G) (y : CY) (a : Nat → Nat) {x : PD} {x' : PD} {r : Int32} {p1 : Int32} {p2 : Int32} (h : f_L_layer x p1 p2 = some (r, x')) : mpMH l D y yL_layer cL_layer 5 (some .int) [(0, 10, 13, 13)] { frames := 3, cells := 0, slots := 0, locals := 65 } (pw y a x) (pw y a x') [.ref (a 0), .int p1, .int p2, .ref (a 45)] (some (.int r)) := by
  refine mpMH.mk (own := RL) (by decide) rfl (Nat.le_of_ble_eq_true rfl) ?_
  intro p e s m below meth c A ls X hK hA hP hD hl
  have hS : va_S A s.heap s.heap [] := va_S.rf
  obtain ⟨⟨hx, hb, hml, hown, hts⟩, hr, hlk⟩ := id X
  have hl : lv_has ls 5 [(0, .ref (a 0)), (1, .int p1), (2, .int p2), (3, .ref (a 45))] := hl
  unfold f_L_layer at h
  refine lv_aload_n hx hb dL_layer_0 rfl (lv_at hl 3 rfl) ?_
  refine lv_iconst (v := 0) hx hb dL_layer_1 (by decide) ?_
  refine lv_aload_n hx hb dL_layer_2 rfl (lv_at hl 0 rfl) ?_
  refine lv_iload_n hx hb dL_layer_3 rfl (lv_at hl 1 rfl) ?_
  refine lv_iload_n hx hb dL_layer_4 rfl (lv_at hl 2 rfl) ?_
  obtain ⟨r1, x2, hr0, h⟩ := bn2_elim h
  refine mp_call1 (As := [.int p1, .int p2]) (rest := [.int ((0 : Int32)), .ref (a 45)]) X (c_X5_layer l D y a hr0) (mp_cw (k := 2) hts mM_L_39 mI_X5_layer mS_X5_layer mN_X5 mC_X5_layer rfl rfl (by decide +kernel) ⟨Nat.le_of_ble_eq_true rfl, Nat.le_of_ble_eq_true rfl⟩) hK hP hD hS hA 0 pwC_0 rfl rfl hl.1 rfl (Nat.le_of_ble_eq_true rfl) dL_layer_5 ⟨Nat.zero_le _, Nat.zero_le _⟩ (fun H locs hP hD hS => ?_)
  refine lv_i2l (v := Int32.toInt64 r1) hx hb dL_layer_8 rfl ?_
  obtain ⟨x3, e1, h⟩ := letv_elim h
  refine pwS_45 X hK hP hD hS (by decide) e1 dL_layer_9 (fun H locs hP hD hS => ?_)
  refine lv_goto (tgt := 17) hx hb dL_layer_10 (by decide) ?_
  refine lv_iconst (v := 0) hx hb dL_layer_17 (by decide) ?_
  cases h
  exact mpr_i X hK hP hD hS rfl dL_layer_18
def f_L_sting (x : PD) (p1 : Int32) : Option (Int32 × PD) :=
  bn2 (f_X5_sting x p1) fun r1 x2 =>
  letv (wB x2 45 (vp_updL (rB x2 45) (Int32.toNatClampNeg ((0 : Int32))) (Int32.toInt64 r1))) fun x3 =>
  some ((0 : Int32), x3)
set_option maxHeartbeats 4000000 in
set_option maxRecDepth 100000 in
theorem c_L_sting (l : Launch) (D : va_G) (y : CY) (a : Nat → Nat) {x : PD} {x' : PD} {r : Int32} {p1 : Int32} (h : f_L_sting x p1 = some (r, x')) : mpMH l D y yL_sting cL_sting 4 (some .int) [(0, 9, 12, 13)] { frames := 3, cells := 0, slots := 0, locals := 63 } (pw y a x) (pw y a x') [.ref (a 0), .int p1, .ref (a 45)] (some (.int r)) := by
  refine mpMH.mk (own := RL) (by decide) rfl (Nat.le_of_ble_eq_true rfl) ?_
  intro p e s m below meth c A ls X hK hA hP hD hl
  have hS : va_S A s.heap s.heap [] := va_S.rf
  obtain ⟨⟨hx, hb, hml, hown, hts⟩, hr, hlk⟩ := id X
  have hl : lv_has ls 4 [(0, .ref (a 0)), (1, .int p1), (2, .ref (a 45))] := hl
  unfold f_L_sting at h
  refine lv_aload_n hx hb dL_sting_0 rfl (lv_at hl 2 rfl) ?_
  refine lv_iconst (v := 0) hx hb dL_sting_1 (by decide) ?_
  refine lv_aload_n hx hb dL_sting_2 rfl (lv_at hl 0 rfl) ?_
  refine lv_iload_n hx hb dL_sting_3 rfl (lv_at hl 1 rfl) ?_
  obtain ⟨r1, x2, hr0, h⟩ := bn2_elim h
  refine mp_call1 (As := [.int p1]) (rest := [.int ((0 : Int32)), .ref (a 45)]) X (c_X5_sting l D y a hr0) (mp_cw (k := 1) hts mM_L_42 mI_X5_sting mS_X5_sting mN_X5 mC_X5_sting rfl rfl (by decide +kernel) ⟨Nat.le_of_ble_eq_true rfl, Nat.le_of_ble_eq_true rfl⟩) hK hP hD hS hA 0 pwC_0 rfl rfl hl.1 rfl (Nat.le_of_ble_eq_true rfl) dL_sting_4 ⟨Nat.zero_le _, Nat.zero_le _⟩ (fun H locs hP hD hS => ?_)
  refine lv_i2l (v := Int32.toInt64 r1) hx hb dL_sting_7 rfl ?_
  obtain ⟨x3, e1, h⟩ := letv_elim h
  refine pwS_45 X hK hP hD hS (by decide) e1 dL_sting_8 (fun H locs hP hD hS => ?_)
  refine lv_goto (tgt := 15) hx hb dL_sting_9 (by decide) ?_
  refine lv_iconst (v := 0) hx hb dL_sting_15 (by decide) ?_
  cases h
  exact mpr_i X hK hP hD hS rfl dL_sting_16
def f_L_go (x : PD) (p1 : Int32) : Option (Int32 × PD) :=
  bn2 (f_X5_go x p1) fun r1 x2 =>
  letv (wB x2 45 (vp_updL (rB x2 45) (Int32.toNatClampNeg ((0 : Int32))) r1)) fun x3 =>
  some ((0 : Int32), x3)
set_option maxHeartbeats 4000000 in
set_option maxRecDepth 100000 in
theorem c_L_go (l : Launch) (D : va_G) (y : CY) (a : Nat → Nat) {x : PD} {x' : PD} {r : Int32} {p1 : Int32} (h : f_L_go x p1 = some (r, x')) : mpMH l D y yL_go cL_go 4 (some .int) [(0, 8, 11, 19)] { frames := 7, cells := 0, slots := 0, locals := 170 } (pw y a x) (pw y a x') [.ref (a 0), .int p1, .ref (a 45)] (some (.int r)) := by
  refine mpMH.mk (own := RL) (by decide) rfl (Nat.le_of_ble_eq_true rfl) ?_
  intro p e s m below meth c A ls X hK hA hP hD hl
  have hS : va_S A s.heap s.heap [] := va_S.rf
  obtain ⟨⟨hx, hb, hml, hown, hts⟩, hr, hlk⟩ := id X
  have hl : lv_has ls 4 [(0, .ref (a 0)), (1, .int p1), (2, .ref (a 45))] := hl
  unfold f_L_go at h
  refine lv_aload_n hx hb dL_go_0 rfl (lv_at hl 2 rfl) ?_
  refine lv_iconst (v := 0) hx hb dL_go_1 (by decide) ?_
  refine lv_aload_n hx hb dL_go_2 rfl (lv_at hl 0 rfl) ?_
  refine lv_iload_n hx hb dL_go_3 rfl (lv_at hl 1 rfl) ?_
  obtain ⟨r1, x2, hr0, h⟩ := bn2_elim h
  refine mp_call1 (As := [.int p1]) (rest := [.int ((0 : Int32)), .ref (a 45)]) X (c_X5_go l D y a hr0) (mp_cw (k := 1) hts mM_L_45 mI_X5_go mS_X5_go mN_X5 mC_X5_go rfl rfl (by decide +kernel) ⟨Nat.le_of_ble_eq_true rfl, Nat.le_of_ble_eq_true rfl⟩) hK hP hD hS hA 0 pwC_0 rfl rfl hl.1 rfl (Nat.le_of_ble_eq_true rfl) dL_go_4 ⟨Nat.zero_le _, Nat.zero_le _⟩ (fun H locs hP hD hS => ?_)
  obtain ⟨x3, e1, h⟩ := letv_elim h
  refine pwS_45 X hK hP hD hS (by decide) e1 dL_go_7 (fun H locs hP hD hS => ?_)
  refine lv_goto (tgt := 14) hx hb dL_go_8 (by decide) ?_
  refine lv_iconst (v := 0) hx hb dL_go_14 (by decide) ?_
  cases h
  exact mpr_i X hK hP hD hS rfl dL_go_15
def f_L_now (x : PD) (p1 : Int32) : Option (Int32 × PD) :=
  bn1 (f_X5_now x p1) fun r1 =>
  letv (wB x 45 (vp_updL (rB x 45) (Int32.toNatClampNeg ((0 : Int32))) (Int32.toInt64 r1))) fun x2 =>
  some ((0 : Int32), x2)
set_option maxHeartbeats 4000000 in
set_option maxRecDepth 100000 in
theorem c_L_now (l : Launch) (D : va_G) (y : CY) (a : Nat → Nat) {x : PD} {x' : PD} {r : Int32} {p1 : Int32} (h : f_L_now x p1 = some (r, x')) : mpMH l D y yL_now cL_now 4 (some .int) [(0, 9, 12, 13)] { frames := 2, cells := 0, slots := 0, locals := 43 } (pw y a x) (pw y a x') [.ref (a 0), .int p1, .ref (a 45)] (some (.int r)) := by
  refine mpMH.mk (own := RL) (by decide) rfl (Nat.le_of_ble_eq_true rfl) ?_
  intro p e s m below meth c A ls X hK hA hP hD hl
  have hS : va_S A s.heap s.heap [] := va_S.rf
  obtain ⟨⟨hx, hb, hml, hown, hts⟩, hr, hlk⟩ := id X
  have hl : lv_has ls 4 [(0, .ref (a 0)), (1, .int p1), (2, .ref (a 45))] := hl
  unfold f_L_now at h
  refine lv_aload_n hx hb dL_now_0 rfl (lv_at hl 2 rfl) ?_
  refine lv_iconst (v := 0) hx hb dL_now_1 (by decide) ?_
  refine lv_aload_n hx hb dL_now_2 rfl (lv_at hl 0 rfl) ?_
  refine lv_iload_n hx hb dL_now_3 rfl (lv_at hl 1 rfl) ?_
  obtain ⟨r1, hr0, h⟩ := bn1_elim h
  refine mp_call1 (As := [.int p1]) (rest := [.int ((0 : Int32)), .ref (a 45)]) X (c_X5_now l D y a hr0) (mp_cw (k := 1) hts mM_L_49 mI_X5_now mS_X5_now mN_X5 mC_X5_now rfl rfl (by decide +kernel) ⟨Nat.le_of_ble_eq_true rfl, Nat.le_of_ble_eq_true rfl⟩) hK hP hD hS hA 0 pwC_0 rfl rfl hl.1 rfl (Nat.le_of_ble_eq_true rfl) dL_now_4 ⟨Nat.zero_le _, Nat.zero_le _⟩ (fun H locs hP hD hS => ?_)
  refine lv_i2l (v := Int32.toInt64 r1) hx hb dL_now_7 rfl ?_
  obtain ⟨x2, e1, h⟩ := letv_elim h
  refine pwS_45 X hK hP hD hS (by decide) e1 dL_now_8 (fun H locs hP hD hS => ?_)
  refine lv_goto (tgt := 15) hx hb dL_now_9 (by decide) ?_
  refine lv_iconst (v := 0) hx hb dL_now_15 (by decide) ?_
  cases h
  exact mpr_i X hK hP hD hS rfl dL_now_16
def f_L_level (x : PD) (p1 : Int32) : Option (Int32 × PD) :=
  bn1 (f_X5_level x p1) fun r1 =>
  letv (wB x 45 (vp_updL (rB x 45) (Int32.toNatClampNeg ((0 : Int32))) (Int32.toInt64 r1))) fun x2 =>
  some ((0 : Int32), x2)
set_option maxHeartbeats 4000000 in
set_option maxRecDepth 100000 in
theorem c_L_level (l : Launch) (D : va_G) (y : CY) (a : Nat → Nat) {x : PD} {x' : PD} {r : Int32} {p1 : Int32} (h : f_L_level x p1 = some (r, x')) : mpMH l D y yL_level cL_level 4 (some .int) [(0, 9, 12, 13)] { frames := 3, cells := 0, slots := 0, locals := 63 } (pw y a x) (pw y a x') [.ref (a 0), .int p1, .ref (a 45)] (some (.int r)) := by
  refine mpMH.mk (own := RL) (by decide) rfl (Nat.le_of_ble_eq_true rfl) ?_
  intro p e s m below meth c A ls X hK hA hP hD hl
  have hS : va_S A s.heap s.heap [] := va_S.rf
  obtain ⟨⟨hx, hb, hml, hown, hts⟩, hr, hlk⟩ := id X
  have hl : lv_has ls 4 [(0, .ref (a 0)), (1, .int p1), (2, .ref (a 45))] := hl
  unfold f_L_level at h
  refine lv_aload_n hx hb dL_level_0 rfl (lv_at hl 2 rfl) ?_
  refine lv_iconst (v := 0) hx hb dL_level_1 (by decide) ?_
  refine lv_aload_n hx hb dL_level_2 rfl (lv_at hl 0 rfl) ?_
  refine lv_iload_n hx hb dL_level_3 rfl (lv_at hl 1 rfl) ?_
  obtain ⟨r1, hr0, h⟩ := bn1_elim h
  refine mp_call1 (As := [.int p1]) (rest := [.int ((0 : Int32)), .ref (a 45)]) X (c_X5_level l D y a hr0) (mp_cw (k := 1) hts mM_L_52 mI_X5_level mS_X5_level mN_X5 mC_X5_level rfl rfl (by decide +kernel) ⟨Nat.le_of_ble_eq_true rfl, Nat.le_of_ble_eq_true rfl⟩) hK hP hD hS hA 0 pwC_0 rfl rfl hl.1 rfl (Nat.le_of_ble_eq_true rfl) dL_level_4 ⟨Nat.zero_le _, Nat.zero_le _⟩ (fun H locs hP hD hS => ?_)
  refine lv_i2l (v := Int32.toInt64 r1) hx hb dL_level_7 rfl ?_
  obtain ⟨x2, e1, h⟩ := letv_elim h
  refine pwS_45 X hK hP hD hS (by decide) e1 dL_level_8 (fun H locs hP hD hS => ?_)
  refine lv_goto (tgt := 15) hx hb dL_level_9 (by decide) ?_
  refine lv_iconst (v := 0) hx hb dL_level_15 (by decide) ?_
  cases h
  exact mpr_i X hK hP hD hS rfl dL_level_16
def f_L_log (x : PD) (p1 : Int32) (p2 : Int32) : Option (Int32 × PD) :=
  bn1 (f_X5_log x p1 p2) fun r1 =>
  letv (wB x 45 (vp_updL (rB x 45) (Int32.toNatClampNeg ((0 : Int32))) r1)) fun x2 =>
  some ((0 : Int32), x2)
set_option maxHeartbeats 4000000 in
set_option maxRecDepth 100000 in
theorem c_L_log (l : Launch) (D : va_G) (y : CY) (a : Nat → Nat) {x : PD} {x' : PD} {r : Int32} {p1 : Int32} {p2 : Int32} (h : f_L_log x p1 p2 = some (r, x')) : mpMH l D y yL_log cL_log 5 (some .int) [(0, 9, 12, 13)] { frames := 2, cells := 0, slots := 0, locals := 45 } (pw y a x) (pw y a x') [.ref (a 0), .int p1, .int p2, .ref (a 45)] (some (.int r)) := by
  refine mpMH.mk (own := RL) (by decide) rfl (Nat.le_of_ble_eq_true rfl) ?_
  intro p e s m below meth c A ls X hK hA hP hD hl
  have hS : va_S A s.heap s.heap [] := va_S.rf
  obtain ⟨⟨hx, hb, hml, hown, hts⟩, hr, hlk⟩ := id X
  have hl : lv_has ls 5 [(0, .ref (a 0)), (1, .int p1), (2, .int p2), (3, .ref (a 45))] := hl
  unfold f_L_log at h
  refine lv_aload_n hx hb dL_log_0 rfl (lv_at hl 3 rfl) ?_
  refine lv_iconst (v := 0) hx hb dL_log_1 (by decide) ?_
  refine lv_aload_n hx hb dL_log_2 rfl (lv_at hl 0 rfl) ?_
  refine lv_iload_n hx hb dL_log_3 rfl (lv_at hl 1 rfl) ?_
  refine lv_iload_n hx hb dL_log_4 rfl (lv_at hl 2 rfl) ?_
  obtain ⟨r1, hr0, h⟩ := bn1_elim h
  refine mp_call1 (As := [.int p1, .int p2]) (rest := [.int ((0 : Int32)), .ref (a 45)]) X (c_X5_log l D y a hr0) (mp_cw (k := 2) hts mM_L_55 mI_X5_log mS_X5_log mN_X5 mC_X5_log rfl rfl (by decide +kernel) ⟨Nat.le_of_ble_eq_true rfl, Nat.le_of_ble_eq_true rfl⟩) hK hP hD hS hA 0 pwC_0 rfl rfl hl.1 rfl (Nat.le_of_ble_eq_true rfl) dL_log_5 ⟨Nat.zero_le _, Nat.zero_le _⟩ (fun H locs hP hD hS => ?_)
  obtain ⟨x2, e1, h⟩ := letv_elim h
  refine pwS_45 X hK hP hD hS (by decide) e1 dL_log_8 (fun H locs hP hD hS => ?_)
  refine lv_goto (tgt := 16) hx hb dL_log_9 (by decide) ?_
  refine lv_iconst (v := 0) hx hb dL_log_16 (by decide) ?_
  cases h
  exact mpr_i X hK hP hD hS rfl dL_log_17
def f_L_keep_v0 (x : PD) : Option (Int32 × PD) :=
  bn2 (f_X5_keep_v0 x) fun r1 x2 =>
  if r1 = 0 then
  (letv (wB x2 45 (vp_updL (rB x2 45) (Int32.toNatClampNeg ((0 : Int32))) ((0 : Int64)))) fun x3 =>
  some ((0 : Int32), x3))
  else
  letv (wB x2 45 (vp_updL (rB x2 45) (Int32.toNatClampNeg ((0 : Int32))) ((1 : Int64)))) fun x4 =>
  some ((0 : Int32), x4)
set_option maxHeartbeats 4000000 in
set_option maxRecDepth 100000 in
theorem c_L_keep_v0 (l : Launch) (D : va_G) (y : CY) (a : Nat → Nat) {x : PD} {x' : PD} {r : Int32} (h : f_L_keep_v0 x = some (r, x')) : mpMH l D y yL_keep cL_keep 4 (some .int) [(0, 16, 19, 19)] { frames := 3, cells := 0, slots := 0, locals := 84 } (pw y a x) (pw y a x') [.ref (a 0), .int ((0 : Int32)), .ref (a 45)] (some (.int r)) := by
  refine mpMH.mk (own := RL) (by decide) rfl (Nat.le_of_ble_eq_true rfl) ?_
  intro p e s m below meth c A ls X hK hA hP hD hl
  have hS : va_S A s.heap s.heap [] := va_S.rf
  obtain ⟨⟨hx, hb, hml, hown, hts⟩, hr, hlk⟩ := id X
  have hl : lv_has ls 4 [(0, .ref (a 0)), (1, .int ((0 : Int32))), (2, .ref (a 45))] := hl
  unfold f_L_keep_v0 at h
  refine lv_aload_n hx hb dL_keep_0 rfl (lv_at hl 2 rfl) ?_
  refine lv_iconst (v := 0) hx hb dL_keep_1 (by decide) ?_
  refine lv_aload_n hx hb dL_keep_2 rfl (lv_at hl 0 rfl) ?_
  refine lv_iload_n hx hb dL_keep_3 rfl (lv_at hl 1 rfl) ?_
  obtain ⟨r1, x2, hr0, h⟩ := bn2_elim h
  refine mp_call1 (As := [.int ((0 : Int32))]) (rest := [.int ((0 : Int32)), .ref (a 45)]) X (c_X5_keep_v0 l D y a hr0) (mp_cw (k := 1) hts mM_L_58 mI_X5_keep mS_X5_keep mN_X5 mC_X5_keep rfl rfl (by decide +kernel) ⟨Nat.le_of_ble_eq_true rfl, Nat.le_of_ble_eq_true rfl⟩) hK hP hD hS hA 0 pwC_0 rfl rfl hl.1 rfl (Nat.le_of_ble_eq_true rfl) dL_keep_4 ⟨Nat.zero_le _, Nat.zero_le _⟩ (fun H locs hP hD hS => ?_)
  refine lv_if_eq (tgt := 14) hx hb dL_keep_7 (by decide) (fun hc => ?_) (fun hc => ?_)
  · replace h := ift hc h
    refine lv_lconst (v := 0) hx hb dL_keep_14 (by decide) ?_
    obtain ⟨x3, e1, h⟩ := letv_elim h
    refine pwS_45 X hK hP hD hS (by decide) e1 dL_keep_15 (fun H locs hP hD hS => ?_)
    refine lv_goto (tgt := 22) hx hb dL_keep_16 (by decide) ?_
    refine lv_iconst (v := 0) hx hb dL_keep_22 (by decide) ?_
    cases h
    exact mpr_i X hK hP hD hS rfl dL_keep_23
  · replace h := iff_ hc h
    refine lv_lconst (v := 1) hx hb dL_keep_10 (by decide) ?_
    refine lv_goto (tgt := 15) hx hb dL_keep_11 (by decide) ?_
    obtain ⟨x4, e1, h⟩ := letv_elim h
    refine pwS_45 X hK hP hD hS (by decide) e1 dL_keep_15 (fun H locs hP hD hS => ?_)
    refine lv_goto (tgt := 22) hx hb dL_keep_16 (by decide) ?_
    refine lv_iconst (v := 0) hx hb dL_keep_22 (by decide) ?_
    cases h
    exact mpr_i X hK hP hD hS rfl dL_keep_23
def f_L_keep_v1 (x : PD) : Option (Int32 × PD) :=
  bn2 (f_X5_keep_v1 x) fun r1 x2 =>
  if r1 = 0 then
  (letv (wB x2 45 (vp_updL (rB x2 45) (Int32.toNatClampNeg ((0 : Int32))) ((0 : Int64)))) fun x3 =>
  some ((0 : Int32), x3))
  else
  letv (wB x2 45 (vp_updL (rB x2 45) (Int32.toNatClampNeg ((0 : Int32))) ((1 : Int64)))) fun x4 =>
  some ((0 : Int32), x4)
set_option maxHeartbeats 4000000 in
set_option maxRecDepth 100000 in
theorem c_L_keep_v1 (l : Launch) (D : va_G) (y : CY) (a : Nat → Nat) {x : PD} {x' : PD} {r : Int32} (h : f_L_keep_v1 x = some (r, x')) : mpMH l D y yL_keep cL_keep 4 (some .int) [(0, 16, 19, 19)] { frames := 3, cells := 0, slots := 0, locals := 84 } (pw y a x) (pw y a x') [.ref (a 0), .int ((1 : Int32)), .ref (a 45)] (some (.int r)) := by
  refine mpMH.mk (own := RL) (by decide) rfl (Nat.le_of_ble_eq_true rfl) ?_
  intro p e s m below meth c A ls X hK hA hP hD hl
  have hS : va_S A s.heap s.heap [] := va_S.rf
  obtain ⟨⟨hx, hb, hml, hown, hts⟩, hr, hlk⟩ := id X
  have hl : lv_has ls 4 [(0, .ref (a 0)), (1, .int ((1 : Int32))), (2, .ref (a 45))] := hl
  unfold f_L_keep_v1 at h
  refine lv_aload_n hx hb dL_keep_0 rfl (lv_at hl 2 rfl) ?_
  refine lv_iconst (v := 0) hx hb dL_keep_1 (by decide) ?_
  refine lv_aload_n hx hb dL_keep_2 rfl (lv_at hl 0 rfl) ?_
  refine lv_iload_n hx hb dL_keep_3 rfl (lv_at hl 1 rfl) ?_
  obtain ⟨r1, x2, hr0, h⟩ := bn2_elim h
  refine mp_call1 (As := [.int ((1 : Int32))]) (rest := [.int ((0 : Int32)), .ref (a 45)]) X (c_X5_keep_v1 l D y a hr0) (mp_cw (k := 1) hts mM_L_58 mI_X5_keep mS_X5_keep mN_X5 mC_X5_keep rfl rfl (by decide +kernel) ⟨Nat.le_of_ble_eq_true rfl, Nat.le_of_ble_eq_true rfl⟩) hK hP hD hS hA 0 pwC_0 rfl rfl hl.1 rfl (Nat.le_of_ble_eq_true rfl) dL_keep_4 ⟨Nat.zero_le _, Nat.zero_le _⟩ (fun H locs hP hD hS => ?_)
  refine lv_if_eq (tgt := 14) hx hb dL_keep_7 (by decide) (fun hc => ?_) (fun hc => ?_)
  · replace h := ift hc h
    refine lv_lconst (v := 0) hx hb dL_keep_14 (by decide) ?_
    obtain ⟨x3, e1, h⟩ := letv_elim h
    refine pwS_45 X hK hP hD hS (by decide) e1 dL_keep_15 (fun H locs hP hD hS => ?_)
    refine lv_goto (tgt := 22) hx hb dL_keep_16 (by decide) ?_
    refine lv_iconst (v := 0) hx hb dL_keep_22 (by decide) ?_
    cases h
    exact mpr_i X hK hP hD hS rfl dL_keep_23
  · replace h := iff_ hc h
    refine lv_lconst (v := 1) hx hb dL_keep_10 (by decide) ?_
    refine lv_goto (tgt := 15) hx hb dL_keep_11 (by decide) ?_
    obtain ⟨x4, e1, h⟩ := letv_elim h
    refine pwS_45 X hK hP hD hS (by decide) e1 dL_keep_15 (fun H locs hP hD hS => ?_)
    refine lv_goto (tgt := 22) hx hb dL_keep_16 (by decide) ?_
    refine lv_iconst (v := 0) hx hb dL_keep_22 (by decide) ?_
    cases h
    exact mpr_i X hK hP hD hS rfl dL_keep_23
def f_L_keep_v2 (x : PD) : Option (Int32 × PD) :=
  bn2 (f_X5_keep_v2 x) fun r1 x2 =>
  if r1 = 0 then
  (letv (wB x2 45 (vp_updL (rB x2 45) (Int32.toNatClampNeg ((0 : Int32))) ((0 : Int64)))) fun x3 =>
  some ((0 : Int32), x3))
  else
  letv (wB x2 45 (vp_updL (rB x2 45) (Int32.toNatClampNeg ((0 : Int32))) ((1 : Int64)))) fun x4 =>
  some ((0 : Int32), x4)
set_option maxHeartbeats 4000000 in
set_option maxRecDepth 100000 in
theorem c_L_keep_v2 (l : Launch) (D : va_G) (y : CY) (a : Nat → Nat) {x : PD} {x' : PD} {r : Int32} (h : f_L_keep_v2 x = some (r, x')) : mpMH l D y yL_keep cL_keep 4 (some .int) [(0, 16, 19, 19)] { frames := 3, cells := 0, slots := 0, locals := 84 } (pw y a x) (pw y a x') [.ref (a 0), .int ((2 : Int32)), .ref (a 45)] (some (.int r)) := by
  refine mpMH.mk (own := RL) (by decide) rfl (Nat.le_of_ble_eq_true rfl) ?_
  intro p e s m below meth c A ls X hK hA hP hD hl
  have hS : va_S A s.heap s.heap [] := va_S.rf
  obtain ⟨⟨hx, hb, hml, hown, hts⟩, hr, hlk⟩ := id X
  have hl : lv_has ls 4 [(0, .ref (a 0)), (1, .int ((2 : Int32))), (2, .ref (a 45))] := hl
  unfold f_L_keep_v2 at h
  refine lv_aload_n hx hb dL_keep_0 rfl (lv_at hl 2 rfl) ?_
  refine lv_iconst (v := 0) hx hb dL_keep_1 (by decide) ?_
  refine lv_aload_n hx hb dL_keep_2 rfl (lv_at hl 0 rfl) ?_
  refine lv_iload_n hx hb dL_keep_3 rfl (lv_at hl 1 rfl) ?_
  obtain ⟨r1, x2, hr0, h⟩ := bn2_elim h
  refine mp_call1 (As := [.int ((2 : Int32))]) (rest := [.int ((0 : Int32)), .ref (a 45)]) X (c_X5_keep_v2 l D y a hr0) (mp_cw (k := 1) hts mM_L_58 mI_X5_keep mS_X5_keep mN_X5 mC_X5_keep rfl rfl (by decide +kernel) ⟨Nat.le_of_ble_eq_true rfl, Nat.le_of_ble_eq_true rfl⟩) hK hP hD hS hA 0 pwC_0 rfl rfl hl.1 rfl (Nat.le_of_ble_eq_true rfl) dL_keep_4 ⟨Nat.zero_le _, Nat.zero_le _⟩ (fun H locs hP hD hS => ?_)
  refine lv_if_eq (tgt := 14) hx hb dL_keep_7 (by decide) (fun hc => ?_) (fun hc => ?_)
  · replace h := ift hc h
    refine lv_lconst (v := 0) hx hb dL_keep_14 (by decide) ?_
    obtain ⟨x3, e1, h⟩ := letv_elim h
    refine pwS_45 X hK hP hD hS (by decide) e1 dL_keep_15 (fun H locs hP hD hS => ?_)
    refine lv_goto (tgt := 22) hx hb dL_keep_16 (by decide) ?_
    refine lv_iconst (v := 0) hx hb dL_keep_22 (by decide) ?_
    cases h
    exact mpr_i X hK hP hD hS rfl dL_keep_23
  · replace h := iff_ hc h
    refine lv_lconst (v := 1) hx hb dL_keep_10 (by decide) ?_
    refine lv_goto (tgt := 15) hx hb dL_keep_11 (by decide) ?_
    obtain ⟨x4, e1, h⟩ := letv_elim h
    refine pwS_45 X hK hP hD hS (by decide) e1 dL_keep_15 (fun H locs hP hD hS => ?_)
    refine lv_goto (tgt := 22) hx hb dL_keep_16 (by decide) ?_
    refine lv_iconst (v := 0) hx hb dL_keep_22 (by decide) ?_
    cases h
    exact mpr_i X hK hP hD hS rfl dL_keep_23
def f_L_keep_v3 (x : PD) : Option (Int32 × PD) :=
  bn2 (f_X5_keep_v3 x) fun r1 x2 =>
  if r1 = 0 then
  (letv (wB x2 45 (vp_updL (rB x2 45) (Int32.toNatClampNeg ((0 : Int32))) ((0 : Int64)))) fun x3 =>
  some ((0 : Int32), x3))
  else
  letv (wB x2 45 (vp_updL (rB x2 45) (Int32.toNatClampNeg ((0 : Int32))) ((1 : Int64)))) fun x4 =>
  some ((0 : Int32), x4)
set_option maxHeartbeats 4000000 in
set_option maxRecDepth 100000 in
theorem c_L_keep_v3 (l : Launch) (D : va_G) (y : CY) (a : Nat → Nat) {x : PD} {x' : PD} {r : Int32} (h : f_L_keep_v3 x = some (r, x')) : mpMH l D y yL_keep cL_keep 4 (some .int) [(0, 16, 19, 19)] { frames := 3, cells := 0, slots := 0, locals := 84 } (pw y a x) (pw y a x') [.ref (a 0), .int ((3 : Int32)), .ref (a 45)] (some (.int r)) := by
  refine mpMH.mk (own := RL) (by decide) rfl (Nat.le_of_ble_eq_true rfl) ?_
  intro p e s m below meth c A ls X hK hA hP hD hl
  have hS : va_S A s.heap s.heap [] := va_S.rf
  obtain ⟨⟨hx, hb, hml, hown, hts⟩, hr, hlk⟩ := id X
  have hl : lv_has ls 4 [(0, .ref (a 0)), (1, .int ((3 : Int32))), (2, .ref (a 45))] := hl
  unfold f_L_keep_v3 at h
  refine lv_aload_n hx hb dL_keep_0 rfl (lv_at hl 2 rfl) ?_
  refine lv_iconst (v := 0) hx hb dL_keep_1 (by decide) ?_
  refine lv_aload_n hx hb dL_keep_2 rfl (lv_at hl 0 rfl) ?_
  refine lv_iload_n hx hb dL_keep_3 rfl (lv_at hl 1 rfl) ?_
  obtain ⟨r1, x2, hr0, h⟩ := bn2_elim h
  refine mp_call1 (As := [.int ((3 : Int32))]) (rest := [.int ((0 : Int32)), .ref (a 45)]) X (c_X5_keep_v3 l D y a hr0) (mp_cw (k := 1) hts mM_L_58 mI_X5_keep mS_X5_keep mN_X5 mC_X5_keep rfl rfl (by decide +kernel) ⟨Nat.le_of_ble_eq_true rfl, Nat.le_of_ble_eq_true rfl⟩) hK hP hD hS hA 0 pwC_0 rfl rfl hl.1 rfl (Nat.le_of_ble_eq_true rfl) dL_keep_4 ⟨Nat.zero_le _, Nat.zero_le _⟩ (fun H locs hP hD hS => ?_)
  refine lv_if_eq (tgt := 14) hx hb dL_keep_7 (by decide) (fun hc => ?_) (fun hc => ?_)
  · replace h := ift hc h
    refine lv_lconst (v := 0) hx hb dL_keep_14 (by decide) ?_
    obtain ⟨x3, e1, h⟩ := letv_elim h
    refine pwS_45 X hK hP hD hS (by decide) e1 dL_keep_15 (fun H locs hP hD hS => ?_)
    refine lv_goto (tgt := 22) hx hb dL_keep_16 (by decide) ?_
    refine lv_iconst (v := 0) hx hb dL_keep_22 (by decide) ?_
    cases h
    exact mpr_i X hK hP hD hS rfl dL_keep_23
  · replace h := iff_ hc h
    refine lv_lconst (v := 1) hx hb dL_keep_10 (by decide) ?_
    refine lv_goto (tgt := 15) hx hb dL_keep_11 (by decide) ?_
    obtain ⟨x4, e1, h⟩ := letv_elim h
    refine pwS_45 X hK hP hD hS (by decide) e1 dL_keep_15 (fun H locs hP hD hS => ?_)
    refine lv_goto (tgt := 22) hx hb dL_keep_16 (by decide) ?_
    refine lv_iconst (v := 0) hx hb dL_keep_22 (by decide) ?_
    cases h
    exact mpr_i X hK hP hD hS rfl dL_keep_23
def f_L_goOn_v0 (x : PD) : Option (Int32 × PD) :=
  bn2 (f_X5_goOn_v0 x) fun r1 x2 =>
  if r1 = 0 then
  (letv (wB x2 45 (vp_updL (rB x2 45) (Int32.toNatClampNeg ((0 : Int32))) ((0 : Int64)))) fun x3 =>
  some ((0 : Int32), x3))
  else
  letv (wB x2 45 (vp_updL (rB x2 45) (Int32.toNatClampNeg ((0 : Int32))) ((1 : Int64)))) fun x4 =>
  some ((0 : Int32), x4)
set_option maxHeartbeats 4000000 in
set_option maxRecDepth 100000 in
theorem c_L_goOn_v0 (l : Launch) (D : va_G) (y : CY) (a : Nat → Nat) {x : PD} {x' : PD} {r : Int32} (h : f_L_goOn_v0 x = some (r, x')) : mpMH l D y yL_goOn cL_goOn 4 (some .int) [(0, 16, 19, 19)] { frames := 5, cells := 0, slots := 0, locals := 123 } (pw y a x) (pw y a x') [.ref (a 0), .int ((0 : Int32)), .ref (a 45)] (some (.int r)) := by
  refine mpMH.mk (own := RL) (by decide) rfl (Nat.le_of_ble_eq_true rfl) ?_
  intro p e s m below meth c A ls X hK hA hP hD hl
  have hS : va_S A s.heap s.heap [] := va_S.rf
  obtain ⟨⟨hx, hb, hml, hown, hts⟩, hr, hlk⟩ := id X
  have hl : lv_has ls 4 [(0, .ref (a 0)), (1, .int ((0 : Int32))), (2, .ref (a 45))] := hl
  unfold f_L_goOn_v0 at h
  refine lv_aload_n hx hb dL_goOn_0 rfl (lv_at hl 2 rfl) ?_
  refine lv_iconst (v := 0) hx hb dL_goOn_1 (by decide) ?_
  refine lv_aload_n hx hb dL_goOn_2 rfl (lv_at hl 0 rfl) ?_
  refine lv_iload_n hx hb dL_goOn_3 rfl (lv_at hl 1 rfl) ?_
  obtain ⟨r1, x2, hr0, h⟩ := bn2_elim h
  refine mp_call1 (As := [.int ((0 : Int32))]) (rest := [.int ((0 : Int32)), .ref (a 45)]) X (c_X5_goOn_v0 l D y a hr0) (mp_cw (k := 1) hts mM_L_61 mI_X5_goOn mS_X5_goOn mN_X5 mC_X5_goOn rfl rfl (by decide +kernel) ⟨Nat.le_of_ble_eq_true rfl, Nat.le_of_ble_eq_true rfl⟩) hK hP hD hS hA 0 pwC_0 rfl rfl hl.1 rfl (Nat.le_of_ble_eq_true rfl) dL_goOn_4 ⟨Nat.zero_le _, Nat.zero_le _⟩ (fun H locs hP hD hS => ?_)
  refine lv_if_eq (tgt := 14) hx hb dL_goOn_7 (by decide) (fun hc => ?_) (fun hc => ?_)
  · replace h := ift hc h
    refine lv_lconst (v := 0) hx hb dL_goOn_14 (by decide) ?_
    obtain ⟨x3, e1, h⟩ := letv_elim h
    refine pwS_45 X hK hP hD hS (by decide) e1 dL_goOn_15 (fun H locs hP hD hS => ?_)
    refine lv_goto (tgt := 22) hx hb dL_goOn_16 (by decide) ?_
    refine lv_iconst (v := 0) hx hb dL_goOn_22 (by decide) ?_
    cases h
    exact mpr_i X hK hP hD hS rfl dL_goOn_23
  · replace h := iff_ hc h
    refine lv_lconst (v := 1) hx hb dL_goOn_10 (by decide) ?_
    refine lv_goto (tgt := 15) hx hb dL_goOn_11 (by decide) ?_
    obtain ⟨x4, e1, h⟩ := letv_elim h
    refine pwS_45 X hK hP hD hS (by decide) e1 dL_goOn_15 (fun H locs hP hD hS => ?_)
    refine lv_goto (tgt := 22) hx hb dL_goOn_16 (by decide) ?_
    refine lv_iconst (v := 0) hx hb dL_goOn_22 (by decide) ?_
    cases h
    exact mpr_i X hK hP hD hS rfl dL_goOn_23
def f_L_goOn_v1 (x : PD) : Option (Int32 × PD) :=
  bn2 (f_X5_goOn_v1 x) fun r1 x2 =>
  if r1 = 0 then
  (letv (wB x2 45 (vp_updL (rB x2 45) (Int32.toNatClampNeg ((0 : Int32))) ((0 : Int64)))) fun x3 =>
  some ((0 : Int32), x3))
  else
  letv (wB x2 45 (vp_updL (rB x2 45) (Int32.toNatClampNeg ((0 : Int32))) ((1 : Int64)))) fun x4 =>
  some ((0 : Int32), x4)
set_option maxHeartbeats 4000000 in
set_option maxRecDepth 100000 in
theorem c_L_goOn_v1 (l : Launch) (D : va_G) (y : CY) (a : Nat → Nat) {x : PD} {x' : PD} {r : Int32} (h : f_L_goOn_v1 x = some (r, x')) : mpMH l D y yL_goOn cL_goOn 4 (some .int) [(0, 16, 19, 19)] { frames := 5, cells := 0, slots := 0, locals := 123 } (pw y a x) (pw y a x') [.ref (a 0), .int ((1 : Int32)), .ref (a 45)] (some (.int r)) := by
  refine mpMH.mk (own := RL) (by decide) rfl (Nat.le_of_ble_eq_true rfl) ?_
  intro p e s m below meth c A ls X hK hA hP hD hl
  have hS : va_S A s.heap s.heap [] := va_S.rf
  obtain ⟨⟨hx, hb, hml, hown, hts⟩, hr, hlk⟩ := id X
  have hl : lv_has ls 4 [(0, .ref (a 0)), (1, .int ((1 : Int32))), (2, .ref (a 45))] := hl
  unfold f_L_goOn_v1 at h
  refine lv_aload_n hx hb dL_goOn_0 rfl (lv_at hl 2 rfl) ?_
  refine lv_iconst (v := 0) hx hb dL_goOn_1 (by decide) ?_
  refine lv_aload_n hx hb dL_goOn_2 rfl (lv_at hl 0 rfl) ?_
  refine lv_iload_n hx hb dL_goOn_3 rfl (lv_at hl 1 rfl) ?_
  obtain ⟨r1, x2, hr0, h⟩ := bn2_elim h
  refine mp_call1 (As := [.int ((1 : Int32))]) (rest := [.int ((0 : Int32)), .ref (a 45)]) X (c_X5_goOn_v1 l D y a hr0) (mp_cw (k := 1) hts mM_L_61 mI_X5_goOn mS_X5_goOn mN_X5 mC_X5_goOn rfl rfl (by decide +kernel) ⟨Nat.le_of_ble_eq_true rfl, Nat.le_of_ble_eq_true rfl⟩) hK hP hD hS hA 0 pwC_0 rfl rfl hl.1 rfl (Nat.le_of_ble_eq_true rfl) dL_goOn_4 ⟨Nat.zero_le _, Nat.zero_le _⟩ (fun H locs hP hD hS => ?_)
  refine lv_if_eq (tgt := 14) hx hb dL_goOn_7 (by decide) (fun hc => ?_) (fun hc => ?_)
  · replace h := ift hc h
    refine lv_lconst (v := 0) hx hb dL_goOn_14 (by decide) ?_
    obtain ⟨x3, e1, h⟩ := letv_elim h
    refine pwS_45 X hK hP hD hS (by decide) e1 dL_goOn_15 (fun H locs hP hD hS => ?_)
    refine lv_goto (tgt := 22) hx hb dL_goOn_16 (by decide) ?_
    refine lv_iconst (v := 0) hx hb dL_goOn_22 (by decide) ?_
    cases h
    exact mpr_i X hK hP hD hS rfl dL_goOn_23
  · replace h := iff_ hc h
    refine lv_lconst (v := 1) hx hb dL_goOn_10 (by decide) ?_
    refine lv_goto (tgt := 15) hx hb dL_goOn_11 (by decide) ?_
    obtain ⟨x4, e1, h⟩ := letv_elim h
    refine pwS_45 X hK hP hD hS (by decide) e1 dL_goOn_15 (fun H locs hP hD hS => ?_)
    refine lv_goto (tgt := 22) hx hb dL_goOn_16 (by decide) ?_
    refine lv_iconst (v := 0) hx hb dL_goOn_22 (by decide) ?_
    cases h
    exact mpr_i X hK hP hD hS rfl dL_goOn_23
def f_L_goOn_v2 (x : PD) : Option (Int32 × PD) :=
  bn2 (f_X5_goOn_v2 x) fun r1 x2 =>
  if r1 = 0 then
  (letv (wB x2 45 (vp_updL (rB x2 45) (Int32.toNatClampNeg ((0 : Int32))) ((0 : Int64)))) fun x3 =>
  some ((0 : Int32), x3))
  else
  letv (wB x2 45 (vp_updL (rB x2 45) (Int32.toNatClampNeg ((0 : Int32))) ((1 : Int64)))) fun x4 =>
  some ((0 : Int32), x4)
set_option maxHeartbeats 4000000 in
set_option maxRecDepth 100000 in
theorem c_L_goOn_v2 (l : Launch) (D : va_G) (y : CY) (a : Nat → Nat) {x : PD} {x' : PD} {r : Int32} (h : f_L_goOn_v2 x = some (r, x')) : mpMH l D y yL_goOn cL_goOn 4 (some .int) [(0, 16, 19, 19)] { frames := 5, cells := 0, slots := 0, locals := 123 } (pw y a x) (pw y a x') [.ref (a 0), .int ((2 : Int32)), .ref (a 45)] (some (.int r)) := by
  refine mpMH.mk (own := RL) (by decide) rfl (Nat.le_of_ble_eq_true rfl) ?_
  intro p e s m below meth c A ls X hK hA hP hD hl
  have hS : va_S A s.heap s.heap [] := va_S.rf
  obtain ⟨⟨hx, hb, hml, hown, hts⟩, hr, hlk⟩ := id X
  have hl : lv_has ls 4 [(0, .ref (a 0)), (1, .int ((2 : Int32))), (2, .ref (a 45))] := hl
  unfold f_L_goOn_v2 at h
  refine lv_aload_n hx hb dL_goOn_0 rfl (lv_at hl 2 rfl) ?_
  refine lv_iconst (v := 0) hx hb dL_goOn_1 (by decide) ?_
  refine lv_aload_n hx hb dL_goOn_2 rfl (lv_at hl 0 rfl) ?_
  refine lv_iload_n hx hb dL_goOn_3 rfl (lv_at hl 1 rfl) ?_
  obtain ⟨r1, x2, hr0, h⟩ := bn2_elim h
  refine mp_call1 (As := [.int ((2 : Int32))]) (rest := [.int ((0 : Int32)), .ref (a 45)]) X (c_X5_goOn_v2 l D y a hr0) (mp_cw (k := 1) hts mM_L_61 mI_X5_goOn mS_X5_goOn mN_X5 mC_X5_goOn rfl rfl (by decide +kernel) ⟨Nat.le_of_ble_eq_true rfl, Nat.le_of_ble_eq_true rfl⟩) hK hP hD hS hA 0 pwC_0 rfl rfl hl.1 rfl (Nat.le_of_ble_eq_true rfl) dL_goOn_4 ⟨Nat.zero_le _, Nat.zero_le _⟩ (fun H locs hP hD hS => ?_)
  refine lv_if_eq (tgt := 14) hx hb dL_goOn_7 (by decide) (fun hc => ?_) (fun hc => ?_)
  · replace h := ift hc h
    refine lv_lconst (v := 0) hx hb dL_goOn_14 (by decide) ?_
    obtain ⟨x3, e1, h⟩ := letv_elim h
    refine pwS_45 X hK hP hD hS (by decide) e1 dL_goOn_15 (fun H locs hP hD hS => ?_)
    refine lv_goto (tgt := 22) hx hb dL_goOn_16 (by decide) ?_
    refine lv_iconst (v := 0) hx hb dL_goOn_22 (by decide) ?_
    cases h
    exact mpr_i X hK hP hD hS rfl dL_goOn_23
  · replace h := iff_ hc h
    refine lv_lconst (v := 1) hx hb dL_goOn_10 (by decide) ?_
    refine lv_goto (tgt := 15) hx hb dL_goOn_11 (by decide) ?_
    obtain ⟨x4, e1, h⟩ := letv_elim h
    refine pwS_45 X hK hP hD hS (by decide) e1 dL_goOn_15 (fun H locs hP hD hS => ?_)
    refine lv_goto (tgt := 22) hx hb dL_goOn_16 (by decide) ?_
    refine lv_iconst (v := 0) hx hb dL_goOn_22 (by decide) ?_
    cases h
    exact mpr_i X hK hP hD hS rfl dL_goOn_23
def f_L_goOn_v3 (x : PD) : Option (Int32 × PD) :=
  bn2 (f_X5_goOn_v3 x) fun r1 x2 =>
  if r1 = 0 then
  (letv (wB x2 45 (vp_updL (rB x2 45) (Int32.toNatClampNeg ((0 : Int32))) ((0 : Int64)))) fun x3 =>
  some ((0 : Int32), x3))
  else
  letv (wB x2 45 (vp_updL (rB x2 45) (Int32.toNatClampNeg ((0 : Int32))) ((1 : Int64)))) fun x4 =>
  some ((0 : Int32), x4)
set_option maxHeartbeats 4000000 in
set_option maxRecDepth 100000 in
theorem c_L_goOn_v3 (l : Launch) (D : va_G) (y : CY) (a : Nat → Nat) {x : PD} {x' : PD} {r : Int32} (h : f_L_goOn_v3 x = some (r, x')) : mpMH l D y yL_goOn cL_goOn 4 (some .int) [(0, 16, 19, 19)] { frames := 5, cells := 0, slots := 0, locals := 123 } (pw y a x) (pw y a x') [.ref (a 0), .int ((3 : Int32)), .ref (a 45)] (some (.int r)) := by
  refine mpMH.mk (own := RL) (by decide) rfl (Nat.le_of_ble_eq_true rfl) ?_
  intro p e s m below meth c A ls X hK hA hP hD hl
  have hS : va_S A s.heap s.heap [] := va_S.rf
  obtain ⟨⟨hx, hb, hml, hown, hts⟩, hr, hlk⟩ := id X
  have hl : lv_has ls 4 [(0, .ref (a 0)), (1, .int ((3 : Int32))), (2, .ref (a 45))] := hl
  unfold f_L_goOn_v3 at h
  refine lv_aload_n hx hb dL_goOn_0 rfl (lv_at hl 2 rfl) ?_
  refine lv_iconst (v := 0) hx hb dL_goOn_1 (by decide) ?_
  refine lv_aload_n hx hb dL_goOn_2 rfl (lv_at hl 0 rfl) ?_
  refine lv_iload_n hx hb dL_goOn_3 rfl (lv_at hl 1 rfl) ?_
  obtain ⟨r1, x2, hr0, h⟩ := bn2_elim h
  refine mp_call1 (As := [.int ((3 : Int32))]) (rest := [.int ((0 : Int32)), .ref (a 45)]) X (c_X5_goOn_v3 l D y a hr0) (mp_cw (k := 1) hts mM_L_61 mI_X5_goOn mS_X5_goOn mN_X5 mC_X5_goOn rfl rfl (by decide +kernel) ⟨Nat.le_of_ble_eq_true rfl, Nat.le_of_ble_eq_true rfl⟩) hK hP hD hS hA 0 pwC_0 rfl rfl hl.1 rfl (Nat.le_of_ble_eq_true rfl) dL_goOn_4 ⟨Nat.zero_le _, Nat.zero_le _⟩ (fun H locs hP hD hS => ?_)
  refine lv_if_eq (tgt := 14) hx hb dL_goOn_7 (by decide) (fun hc => ?_) (fun hc => ?_)
  · replace h := ift hc h
    refine lv_lconst (v := 0) hx hb dL_goOn_14 (by decide) ?_
    obtain ⟨x3, e1, h⟩ := letv_elim h
    refine pwS_45 X hK hP hD hS (by decide) e1 dL_goOn_15 (fun H locs hP hD hS => ?_)
    refine lv_goto (tgt := 22) hx hb dL_goOn_16 (by decide) ?_
    refine lv_iconst (v := 0) hx hb dL_goOn_22 (by decide) ?_
    cases h
    exact mpr_i X hK hP hD hS rfl dL_goOn_23
  · replace h := iff_ hc h
    refine lv_lconst (v := 1) hx hb dL_goOn_10 (by decide) ?_
    refine lv_goto (tgt := 15) hx hb dL_goOn_11 (by decide) ?_
    obtain ⟨x4, e1, h⟩ := letv_elim h
    refine pwS_45 X hK hP hD hS (by decide) e1 dL_goOn_15 (fun H locs hP hD hS => ?_)
    refine lv_goto (tgt := 22) hx hb dL_goOn_16 (by decide) ?_
    refine lv_iconst (v := 0) hx hb dL_goOn_22 (by decide) ?_
    cases h
    exact mpr_i X hK hP hD hS rfl dL_goOn_23
set_option maxHeartbeats 4000000 in
set_option maxRecDepth 100000 in
theorem th_L_joint_1 (l : Launch) (hlt : l.stackTraces = false) (D : va_G) (y : CY) (a : Nat → Nat) {x : PD} {p1 : Int32} {p2 : Int32} {p3 : Int32} {p4 : Int32} (h : g_X5_joint x p1 p2 p3 p4 = some 1) : mpTH l D y yL_joint cL_joint 7 (some .int) [(0, 14, 17, 13)] { frames := 8, cells := 1, slots := 6, locals := 136 } (pw y a x) [.ref (a 0), .int p1, .int p2, .int p3, .int p4, .ref (a 45)] (some (.int 1)) := by
  refine mpTH.mk (own := RL) (by decide) rfl (Nat.le_of_ble_eq_true rfl) ?_
  intro p e s m below meth c A ls X htab hT hK hA hP hD hl
  have hS : va_S A s.heap s.heap [] := va_S.rf
  obtain ⟨⟨hx, hb, hml, hown, hts⟩, hr, hlk⟩ := id X
  have hl : lv_has ls 7 [(0, .ref (a 0)), (1, .int p1), (2, .int p2), (3, .int p3), (4, .int p4), (5, .ref (a 45))] := hl
  refine lv_aload hx hb dL_joint_0 (lv_at hl 5 rfl) ?_
  refine lv_iconst (v := 0) hx hb dL_joint_2 (by decide) ?_
  refine lv_aload_n hx hb dL_joint_3 rfl (lv_at hl 0 rfl) ?_
  refine lv_iload_n hx hb dL_joint_4 rfl (lv_at hl 1 rfl) ?_
  refine lv_iload_n hx hb dL_joint_5 rfl (lv_at hl 2 rfl) ?_
  refine lv_iload_n hx hb dL_joint_6 rfl (lv_at hl 3 rfl) ?_
  refine lv_iload hx hb dL_joint_7 (lv_at hl 4 rfl) ?_
  refine mp_tcallK (As := [.int p1, .int p2, .int p3, .int p4]) (rest := [.int ((0 : Int32)), .ref (a 45)]) X hT (t_X5_joint l hlt D y a h) (mp_cwT (k := 4) hts mM_L_7 mI_X5_joint mS_X5_joint mN_X5 mC_X5_joint rfl rfl (by decide +kernel) ⟨Nat.le_of_ble_eq_true rfl, Nat.le_of_ble_eq_true rfl⟩) hK hP hD hS hA 0 pwC_0 rfl rfl hl.1 rfl (Nat.le_of_ble_eq_true rfl) dL_joint_9 ⟨Nat.le_of_ble_eq_true rfl, Nat.le_of_ble_eq_true rfl⟩ (fun H locs q9 ce hP hD hS hce hcv hcl => ?_)
  refine vx_catch (name := xNSE) (E := xNSE) hown [] ⟨0, 14, 17, 13⟩ [] htab (fun z hz => nomatch hz) (by decide) (by decide) (hts _ mG_L_13) (va_Nw.use rfl hT.1.1) hce hcv hcl ?_
  refine lv_astore (lv' := [(6, .ref q9), (0, .ref (a 0)), (1, .int p1), (2, .int p2), (3, .int p3), (4, .int p4), (5, .ref (a 45))]) hx hb dL_joint_17 hl (by decide) rfl (fun ls hl => ?_)
  refine lv_iconst (v := 1) hx hb dL_joint_19 (by decide) ?_
  exact mpr_i X hK hP hD hS rfl dL_joint_20
set_option maxHeartbeats 4000000 in
set_option maxRecDepth 100000 in
theorem th_L_price_2 (l : Launch) (hlt : l.stackTraces = false) (D : va_G) (y : CY) (a : Nat → Nat) {x : PD} {p1 : Int32} {p2 : Int32} (h : g_X5_price x p1 p2 = some 2) : mpTH l D y yL_price cL_price 5 (some .int) [(0, 10, 13, 19)] { frames := 7, cells := 1, slots := 6, locals := 113 } (pw y a x) [.ref (a 0), .int p1, .int p2, .ref (a 45)] (some (.int 1)) := by
  refine mpTH.mk (own := RL) (by decide) rfl (Nat.le_of_ble_eq_true rfl) ?_
  intro p e s m below meth c A ls X htab hT hK hA hP hD hl
  have hS : va_S A s.heap s.heap [] := va_S.rf
  obtain ⟨⟨hx, hb, hml, hown, hts⟩, hr, hlk⟩ := id X
  have hl : lv_has ls 5 [(0, .ref (a 0)), (1, .int p1), (2, .int p2), (3, .ref (a 45))] := hl
  refine lv_aload_n hx hb dL_price_0 rfl (lv_at hl 3 rfl) ?_
  refine lv_iconst (v := 0) hx hb dL_price_1 (by decide) ?_
  refine lv_aload_n hx hb dL_price_2 rfl (lv_at hl 0 rfl) ?_
  refine lv_iload_n hx hb dL_price_3 rfl (lv_at hl 1 rfl) ?_
  refine lv_iload_n hx hb dL_price_4 rfl (lv_at hl 2 rfl) ?_
  refine mp_tcallK (As := [.int p1, .int p2]) (rest := [.int ((0 : Int32)), .ref (a 45)]) X hT (t_X5_price l hlt D y a h) (mp_cwT (k := 2) hts mM_L_15 mI_X5_price mS_X5_price mN_X5 mC_X5_price rfl rfl (by decide +kernel) ⟨Nat.le_of_ble_eq_true rfl, Nat.le_of_ble_eq_true rfl⟩) hK hP hD hS hA 0 pwC_0 rfl rfl hl.1 rfl (Nat.le_of_ble_eq_true rfl) dL_price_5 ⟨Nat.le_of_ble_eq_true rfl, Nat.le_of_ble_eq_true rfl⟩ (fun H locs q9 ce hP hD hS hce hcv hcl => ?_)
  refine vx_catch (name := xIAE) (E := xIAE) hown [] ⟨0, 10, 13, 19⟩ [] htab (fun z hz => nomatch hz) (by decide) (by decide) (hts _ mG_L_19) (va_Nw.use rfl hT.1.2.1) hce hcv hcl ?_
  refine lv_astore (lv' := [(4, .ref q9), (0, .ref (a 0)), (1, .int p1), (2, .int p2), (3, .ref (a 45))]) hx hb dL_price_13 hl (by decide) rfl (fun ls hl => ?_)
  refine lv_iconst (v := 1) hx hb dL_price_15 (by decide) ?_
  exact mpr_i X hK hP hD hS rfl dL_price_16
set_option maxHeartbeats 4000000 in
set_option maxRecDepth 100000 in
theorem th_L_play_1 (l : Launch) (hlt : l.stackTraces = false) (D : va_G) (y : CY) (a : Nat → Nat) {x : PD} {p1 : Int32} (h : g_X5_play x p1 = some 1) : mpTH l D y yL_play cL_play 4 (some .int) [(0, 16, 19, 13)] { frames := 8, cells := 1, slots := 6, locals := 132 } (pw y a x) [.ref (a 0), .int p1, .ref (a 45)] (some (.int 1)) := by
  refine mpTH.mk (own := RL) (by decide) rfl (Nat.le_of_ble_eq_true rfl) ?_
  intro p e s m below meth c A ls X htab hT hK hA hP hD hl
  have hS : va_S A s.heap s.heap [] := va_S.rf
  obtain ⟨⟨hx, hb, hml, hown, hts⟩, hr, hlk⟩ := id X
  have hl : lv_has ls 4 [(0, .ref (a 0)), (1, .int p1), (2, .ref (a 45))] := hl
  refine lv_aload_n hx hb dL_play_0 rfl (lv_at hl 2 rfl) ?_
  refine lv_iconst (v := 0) hx hb dL_play_1 (by decide) ?_
  refine lv_aload_n hx hb dL_play_2 rfl (lv_at hl 0 rfl) ?_
  refine lv_iload_n hx hb dL_play_3 rfl (lv_at hl 1 rfl) ?_
  refine mp_tcallK (As := [.int p1]) (rest := [.int ((0 : Int32)), .ref (a 45)]) X hT (t_X5_play l hlt D y a h) (mp_cwT (k := 1) hts mM_L_21 mI_X5_play mS_X5_play mN_X5 mC_X5_play rfl rfl (by decide +kernel) ⟨Nat.le_of_ble_eq_true rfl, Nat.le_of_ble_eq_true rfl⟩) hK hP hD hS hA 0 pwC_0 rfl rfl hl.1 rfl (Nat.le_of_ble_eq_true rfl) dL_play_4 ⟨Nat.le_of_ble_eq_true rfl, Nat.le_of_ble_eq_true rfl⟩ (fun H locs q9 ce hP hD hS hce hcv hcl => ?_)
  refine vx_catch (name := xNSE) (E := xNSE) hown [] ⟨0, 16, 19, 13⟩ [] htab (fun z hz => nomatch hz) (by decide) (by decide) (hts _ mG_L_13) (va_Nw.use rfl hT.1.1) hce hcv hcl ?_
  refine lv_astore_n (lv' := [(3, .ref q9), (0, .ref (a 0)), (1, .int p1), (2, .ref (a 45))]) hx hb dL_play_19 rfl hl (by decide) rfl (fun ls hl => ?_)
  refine lv_iconst (v := 1) hx hb dL_play_20 (by decide) ?_
  exact mpr_i X hK hP hD hS rfl dL_play_21
set_option maxHeartbeats 4000000 in
set_option maxRecDepth 100000 in
theorem th_L_ask_2 (l : Launch) (hlt : l.stackTraces = false) (D : va_G) (y : CY) (a : Nat → Nat) {x : PD} {p1 : Int32} (h : g_X5_ask x p1 = some 2) : mpTH l D y yL_ask cL_ask 4 (some .int) [(0, 9, 12, 19)] { frames := 8, cells := 1, slots := 6, locals := 132 } (pw y a x) [.ref (a 0), .int p1, .ref (a 45)] (some (.int 1)) := by
  refine mpTH.mk (own := RL) (by decide) rfl (Nat.le_of_ble_eq_true rfl) ?_
  intro p e s m below meth c A ls X htab hT hK hA hP hD hl
  have hS : va_S A s.heap s.heap [] := va_S.rf
  obtain ⟨⟨hx, hb, hml, hown, hts⟩, hr, hlk⟩ := id X
  have hl : lv_has ls 4 [(0, .ref (a 0)), (1, .int p1), (2, .ref (a 45))] := hl
  refine lv_aload_n hx hb dL_ask_0 rfl (lv_at hl 2 rfl) ?_
  refine lv_iconst (v := 0) hx hb dL_ask_1 (by decide) ?_
  refine lv_aload_n hx hb dL_ask_2 rfl (lv_at hl 0 rfl) ?_
  refine lv_iload_n hx hb dL_ask_3 rfl (lv_at hl 1 rfl) ?_
  refine mp_tcallK (As := [.int p1]) (rest := [.int ((0 : Int32)), .ref (a 45)]) X hT (t_X5_ask l hlt D y a h) (mp_cwT (k := 1) hts mM_L_25 mI_X5_ask mS_X5_ask mN_X5 mC_X5_ask rfl rfl (by decide +kernel) ⟨Nat.le_of_ble_eq_true rfl, Nat.le_of_ble_eq_true rfl⟩) hK hP hD hS hA 0 pwC_0 rfl rfl hl.1 rfl (Nat.le_of_ble_eq_true rfl) dL_ask_4 ⟨Nat.le_of_ble_eq_true rfl, Nat.le_of_ble_eq_true rfl⟩ (fun H locs q9 ce hP hD hS hce hcv hcl => ?_)
  refine vx_catch (name := xIAE) (E := xIAE) hown [] ⟨0, 9, 12, 19⟩ [] htab (fun z hz => nomatch hz) (by decide) (by decide) (hts _ mG_L_19) (va_Nw.use rfl hT.1.2.1) hce hcv hcl ?_
  refine lv_astore_n (lv' := [(3, .ref q9), (0, .ref (a 0)), (1, .int p1), (2, .ref (a 45))]) hx hb dL_ask_12 rfl hl (by decide) rfl (fun ls hl => ?_)
  refine lv_iconst (v := 1) hx hb dL_ask_13 (by decide) ?_
  exact mpr_i X hK hP hD hS rfl dL_ask_14
set_option maxHeartbeats 4000000 in
set_option maxRecDepth 100000 in
theorem th_L_way_1 (l : Launch) (hlt : l.stackTraces = false) (D : va_G) (y : CY) (a : Nat → Nat) {x : PD} {p1 : Int32} (h : g_X5_way x p1 = some 1) : mpTH l D y yL_way cL_way 4 (some .int) [(0, 9, 12, 13)] { frames := 7, cells := 1, slots := 6, locals := 111 } (pw y a x) [.ref (a 0), .int p1, .ref (a 45)] (some (.int 1)) := by
  refine mpTH.mk (own := RL) (by decide) rfl (Nat.le_of_ble_eq_true rfl) ?_
  intro p e s m below meth c A ls X htab hT hK hA hP hD hl
  have hS : va_S A s.heap s.heap [] := va_S.rf
  obtain ⟨⟨hx, hb, hml, hown, hts⟩, hr, hlk⟩ := id X
  have hl : lv_has ls 4 [(0, .ref (a 0)), (1, .int p1), (2, .ref (a 45))] := hl
  refine lv_aload_n hx hb dL_way_0 rfl (lv_at hl 2 rfl) ?_
  refine lv_iconst (v := 0) hx hb dL_way_1 (by decide) ?_
  refine lv_aload_n hx hb dL_way_2 rfl (lv_at hl 0 rfl) ?_
  refine lv_iload_n hx hb dL_way_3 rfl (lv_at hl 1 rfl) ?_
  refine mp_tcallK (As := [.int p1]) (rest := [.int ((0 : Int32)), .ref (a 45)]) X hT (t_X5_way l hlt D y a h) (mp_cwT (k := 1) hts mM_L_29 mI_X5_way mS_X5_way mN_X5 mC_X5_way rfl rfl (by decide +kernel) ⟨Nat.le_of_ble_eq_true rfl, Nat.le_of_ble_eq_true rfl⟩) hK hP hD hS hA 0 pwC_0 rfl rfl hl.1 rfl (Nat.le_of_ble_eq_true rfl) dL_way_4 ⟨Nat.le_of_ble_eq_true rfl, Nat.le_of_ble_eq_true rfl⟩ (fun H locs q9 ce hP hD hS hce hcv hcl => ?_)
  refine vx_catch (name := xNSE) (E := xNSE) hown [] ⟨0, 9, 12, 13⟩ [] htab (fun z hz => nomatch hz) (by decide) (by decide) (hts _ mG_L_13) (va_Nw.use rfl hT.1.1) hce hcv hcl ?_
  refine lv_astore_n (lv' := [(3, .ref q9), (0, .ref (a 0)), (1, .int p1), (2, .ref (a 45))]) hx hb dL_way_12 rfl hl (by decide) rfl (fun ls hl => ?_)
  refine lv_iconst (v := 1) hx hb dL_way_13 (by decide) ?_
  exact mpr_i X hK hP hD hS rfl dL_way_14
set_option maxHeartbeats 4000000 in
set_option maxRecDepth 100000 in
theorem th_L_reach_1 (l : Launch) (hlt : l.stackTraces = false) (D : va_G) (y : CY) (a : Nat → Nat) {x : PD} {p1 : Int32} {p2 : Int32} (h : g_X5_reach x p1 p2 = some 1) : mpTH l D y yL_reach cL_reach 5 (some .int) [(0, 9, 12, 13), (0, 9, 16, 19)] { frames := 8, cells := 1, slots := 6, locals := 133 } (pw y a x) [.ref (a 0), .int p1, .int p2, .ref (a 45)] (some (.int 1)) := by
  refine mpTH.mk (own := RL) (by decide) rfl (Nat.le_of_ble_eq_true rfl) ?_
  intro p e s m below meth c A ls X htab hT hK hA hP hD hl
  have hS : va_S A s.heap s.heap [] := va_S.rf
  obtain ⟨⟨hx, hb, hml, hown, hts⟩, hr, hlk⟩ := id X
  have hl : lv_has ls 5 [(0, .ref (a 0)), (1, .int p1), (2, .int p2), (3, .ref (a 45))] := hl
  refine lv_aload_n hx hb dL_reach_0 rfl (lv_at hl 3 rfl) ?_
  refine lv_iconst (v := 0) hx hb dL_reach_1 (by decide) ?_
  refine lv_aload_n hx hb dL_reach_2 rfl (lv_at hl 0 rfl) ?_
  refine lv_iload_n hx hb dL_reach_3 rfl (lv_at hl 1 rfl) ?_
  refine lv_iload_n hx hb dL_reach_4 rfl (lv_at hl 2 rfl) ?_
  refine mp_tcallK (As := [.int p1, .int p2]) (rest := [.int ((0 : Int32)), .ref (a 45)]) X hT (t_X5_reach l hlt D y a h) (mp_cwT (k := 2) hts mM_L_32 mI_X5_reach mS_X5_reach mN_X5 mC_X5_reach rfl rfl (by decide +kernel) ⟨Nat.le_of_ble_eq_true rfl, Nat.le_of_ble_eq_true rfl⟩) hK hP hD hS hA 0 pwC_0 rfl rfl hl.1 rfl (Nat.le_of_ble_eq_true rfl) dL_reach_5 ⟨Nat.le_of_ble_eq_true rfl, Nat.le_of_ble_eq_true rfl⟩ (fun H locs q9 ce hP hD hS hce hcv hcl => ?_)
  refine vx_catch (name := xNSE) (E := xNSE) hown [] ⟨0, 9, 12, 13⟩ [⟨0, 9, 16, 19⟩] htab (fun z hz => nomatch hz) (by decide) (by decide) (hts _ mG_L_13) (va_Nw.use rfl hT.1.1) hce hcv hcl ?_
  refine lv_astore (lv' := [(4, .ref q9), (0, .ref (a 0)), (1, .int p1), (2, .int p2), (3, .ref (a 45))]) hx hb dL_reach_12 hl (by decide) rfl (fun ls hl => ?_)
  refine lv_iconst (v := 1) hx hb dL_reach_14 (by decide) ?_
  exact mpr_i X hK hP hD hS rfl dL_reach_15
set_option maxHeartbeats 4000000 in
set_option maxRecDepth 100000 in
theorem th_L_reach_2 (l : Launch) (hlt : l.stackTraces = false) (D : va_G) (y : CY) (a : Nat → Nat) {x : PD} {p1 : Int32} {p2 : Int32} (h : g_X5_reach x p1 p2 = some 2) : mpTH l D y yL_reach cL_reach 5 (some .int) [(0, 9, 12, 13), (0, 9, 16, 19)] { frames := 8, cells := 1, slots := 6, locals := 133 } (pw y a x) [.ref (a 0), .int p1, .int p2, .ref (a 45)] (some (.int 2)) := by
  refine mpTH.mk (own := RL) (by decide) rfl (Nat.le_of_ble_eq_true rfl) ?_
  intro p e s m below meth c A ls X htab hT hK hA hP hD hl
  have hS : va_S A s.heap s.heap [] := va_S.rf
  obtain ⟨⟨hx, hb, hml, hown, hts⟩, hr, hlk⟩ := id X
  have hl : lv_has ls 5 [(0, .ref (a 0)), (1, .int p1), (2, .int p2), (3, .ref (a 45))] := hl
  refine lv_aload_n hx hb dL_reach_0 rfl (lv_at hl 3 rfl) ?_
  refine lv_iconst (v := 0) hx hb dL_reach_1 (by decide) ?_
  refine lv_aload_n hx hb dL_reach_2 rfl (lv_at hl 0 rfl) ?_
  refine lv_iload_n hx hb dL_reach_3 rfl (lv_at hl 1 rfl) ?_
  refine lv_iload_n hx hb dL_reach_4 rfl (lv_at hl 2 rfl) ?_
  refine mp_tcallK (As := [.int p1, .int p2]) (rest := [.int ((0 : Int32)), .ref (a 45)]) X hT (t_X5_reach l hlt D y a h) (mp_cwT (k := 2) hts mM_L_32 mI_X5_reach mS_X5_reach mN_X5 mC_X5_reach rfl rfl (by decide +kernel) ⟨Nat.le_of_ble_eq_true rfl, Nat.le_of_ble_eq_true rfl⟩) hK hP hD hS hA 0 pwC_0 rfl rfl hl.1 rfl (Nat.le_of_ble_eq_true rfl) dL_reach_5 ⟨Nat.le_of_ble_eq_true rfl, Nat.le_of_ble_eq_true rfl⟩ (fun H locs q9 ce hP hD hS hce hcv hcl => ?_)
  refine vx_catch (name := xIAE) (E := xIAE) hown [⟨0, 9, 12, 13⟩] ⟨0, 9, 16, 19⟩ [] htab (fun z hz => by rcases List.mem_cons.mp hz with rfl | hz; exact Or.inr ⟨by decide, xNSE, hts _ mG_L_13, hT.2.1⟩; cases hz) (by decide) (by decide) (hts _ mG_L_19) (va_Nw.use rfl hT.1.2.1) hce hcv hcl ?_
  refine lv_astore (lv' := [(4, .ref q9), (0, .ref (a 0)), (1, .int p1), (2, .int p2), (3, .ref (a 45))]) hx hb dL_reach_16 hl (by decide) rfl (fun ls hl => ?_)
  refine lv_iconst (v := 2) hx hb dL_reach_18 (by decide) ?_
  exact mpr_i X hK hP hD hS rfl dL_reach_19
set_option maxHeartbeats 4000000 in
set_option maxRecDepth 100000 in
theorem th_L_lacks_1 (l : Launch) (hlt : l.stackTraces = false) (D : va_G) (y : CY) (a : Nat → Nat) {x : PD} {p1 : Int32} {p2 : Int32} (h : g_X5_lacks x p1 p2 = some 1) : mpTH l D y yL_lacks cL_lacks 5 (some .int) [(0, 10, 13, 13), (0, 10, 17, 19)] { frames := 8, cells := 1, slots := 6, locals := 134 } (pw y a x) [.ref (a 0), .int p1, .int p2, .ref (a 45)] (some (.int 1)) := by
  refine mpTH.mk (own := RL) (by decide) rfl (Nat.le_of_ble_eq_true rfl) ?_
  intro p e s m below meth c A ls X htab hT hK hA hP hD hl
  have hS : va_S A s.heap s.heap [] := va_S.rf
  obtain ⟨⟨hx, hb, hml, hown, hts⟩, hr, hlk⟩ := id X
  have hl : lv_has ls 5 [(0, .ref (a 0)), (1, .int p1), (2, .int p2), (3, .ref (a 45))] := hl
  refine lv_aload_n hx hb dL_lacks_0 rfl (lv_at hl 3 rfl) ?_
  refine lv_iconst (v := 0) hx hb dL_lacks_1 (by decide) ?_
  refine lv_aload_n hx hb dL_lacks_2 rfl (lv_at hl 0 rfl) ?_
  refine lv_iload_n hx hb dL_lacks_3 rfl (lv_at hl 1 rfl) ?_
  refine lv_iload_n hx hb dL_lacks_4 rfl (lv_at hl 2 rfl) ?_
  refine mp_tcallK (As := [.int p1, .int p2]) (rest := [.int ((0 : Int32)), .ref (a 45)]) X hT (t_X5_lacks l hlt D y a h) (mp_cwT (k := 2) hts mM_L_36 mI_X5_lacks mS_X5_lacks mN_X5 mC_X5_lacks rfl rfl (by decide +kernel) ⟨Nat.le_of_ble_eq_true rfl, Nat.le_of_ble_eq_true rfl⟩) hK hP hD hS hA 0 pwC_0 rfl rfl hl.1 rfl (Nat.le_of_ble_eq_true rfl) dL_lacks_5 ⟨Nat.le_of_ble_eq_true rfl, Nat.le_of_ble_eq_true rfl⟩ (fun H locs q9 ce hP hD hS hce hcv hcl => ?_)
  refine vx_catch (name := xNSE) (E := xNSE) hown [] ⟨0, 10, 13, 13⟩ [⟨0, 10, 17, 19⟩] htab (fun z hz => nomatch hz) (by decide) (by decide) (hts _ mG_L_13) (va_Nw.use rfl hT.1.1) hce hcv hcl ?_
  refine lv_astore (lv' := [(4, .ref q9), (0, .ref (a 0)), (1, .int p1), (2, .int p2), (3, .ref (a 45))]) hx hb dL_lacks_13 hl (by decide) rfl (fun ls hl => ?_)
  refine lv_iconst (v := 1) hx hb dL_lacks_15 (by decide) ?_
  exact mpr_i X hK hP hD hS rfl dL_lacks_16
set_option maxHeartbeats 4000000 in
set_option maxRecDepth 100000 in
theorem th_L_lacks_2 (l : Launch) (hlt : l.stackTraces = false) (D : va_G) (y : CY) (a : Nat → Nat) {x : PD} {p1 : Int32} {p2 : Int32} (h : g_X5_lacks x p1 p2 = some 2) : mpTH l D y yL_lacks cL_lacks 5 (some .int) [(0, 10, 13, 13), (0, 10, 17, 19)] { frames := 8, cells := 1, slots := 6, locals := 134 } (pw y a x) [.ref (a 0), .int p1, .int p2, .ref (a 45)] (some (.int 2)) := by
  refine mpTH.mk (own := RL) (by decide) rfl (Nat.le_of_ble_eq_true rfl) ?_
  intro p e s m below meth c A ls X htab hT hK hA hP hD hl
  have hS : va_S A s.heap s.heap [] := va_S.rf
  obtain ⟨⟨hx, hb, hml, hown, hts⟩, hr, hlk⟩ := id X
  have hl : lv_has ls 5 [(0, .ref (a 0)), (1, .int p1), (2, .int p2), (3, .ref (a 45))] := hl
  refine lv_aload_n hx hb dL_lacks_0 rfl (lv_at hl 3 rfl) ?_
  refine lv_iconst (v := 0) hx hb dL_lacks_1 (by decide) ?_
  refine lv_aload_n hx hb dL_lacks_2 rfl (lv_at hl 0 rfl) ?_
  refine lv_iload_n hx hb dL_lacks_3 rfl (lv_at hl 1 rfl) ?_
  refine lv_iload_n hx hb dL_lacks_4 rfl (lv_at hl 2 rfl) ?_
  refine mp_tcallK (As := [.int p1, .int p2]) (rest := [.int ((0 : Int32)), .ref (a 45)]) X hT (t_X5_lacks l hlt D y a h) (mp_cwT (k := 2) hts mM_L_36 mI_X5_lacks mS_X5_lacks mN_X5 mC_X5_lacks rfl rfl (by decide +kernel) ⟨Nat.le_of_ble_eq_true rfl, Nat.le_of_ble_eq_true rfl⟩) hK hP hD hS hA 0 pwC_0 rfl rfl hl.1 rfl (Nat.le_of_ble_eq_true rfl) dL_lacks_5 ⟨Nat.le_of_ble_eq_true rfl, Nat.le_of_ble_eq_true rfl⟩ (fun H locs q9 ce hP hD hS hce hcv hcl => ?_)
  refine vx_catch (name := xIAE) (E := xIAE) hown [⟨0, 10, 13, 13⟩] ⟨0, 10, 17, 19⟩ [] htab (fun z hz => by rcases List.mem_cons.mp hz with rfl | hz; exact Or.inr ⟨by decide, xNSE, hts _ mG_L_13, hT.2.1⟩; cases hz) (by decide) (by decide) (hts _ mG_L_19) (va_Nw.use rfl hT.1.2.1) hce hcv hcl ?_
  refine lv_astore (lv' := [(4, .ref q9), (0, .ref (a 0)), (1, .int p1), (2, .int p2), (3, .ref (a 45))]) hx hb dL_lacks_17 hl (by decide) rfl (fun ls hl => ?_)
  refine lv_iconst (v := 2) hx hb dL_lacks_19 (by decide) ?_
  exact mpr_i X hK hP hD hS rfl dL_lacks_20
set_option maxHeartbeats 4000000 in
set_option maxRecDepth 100000 in
theorem th_L_layer_1 (l : Launch) (hlt : l.stackTraces = false) (D : va_G) (y : CY) (a : Nat → Nat) {x : PD} {p1 : Int32} {p2 : Int32} (h : g_X5_layer x p1 p2 = some 1) : mpTH l D y yL_layer cL_layer 5 (some .int) [(0, 10, 13, 13)] { frames := 8, cells := 1, slots := 6, locals := 134 } (pw y a x) [.ref (a 0), .int p1, .int p2, .ref (a 45)] (some (.int 1)) := by
  refine mpTH.mk (own := RL) (by decide) rfl (Nat.le_of_ble_eq_true rfl) ?_
  intro p e s m below meth c A ls X htab hT hK hA hP hD hl
  have hS : va_S A s.heap s.heap [] := va_S.rf
  obtain ⟨⟨hx, hb, hml, hown, hts⟩, hr, hlk⟩ := id X
  have hl : lv_has ls 5 [(0, .ref (a 0)), (1, .int p1), (2, .int p2), (3, .ref (a 45))] := hl
  refine lv_aload_n hx hb dL_layer_0 rfl (lv_at hl 3 rfl) ?_
  refine lv_iconst (v := 0) hx hb dL_layer_1 (by decide) ?_
  refine lv_aload_n hx hb dL_layer_2 rfl (lv_at hl 0 rfl) ?_
  refine lv_iload_n hx hb dL_layer_3 rfl (lv_at hl 1 rfl) ?_
  refine lv_iload_n hx hb dL_layer_4 rfl (lv_at hl 2 rfl) ?_
  refine mp_tcallK (As := [.int p1, .int p2]) (rest := [.int ((0 : Int32)), .ref (a 45)]) X hT (t_X5_layer l hlt D y a h) (mp_cwT (k := 2) hts mM_L_39 mI_X5_layer mS_X5_layer mN_X5 mC_X5_layer rfl rfl (by decide +kernel) ⟨Nat.le_of_ble_eq_true rfl, Nat.le_of_ble_eq_true rfl⟩) hK hP hD hS hA 0 pwC_0 rfl rfl hl.1 rfl (Nat.le_of_ble_eq_true rfl) dL_layer_5 ⟨Nat.le_of_ble_eq_true rfl, Nat.le_of_ble_eq_true rfl⟩ (fun H locs q9 ce hP hD hS hce hcv hcl => ?_)
  refine vx_catch (name := xNSE) (E := xNSE) hown [] ⟨0, 10, 13, 13⟩ [] htab (fun z hz => nomatch hz) (by decide) (by decide) (hts _ mG_L_13) (va_Nw.use rfl hT.1.1) hce hcv hcl ?_
  refine lv_astore (lv' := [(4, .ref q9), (0, .ref (a 0)), (1, .int p1), (2, .int p2), (3, .ref (a 45))]) hx hb dL_layer_13 hl (by decide) rfl (fun ls hl => ?_)
  refine lv_iconst (v := 1) hx hb dL_layer_15 (by decide) ?_
  exact mpr_i X hK hP hD hS rfl dL_layer_16
set_option maxHeartbeats 4000000 in
set_option maxRecDepth 100000 in
theorem th_L_sting_1 (l : Launch) (hlt : l.stackTraces = false) (D : va_G) (y : CY) (a : Nat → Nat) {x : PD} {p1 : Int32} (h : g_X5_sting x p1 = some 1) : mpTH l D y yL_sting cL_sting 4 (some .int) [(0, 9, 12, 13)] { frames := 8, cells := 1, slots := 6, locals := 132 } (pw y a x) [.ref (a 0), .int p1, .ref (a 45)] (some (.int 1)) := by
  refine mpTH.mk (own := RL) (by decide) rfl (Nat.le_of_ble_eq_true rfl) ?_
  intro p e s m below meth c A ls X htab hT hK hA hP hD hl
  have hS : va_S A s.heap s.heap [] := va_S.rf
  obtain ⟨⟨hx, hb, hml, hown, hts⟩, hr, hlk⟩ := id X
  have hl : lv_has ls 4 [(0, .ref (a 0)), (1, .int p1), (2, .ref (a 45))] := hl
  refine lv_aload_n hx hb dL_sting_0 rfl (lv_at hl 2 rfl) ?_
  refine lv_iconst (v := 0) hx hb dL_sting_1 (by decide) ?_
  refine lv_aload_n hx hb dL_sting_2 rfl (lv_at hl 0 rfl) ?_
  refine lv_iload_n hx hb dL_sting_3 rfl (lv_at hl 1 rfl) ?_
  refine mp_tcallK (As := [.int p1]) (rest := [.int ((0 : Int32)), .ref (a 45)]) X hT (t_X5_sting l hlt D y a h) (mp_cwT (k := 1) hts mM_L_42 mI_X5_sting mS_X5_sting mN_X5 mC_X5_sting rfl rfl (by decide +kernel) ⟨Nat.le_of_ble_eq_true rfl, Nat.le_of_ble_eq_true rfl⟩) hK hP hD hS hA 0 pwC_0 rfl rfl hl.1 rfl (Nat.le_of_ble_eq_true rfl) dL_sting_4 ⟨Nat.le_of_ble_eq_true rfl, Nat.le_of_ble_eq_true rfl⟩ (fun H locs q9 ce hP hD hS hce hcv hcl => ?_)
  refine vx_catch (name := xNSE) (E := xNSE) hown [] ⟨0, 9, 12, 13⟩ [] htab (fun z hz => nomatch hz) (by decide) (by decide) (hts _ mG_L_13) (va_Nw.use rfl hT.1.1) hce hcv hcl ?_
  refine lv_astore_n (lv' := [(3, .ref q9), (0, .ref (a 0)), (1, .int p1), (2, .ref (a 45))]) hx hb dL_sting_12 rfl hl (by decide) rfl (fun ls hl => ?_)
  refine lv_iconst (v := 1) hx hb dL_sting_13 (by decide) ?_
  exact mpr_i X hK hP hD hS rfl dL_sting_14
set_option maxHeartbeats 4000000 in
set_option maxRecDepth 100000 in
theorem th_L_go_2 (l : Launch) (hlt : l.stackTraces = false) (D : va_G) (y : CY) (a : Nat → Nat) {x : PD} {p1 : Int32} (h : g_X5_go x p1 = some 2) : mpTH l D y yL_go cL_go 4 (some .int) [(0, 8, 11, 19)] { frames := 7, cells := 1, slots := 6, locals := 116 } (pw y a x) [.ref (a 0), .int p1, .ref (a 45)] (some (.int 1)) := by
  refine mpTH.mk (own := RL) (by decide) rfl (Nat.le_of_ble_eq_true rfl) ?_
  intro p e s m below meth c A ls X htab hT hK hA hP hD hl
  have hS : va_S A s.heap s.heap [] := va_S.rf
  obtain ⟨⟨hx, hb, hml, hown, hts⟩, hr, hlk⟩ := id X
  have hl : lv_has ls 4 [(0, .ref (a 0)), (1, .int p1), (2, .ref (a 45))] := hl
  refine lv_aload_n hx hb dL_go_0 rfl (lv_at hl 2 rfl) ?_
  refine lv_iconst (v := 0) hx hb dL_go_1 (by decide) ?_
  refine lv_aload_n hx hb dL_go_2 rfl (lv_at hl 0 rfl) ?_
  refine lv_iload_n hx hb dL_go_3 rfl (lv_at hl 1 rfl) ?_
  refine mp_tcallK (As := [.int p1]) (rest := [.int ((0 : Int32)), .ref (a 45)]) X hT (t_X5_go l hlt D y a h) (mp_cwT (k := 1) hts mM_L_45 mI_X5_go mS_X5_go mN_X5 mC_X5_go rfl rfl (by decide +kernel) ⟨Nat.le_of_ble_eq_true rfl, Nat.le_of_ble_eq_true rfl⟩) hK hP hD hS hA 0 pwC_0 rfl rfl hl.1 rfl (Nat.le_of_ble_eq_true rfl) dL_go_4 ⟨Nat.le_of_ble_eq_true rfl, Nat.le_of_ble_eq_true rfl⟩ (fun H locs q9 ce hP hD hS hce hcv hcl => ?_)
  refine vx_catch (name := xIAE) (E := xIAE) hown [] ⟨0, 8, 11, 19⟩ [] htab (fun z hz => nomatch hz) (by decide) (by decide) (hts _ mG_L_19) (va_Nw.use rfl hT.1.2.1) hce hcv hcl ?_
  refine lv_astore_n (lv' := [(3, .ref q9), (0, .ref (a 0)), (1, .int p1), (2, .ref (a 45))]) hx hb dL_go_11 rfl hl (by decide) rfl (fun ls hl => ?_)
  refine lv_iconst (v := 1) hx hb dL_go_12 (by decide) ?_
  exact mpr_i X hK hP hD hS rfl dL_go_13
set_option maxHeartbeats 4000000 in
set_option maxRecDepth 100000 in
theorem th_L_now_1 (l : Launch) (hlt : l.stackTraces = false) (D : va_G) (y : CY) (a : Nat → Nat) {x : PD} {p1 : Int32} (h : g_X5_now x p1 = some 1) : mpTH l D y yL_now cL_now 4 (some .int) [(0, 9, 12, 13)] { frames := 7, cells := 1, slots := 6, locals := 111 } (pw y a x) [.ref (a 0), .int p1, .ref (a 45)] (some (.int 1)) := by
  refine mpTH.mk (own := RL) (by decide) rfl (Nat.le_of_ble_eq_true rfl) ?_
  intro p e s m below meth c A ls X htab hT hK hA hP hD hl
  have hS : va_S A s.heap s.heap [] := va_S.rf
  obtain ⟨⟨hx, hb, hml, hown, hts⟩, hr, hlk⟩ := id X
  have hl : lv_has ls 4 [(0, .ref (a 0)), (1, .int p1), (2, .ref (a 45))] := hl
  refine lv_aload_n hx hb dL_now_0 rfl (lv_at hl 2 rfl) ?_
  refine lv_iconst (v := 0) hx hb dL_now_1 (by decide) ?_
  refine lv_aload_n hx hb dL_now_2 rfl (lv_at hl 0 rfl) ?_
  refine lv_iload_n hx hb dL_now_3 rfl (lv_at hl 1 rfl) ?_
  refine mp_tcallK (As := [.int p1]) (rest := [.int ((0 : Int32)), .ref (a 45)]) X hT (t_X5_now l hlt D y a h) (mp_cwT (k := 1) hts mM_L_49 mI_X5_now mS_X5_now mN_X5 mC_X5_now rfl rfl (by decide +kernel) ⟨Nat.le_of_ble_eq_true rfl, Nat.le_of_ble_eq_true rfl⟩) hK hP hD hS hA 0 pwC_0 rfl rfl hl.1 rfl (Nat.le_of_ble_eq_true rfl) dL_now_4 ⟨Nat.le_of_ble_eq_true rfl, Nat.le_of_ble_eq_true rfl⟩ (fun H locs q9 ce hP hD hS hce hcv hcl => ?_)
  refine vx_catch (name := xNSE) (E := xNSE) hown [] ⟨0, 9, 12, 13⟩ [] htab (fun z hz => nomatch hz) (by decide) (by decide) (hts _ mG_L_13) (va_Nw.use rfl hT.1.1) hce hcv hcl ?_
  refine lv_astore_n (lv' := [(3, .ref q9), (0, .ref (a 0)), (1, .int p1), (2, .ref (a 45))]) hx hb dL_now_12 rfl hl (by decide) rfl (fun ls hl => ?_)
  refine lv_iconst (v := 1) hx hb dL_now_13 (by decide) ?_
  exact mpr_i X hK hP hD hS rfl dL_now_14
set_option maxHeartbeats 4000000 in
set_option maxRecDepth 100000 in
theorem th_L_level_1 (l : Launch) (hlt : l.stackTraces = false) (D : va_G) (y : CY) (a : Nat → Nat) {x : PD} {p1 : Int32} (h : g_X5_level x p1 = some 1) : mpTH l D y yL_level cL_level 4 (some .int) [(0, 9, 12, 13)] { frames := 8, cells := 1, slots := 6, locals := 132 } (pw y a x) [.ref (a 0), .int p1, .ref (a 45)] (some (.int 1)) := by
  refine mpTH.mk (own := RL) (by decide) rfl (Nat.le_of_ble_eq_true rfl) ?_
  intro p e s m below meth c A ls X htab hT hK hA hP hD hl
  have hS : va_S A s.heap s.heap [] := va_S.rf
  obtain ⟨⟨hx, hb, hml, hown, hts⟩, hr, hlk⟩ := id X
  have hl : lv_has ls 4 [(0, .ref (a 0)), (1, .int p1), (2, .ref (a 45))] := hl
  refine lv_aload_n hx hb dL_level_0 rfl (lv_at hl 2 rfl) ?_
  refine lv_iconst (v := 0) hx hb dL_level_1 (by decide) ?_
  refine lv_aload_n hx hb dL_level_2 rfl (lv_at hl 0 rfl) ?_
  refine lv_iload_n hx hb dL_level_3 rfl (lv_at hl 1 rfl) ?_
  refine mp_tcallK (As := [.int p1]) (rest := [.int ((0 : Int32)), .ref (a 45)]) X hT (t_X5_level l hlt D y a h) (mp_cwT (k := 1) hts mM_L_52 mI_X5_level mS_X5_level mN_X5 mC_X5_level rfl rfl (by decide +kernel) ⟨Nat.le_of_ble_eq_true rfl, Nat.le_of_ble_eq_true rfl⟩) hK hP hD hS hA 0 pwC_0 rfl rfl hl.1 rfl (Nat.le_of_ble_eq_true rfl) dL_level_4 ⟨Nat.le_of_ble_eq_true rfl, Nat.le_of_ble_eq_true rfl⟩ (fun H locs q9 ce hP hD hS hce hcv hcl => ?_)
  refine vx_catch (name := xNSE) (E := xNSE) hown [] ⟨0, 9, 12, 13⟩ [] htab (fun z hz => nomatch hz) (by decide) (by decide) (hts _ mG_L_13) (va_Nw.use rfl hT.1.1) hce hcv hcl ?_
  refine lv_astore_n (lv' := [(3, .ref q9), (0, .ref (a 0)), (1, .int p1), (2, .ref (a 45))]) hx hb dL_level_12 rfl hl (by decide) rfl (fun ls hl => ?_)
  refine lv_iconst (v := 1) hx hb dL_level_13 (by decide) ?_
  exact mpr_i X hK hP hD hS rfl dL_level_14
set_option maxHeartbeats 4000000 in
set_option maxRecDepth 100000 in
theorem th_L_log_1 (l : Launch) (hlt : l.stackTraces = false) (D : va_G) (y : CY) (a : Nat → Nat) {x : PD} {p1 : Int32} {p2 : Int32} (h : g_X5_log x p1 p2 = some 1) : mpTH l D y yL_log cL_log 5 (some .int) [(0, 9, 12, 13)] { frames := 7, cells := 1, slots := 6, locals := 112 } (pw y a x) [.ref (a 0), .int p1, .int p2, .ref (a 45)] (some (.int 1)) := by
  refine mpTH.mk (own := RL) (by decide) rfl (Nat.le_of_ble_eq_true rfl) ?_
  intro p e s m below meth c A ls X htab hT hK hA hP hD hl
  have hS : va_S A s.heap s.heap [] := va_S.rf
  obtain ⟨⟨hx, hb, hml, hown, hts⟩, hr, hlk⟩ := id X
  have hl : lv_has ls 5 [(0, .ref (a 0)), (1, .int p1), (2, .int p2), (3, .ref (a 45))] := hl
  refine lv_aload_n hx hb dL_log_0 rfl (lv_at hl 3 rfl) ?_
  refine lv_iconst (v := 0) hx hb dL_log_1 (by decide) ?_
  refine lv_aload_n hx hb dL_log_2 rfl (lv_at hl 0 rfl) ?_
  refine lv_iload_n hx hb dL_log_3 rfl (lv_at hl 1 rfl) ?_
  refine lv_iload_n hx hb dL_log_4 rfl (lv_at hl 2 rfl) ?_
  refine mp_tcallK (As := [.int p1, .int p2]) (rest := [.int ((0 : Int32)), .ref (a 45)]) X hT (t_X5_log l hlt D y a h) (mp_cwT (k := 2) hts mM_L_55 mI_X5_log mS_X5_log mN_X5 mC_X5_log rfl rfl (by decide +kernel) ⟨Nat.le_of_ble_eq_true rfl, Nat.le_of_ble_eq_true rfl⟩) hK hP hD hS hA 0 pwC_0 rfl rfl hl.1 rfl (Nat.le_of_ble_eq_true rfl) dL_log_5 ⟨Nat.le_of_ble_eq_true rfl, Nat.le_of_ble_eq_true rfl⟩ (fun H locs q9 ce hP hD hS hce hcv hcl => ?_)
  refine vx_catch (name := xNSE) (E := xNSE) hown [] ⟨0, 9, 12, 13⟩ [] htab (fun z hz => nomatch hz) (by decide) (by decide) (hts _ mG_L_13) (va_Nw.use rfl hT.1.1) hce hcv hcl ?_
  refine lv_astore (lv' := [(4, .ref q9), (0, .ref (a 0)), (1, .int p1), (2, .int p2), (3, .ref (a 45))]) hx hb dL_log_12 hl (by decide) rfl (fun ls hl => ?_)
  refine lv_iconst (v := 1) hx hb dL_log_14 (by decide) ?_
  exact mpr_i X hK hP hD hS rfl dL_log_15
set_option maxHeartbeats 4000000 in
set_option maxRecDepth 100000 in
theorem th_L_keep_2 (l : Launch) (hlt : l.stackTraces = false) (D : va_G) (y : CY) (a : Nat → Nat) {x : PD} {p1 : Int32} (h : g_X5_keep x p1 = some 2) : mpTH l D y yL_keep cL_keep 4 (some .int) [(0, 16, 19, 19)] { frames := 8, cells := 1, slots := 6, locals := 134 } (pw y a x) [.ref (a 0), .int p1, .ref (a 45)] (some (.int 1)) := by
  refine mpTH.mk (own := RL) (by decide) rfl (Nat.le_of_ble_eq_true rfl) ?_
  intro p e s m below meth c A ls X htab hT hK hA hP hD hl
  have hS : va_S A s.heap s.heap [] := va_S.rf
  obtain ⟨⟨hx, hb, hml, hown, hts⟩, hr, hlk⟩ := id X
  have hl : lv_has ls 4 [(0, .ref (a 0)), (1, .int p1), (2, .ref (a 45))] := hl
  refine lv_aload_n hx hb dL_keep_0 rfl (lv_at hl 2 rfl) ?_
  refine lv_iconst (v := 0) hx hb dL_keep_1 (by decide) ?_
  refine lv_aload_n hx hb dL_keep_2 rfl (lv_at hl 0 rfl) ?_
  refine lv_iload_n hx hb dL_keep_3 rfl (lv_at hl 1 rfl) ?_
  refine mp_tcallK (As := [.int p1]) (rest := [.int ((0 : Int32)), .ref (a 45)]) X hT (t_X5_keep l hlt D y a h) (mp_cwT (k := 1) hts mM_L_58 mI_X5_keep mS_X5_keep mN_X5 mC_X5_keep rfl rfl (by decide +kernel) ⟨Nat.le_of_ble_eq_true rfl, Nat.le_of_ble_eq_true rfl⟩) hK hP hD hS hA 0 pwC_0 rfl rfl hl.1 rfl (Nat.le_of_ble_eq_true rfl) dL_keep_4 ⟨Nat.le_of_ble_eq_true rfl, Nat.le_of_ble_eq_true rfl⟩ (fun H locs q9 ce hP hD hS hce hcv hcl => ?_)
  refine vx_catch (name := xIAE) (E := xIAE) hown [] ⟨0, 16, 19, 19⟩ [] htab (fun z hz => nomatch hz) (by decide) (by decide) (hts _ mG_L_19) (va_Nw.use rfl hT.1.2.1) hce hcv hcl ?_
  refine lv_astore_n (lv' := [(3, .ref q9), (0, .ref (a 0)), (1, .int p1), (2, .ref (a 45))]) hx hb dL_keep_19 rfl hl (by decide) rfl (fun ls hl => ?_)
  refine lv_iconst (v := 1) hx hb dL_keep_20 (by decide) ?_
  exact mpr_i X hK hP hD hS rfl dL_keep_21
set_option maxHeartbeats 4000000 in
set_option maxRecDepth 100000 in
theorem th_L_goOn_2 (l : Launch) (hlt : l.stackTraces = false) (D : va_G) (y : CY) (a : Nat → Nat) {x : PD} {p1 : Int32} (h : g_X5_goOn x p1 = some 2) : mpTH l D y yL_goOn cL_goOn 4 (some .int) [(0, 16, 19, 19)] { frames := 8, cells := 1, slots := 6, locals := 133 } (pw y a x) [.ref (a 0), .int p1, .ref (a 45)] (some (.int 1)) := by
  refine mpTH.mk (own := RL) (by decide) rfl (Nat.le_of_ble_eq_true rfl) ?_
  intro p e s m below meth c A ls X htab hT hK hA hP hD hl
  have hS : va_S A s.heap s.heap [] := va_S.rf
  obtain ⟨⟨hx, hb, hml, hown, hts⟩, hr, hlk⟩ := id X
  have hl : lv_has ls 4 [(0, .ref (a 0)), (1, .int p1), (2, .ref (a 45))] := hl
  refine lv_aload_n hx hb dL_goOn_0 rfl (lv_at hl 2 rfl) ?_
  refine lv_iconst (v := 0) hx hb dL_goOn_1 (by decide) ?_
  refine lv_aload_n hx hb dL_goOn_2 rfl (lv_at hl 0 rfl) ?_
  refine lv_iload_n hx hb dL_goOn_3 rfl (lv_at hl 1 rfl) ?_
  refine mp_tcallK (As := [.int p1]) (rest := [.int ((0 : Int32)), .ref (a 45)]) X hT (t_X5_goOn l hlt D y a h) (mp_cwT (k := 1) hts mM_L_61 mI_X5_goOn mS_X5_goOn mN_X5 mC_X5_goOn rfl rfl (by decide +kernel) ⟨Nat.le_of_ble_eq_true rfl, Nat.le_of_ble_eq_true rfl⟩) hK hP hD hS hA 0 pwC_0 rfl rfl hl.1 rfl (Nat.le_of_ble_eq_true rfl) dL_goOn_4 ⟨Nat.le_of_ble_eq_true rfl, Nat.le_of_ble_eq_true rfl⟩ (fun H locs q9 ce hP hD hS hce hcv hcl => ?_)
  refine vx_catch (name := xIAE) (E := xIAE) hown [] ⟨0, 16, 19, 19⟩ [] htab (fun z hz => nomatch hz) (by decide) (by decide) (hts _ mG_L_19) (va_Nw.use rfl hT.1.2.1) hce hcv hcl ?_
  refine lv_astore_n (lv' := [(3, .ref q9), (0, .ref (a 0)), (1, .int p1), (2, .ref (a 45))]) hx hb dL_goOn_19 rfl hl (by decide) rfl (fun ls hl => ?_)
  refine lv_iconst (v := 1) hx hb dL_goOn_20 (by decide) ?_
  exact mpr_i X hK hP hD hS rfl dL_goOn_21
