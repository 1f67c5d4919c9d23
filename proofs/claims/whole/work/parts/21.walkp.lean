def f_X5_price (x : PD) (p1 : Int32) (p2 : Int32) : Option (Int32 × PD) :=
  if p1 < 0 then
  (none)
  else
  if ((2 : Int32)) ≤ p1 then
  (none)
  else
  if p2 < 0 then
  (none)
  else
  if p2 ≤ ((99 : Int32)) then
  (gd (inR p1 2) (gd (inR p1 2) (letv (wA x 11 (upd (rA x 11) (Int32.toNatClampNeg p1) p2)) fun x1 =>
  bn1 (f_X1_scoreChanged x1) fun x2 =>
  some (rA x 11 (Int32.toNatClampNeg p1), x2))))
  else
  none
set_option maxHeartbeats 4000000 in
set_option maxRecDepth 100000 in
theorem c_X5_price (l : Launch) (D : va_G) (y : CY) (a : Nat → Nat) {x : PD} {x' : PD} {r : Int32} {p1 : Int32} {p2 : Int32} (h : f_X5_price x p1 p2 = some (r, x')) : mpM l D y yX5_price cX5_price 4 (some .int) { frames := 5, cells := 0, slots := 0, locals := 121 } (pw y a x) (pw y a x') [.ref (a 0), .int p1, .int p2] (some (.int r)) := by
  refine mpM.mk (own := RX5) (by decide) rfl (Nat.le_of_ble_eq_true rfl) ?_
  intro p e s m below meth c A ls X hK hA hP hD hl
  have hS : va_S A s.heap s.heap [] := va_S.rf
  obtain ⟨⟨hx, hb, hml, hown, hts⟩, hr, hlk⟩ := id X
  have hl : lv_has ls 4 [(0, .ref (a 0)), (1, .int p1), (2, .int p2)] := hl
  unfold f_X5_price at h
  refine lv_iload_n hx hb dX5_price_0 rfl (lv_at hl 1 rfl) ?_
  refine lv_if_lt (tgt := 19) hx hb dX5_price_1 (by decide) (fun hc => ?_) (fun hc => ?_)
  · replace h := ift hc h
    exact nons h
  · replace h := iff_ hc h
    refine lv_iload_n hx hb dX5_price_4 rfl (lv_at hl 1 rfl) ?_
    refine lv_iconst (v := 2) hx hb dX5_price_5 (by decide) ?_
    refine lv_icmp_ge (tgt := 19) hx hb dX5_price_6 (by decide) (fun hc => ?_) (fun hc => ?_)
    · replace h := ift hc h
      exact nons h
    · replace h := iff_ hc h
      refine lv_iload_n hx hb dX5_price_9 rfl (lv_at hl 2 rfl) ?_
      refine lv_if_lt (tgt := 19) hx hb dX5_price_10 (by decide) (fun hc => ?_) (fun hc => ?_)
      · replace h := ift hc h
        exact nons h
      · replace h := iff_ hc h
        refine lv_iload_n hx hb dX5_price_13 rfl (lv_at hl 2 rfl) ?_
        refine lv_bipush (v := 99) hx hb dX5_price_14 (by decide) ?_
        refine lv_icmp_le (tgt := 29) hx hb dX5_price_16 (by decide) (fun hc => ?_) (fun hc => ?_)
        · replace h := ift hc h
          refine lv_aload_n hx hb dX5_price_29 rfl (lv_at hl 0 rfl) ?_
          refine pwG_0_0 X hK hP mF_X5_12 dX5_price_30 ?_
          refine pwG_1_11 X hK hP mF_X5_74 dX5_price_33 ?_
          refine lv_iload_n hx hb dX5_price_36 rfl (lv_at hl 1 rfl) ?_
          obtain ⟨hg, h⟩ := gd_elim h
          refine pwL_11 X hK hP hg dX5_price_37 ?_
          refine lv_istore_n (lv' := [(3, .int (rA x 11 (Int32.toNatClampNeg p1))), (0, .ref (a 0)), (1, .int p1), (2, .int p2)]) hx hb dX5_price_38 rfl hl (by decide) rfl (fun ls hl => ?_)
          refine lv_aload_n hx hb dX5_price_39 rfl (lv_at hl 1 rfl) ?_
          refine pwG_0_0 X hK hP mF_X5_12 dX5_price_40 ?_
          refine pwG_1_11 X hK hP mF_X5_74 dX5_price_43 ?_
          refine lv_iload_n hx hb dX5_price_46 rfl (lv_at hl 2 rfl) ?_
          refine lv_iload_n hx hb dX5_price_47 rfl (lv_at hl 3 rfl) ?_
          obtain ⟨hg, h⟩ := gd_elim h
          obtain ⟨x1, e1, h⟩ := letv_elim h
          refine pwS_11 X hK hP hD hS hg e1 dX5_price_48 (fun H locs hP hD hS => ?_)
          refine lv_aload_n hx hb dX5_price_49 rfl (lv_at hl 1 rfl) ?_
          refine pwG_0_5 X hK hP mF_X5_48 dX5_price_50 ?_
          obtain ⟨x2, hr0, h⟩ := bn1_elim h
          refine mp_callv (As := []) (rest := []) X (c_X1_scoreChanged l D y a hr0) (mp_cw (k := 0) hts mM_X5_56 mI_X1_scoreChanged mS_X1_scoreChanged mN_X1 mC_X1_scoreChanged rfl rfl (by decide +kernel) ⟨Nat.le_of_ble_eq_true rfl, Nat.le_of_ble_eq_true rfl⟩) hK hP hD hS hA 40 pwC_40 rfl rfl hl.1 rfl (Nat.le_of_ble_eq_true rfl) dX5_price_53 ⟨Nat.zero_le _, Nat.zero_le _⟩ (fun H locs hP hD hS => ?_)
          refine lv_iload_n hx hb dX5_price_56 rfl (lv_at hl 0 rfl) ?_
          cases h
          exact mpr_i X hK hP hD hS rfl dX5_price_57
        · replace h := iff_ hc h
          exact nons h
def f_X0_add (x : PD) (p1 : Int32) (p2 : Int32) : Option (PD) :=
  gd (inR (((rI x 1060) + (rI x 1061)) - ((rI x 1060) + (rI x 1061)) / ((300 : Int32)) * ((300 : Int32))) 300) (letv (wB x 34 (vp_updL (rB x 34) (Int32.toNatClampNeg (((rI x 1060) + (rI x 1061)) - ((rI x 1060) + (rI x 1061)) / ((300 : Int32)) * ((300 : Int32)))) (rL x 385))) fun x1 =>
  gd (inR (((rI x 1060) + (rI x 1061)) - ((rI x 1060) + (rI x 1061)) / ((300 : Int32)) * ((300 : Int32))) 300) (letv (wA x1 35 (upd (rA x1 35) (Int32.toNatClampNeg (((rI x 1060) + (rI x 1061)) - ((rI x 1060) + (rI x 1061)) / ((300 : Int32)) * ((300 : Int32)))) p1)) fun x2 =>
  gd (inR (((rI x 1060) + (rI x 1061)) - ((rI x 1060) + (rI x 1061)) / ((300 : Int32)) * ((300 : Int32))) 300) (letv (wA x2 36 (upd (rA x2 36) (Int32.toNatClampNeg (((rI x 1060) + (rI x 1061)) - ((rI x 1060) + (rI x 1061)) / ((300 : Int32)) * ((300 : Int32)))) p2)) fun x3 =>
  if ((300 : Int32)) ≤ (rI x3 1061) then
  (letv (wI x3 1060 (((rI x3 1060) + ((1 : Int32))) - ((rI x3 1060) + ((1 : Int32))) / ((300 : Int32)) * ((300 : Int32)))) fun x4 =>
  some x4)
  else
  letv (wI x3 1061 ((rI x3 1061) + ((1 : Int32)))) fun x5 =>
  some x5)))
set_option maxHeartbeats 4000000 in
set_option maxRecDepth 100000 in
theorem c_X0_add (l : Launch) (D : va_G) (y : CY) (a : Nat → Nat) {x : PD} {x' : PD} {p1 : Int32} {p2 : Int32} (h : f_X0_add x p1 p2 = some x') : mpM l D y yX0_add cX0_add 4 none { frames := 0, cells := 0, slots := 0, locals := 0 } (pw y a x) (pw y a x') [.ref (a 33), .int p1, .int p2] none := by
  refine mpM.mk (own := RX0) (by decide) rfl (Nat.le_of_ble_eq_true rfl) ?_
  intro p e s m below meth c A ls X hK hA hP hD hl
  have hS : va_S A s.heap s.heap [] := va_S.rf
  obtain ⟨⟨hx, hb, hml, hown, hts⟩, hr, hlk⟩ := id X
  have hl : lv_has ls 4 [(0, .ref (a 33)), (1, .int p1), (2, .int p2)] := hl
  unfold f_X0_add at h
  refine lv_aload_n hx hb dX0_add_0 rfl (lv_at hl 0 rfl) ?_
  refine pwG_33_4 X hK hP mF_X0_26 dX0_add_1 ?_
  refine lv_aload_n hx hb dX0_add_4 rfl (lv_at hl 0 rfl) ?_
  refine pwG_33_5 X hK hP mF_X0_30 dX0_add_5 ?_
  refine lv_iadd hx hb dX0_add_8 ?_
  refine lv_sipush (v := 300) hx hb dX0_add_9 (by decide) ?_
  refine lv_irem hx hb dX0_add_12 (by decide) ?_
  refine lv_istore_n (lv' := [(3, .int (((rI x 1060) + (rI x 1061)) - ((rI x 1060) + (rI x 1061)) / ((300 : Int32)) * ((300 : Int32)))), (0, .ref (a 33)), (1, .int p1), (2, .int p2)]) hx hb dX0_add_13 rfl hl (by decide) rfl (fun ls hl => ?_)
  refine lv_aload_n hx hb dX0_add_14 rfl (lv_at hl 1 rfl) ?_
  refine pwG_33_1 X hK hP mF_X0_9 dX0_add_15 ?_
  refine lv_iload_n hx hb dX0_add_18 rfl (lv_at hl 0 rfl) ?_
  refine lv_aload_n hx hb dX0_add_19 rfl (lv_at hl 1 rfl) ?_
  refine pwG_33_0 X hK hP mF_X0_22 dX0_add_20 ?_
  refine pwG_12_1 X hK hP mF_X0_33 dX0_add_23 ?_
  obtain ⟨hg, h⟩ := gd_elim h
  obtain ⟨x1, e1, h⟩ := letv_elim h
  refine pwS_34 X hK hP hD hS hg e1 dX0_add_26 (fun H locs hP hD hS => ?_)
  refine lv_aload_n hx hb dX0_add_27 rfl (lv_at hl 1 rfl) ?_
  refine pwG_33_2 X hK hP mF_X0_15 dX0_add_28 ?_
  refine lv_iload_n hx hb dX0_add_31 rfl (lv_at hl 0 rfl) ?_
  refine lv_iload_n hx hb dX0_add_32 rfl (lv_at hl 2 rfl) ?_
  obtain ⟨hg, h⟩ := gd_elim h
  obtain ⟨x2, e1, h⟩ := letv_elim h
  refine pwS_35 X hK hP hD hS hg e1 dX0_add_33 (fun H locs hP hD hS => ?_)
  refine lv_aload_n hx hb dX0_add_34 rfl (lv_at hl 1 rfl) ?_
  refine pwG_33_3 X hK hP mF_X0_19 dX0_add_35 ?_
  refine lv_iload_n hx hb dX0_add_38 rfl (lv_at hl 0 rfl) ?_
  refine lv_iload_n hx hb dX0_add_39 rfl (lv_at hl 3 rfl) ?_
  obtain ⟨hg, h⟩ := gd_elim h
  obtain ⟨x3, e1, h⟩ := letv_elim h
  refine pwS_36 X hK hP hD hS hg e1 dX0_add_40 (fun H locs hP hD hS => ?_)
  refine lv_aload_n hx hb dX0_add_41 rfl (lv_at hl 1 rfl) ?_
  refine pwG_33_5 X hK hP mF_X0_30 dX0_add_42 ?_
  refine lv_sipush (v := 300) hx hb dX0_add_45 (by decide) ?_
  refine lv_icmp_ge (tgt := 64) hx hb dX0_add_48 (by decide) (fun hc => ?_) (fun hc => ?_)
  · replace h := ift hc h
    refine lv_aload_n hx hb dX0_add_64 rfl (lv_at hl 1 rfl) ?_
    refine lv_aload_n hx hb dX0_add_65 rfl (lv_at hl 1 rfl) ?_
    refine pwG_33_4 X hK hP mF_X0_26 dX0_add_66 ?_
    refine lv_iconst (v := 1) hx hb dX0_add_69 (by decide) ?_
    refine lv_iadd hx hb dX0_add_70 ?_
    refine lv_sipush (v := 300) hx hb dX0_add_71 (by decide) ?_
    refine lv_irem hx hb dX0_add_74 (by decide) ?_
    obtain ⟨x4, e1, h⟩ := letv_elim h
    refine pwP_33_4 X hK hP hD hS mF_X0_26 e1 dX0_add_75 (fun H locs hP hD hS => ?_)
    cases h
    exact mpr_v X hK hP hD hS dX0_add_78
  · replace h := iff_ hc h
    refine lv_aload_n hx hb dX0_add_51 rfl (lv_at hl 1 rfl) ?_
    refine lv_dup hx hb dX0_add_52 rfl ?_
    refine pwG_33_5 X hK hP mF_X0_30 dX0_add_53 ?_
    refine lv_iconst (v := 1) hx hb dX0_add_56 (by decide) ?_
    refine lv_iadd hx hb dX0_add_57 ?_
    obtain ⟨x5, e1, h⟩ := letv_elim h
    refine pwP_33_5 X hK hP hD hS mF_X0_30 e1 dX0_add_58 (fun H locs hP hD hS => ?_)
    refine lv_goto (tgt := 78) hx hb dX0_add_61 (by decide) ?_
    cases h
    exact mpr_v X hK hP hD hS dX0_add_78
def f_X5_meetMood (x : PD) : Option (Int32 × PD) :=
  if (rI x 386) = ((-1 : Int32)) then
  (some ((0 : Int32), x))
  else
  if (rI x 390) = ((-1 : Int32)) then
  (some ((0 : Int32), x))
  else
  bn1 (f_X2_hasMood x (rI x 386) (rI x 390)) fun r1 =>
  if r1 = 0 then
  some ((0 : Int32), x)
  else
  bn1 (f_X0_add x ((4 : Int32)) (rI x 390)) fun x2 =>
  letv (wI x2 390 ((-1 : Int32))) fun x3 =>
  bn1 (f_X1_forget x3) fun x4 =>
  some ((1 : Int32), x4)
set_option maxHeartbeats 4000000 in
set_option maxRecDepth 100000 in
theorem c_X5_meetMood (l : Launch) (D : va_G) (y : CY) (a : Nat → Nat) {x : PD} {x' : PD} {r : Int32} (h : f_X5_meetMood x = some (r, x')) : mpM l D y yX5_meetMood cX5_meetMood 1 (some .boolean) { frames := 1, cells := 0, slots := 0, locals := 23 } (pw y a x) (pw y a x') [.ref (a 0)] (some (.int r)) := by
  refine mpM.mk (own := RX5) (by decide) rfl (Nat.le_of_ble_eq_true rfl) ?_
  intro p e s m below meth c A ls X hK hA hP hD hl
  have hS : va_S A s.heap s.heap [] := va_S.rf
  obtain ⟨⟨hx, hb, hml, hown, hts⟩, hr, hlk⟩ := id X
  have hl : lv_has ls 1 [(0, .ref (a 0))] := hl
  unfold f_X5_meetMood at h
  refine lv_aload_n hx hb dX5_meetMood_0 rfl (lv_at hl 0 rfl) ?_
  refine pwG_0_1 X hK hP mF_X5_19 dX5_meetMood_1 ?_
  refine pwG_12_2 X hK hP mF_X5_175 dX5_meetMood_4 ?_
  refine lv_iconst (v := -1) hx hb dX5_meetMood_7 (by decide) ?_
  refine lv_icmp_eq (tgt := 46) hx hb dX5_meetMood_8 (by decide) (fun hc => ?_) (fun hc => ?_)
  · replace h := ift hc h
    refine lv_iconst (v := 0) hx hb dX5_meetMood_46 (by decide) ?_
    cases h
    exact mpr_z X hK hP hD hS rfl rfl dX5_meetMood_47
  · replace h := iff_ hc h
    refine lv_aload_n hx hb dX5_meetMood_11 rfl (lv_at hl 0 rfl) ?_
    refine pwG_0_1 X hK hP mF_X5_19 dX5_meetMood_12 ?_
    refine pwG_12_6 X hK hP mF_X5_95 dX5_meetMood_15 ?_
    refine lv_iconst (v := -1) hx hb dX5_meetMood_18 (by decide) ?_
    refine lv_icmp_eq (tgt := 46) hx hb dX5_meetMood_19 (by decide) (fun hc => ?_) (fun hc => ?_)
    · replace h := ift hc h
      refine lv_iconst (v := 0) hx hb dX5_meetMood_46 (by decide) ?_
      cases h
      exact mpr_z X hK hP hD hS rfl rfl dX5_meetMood_47
    · replace h := iff_ hc h
      refine lv_aload_n hx hb dX5_meetMood_22 rfl (lv_at hl 0 rfl) ?_
      refine pwG_0_0 X hK hP mF_X5_12 dX5_meetMood_23 ?_
      refine lv_aload_n hx hb dX5_meetMood_26 rfl (lv_at hl 0 rfl) ?_
      refine pwG_0_1 X hK hP mF_X5_19 dX5_meetMood_27 ?_
      refine pwG_12_2 X hK hP mF_X5_175 dX5_meetMood_30 ?_
      refine lv_aload_n hx hb dX5_meetMood_33 rfl (lv_at hl 0 rfl) ?_
      refine pwG_0_1 X hK hP mF_X5_19 dX5_meetMood_34 ?_
      refine pwG_12_6 X hK hP mF_X5_95 dX5_meetMood_37 ?_
      obtain ⟨r1, hr0, h⟩ := bn1_elim h
      refine mp_call1 (As := [.int (rI x 386), .int (rI x 390)]) (rest := []) X (c_X2_hasMood l D y a hr0) (mp_cw (k := 2) hts mM_X5_292 mI_X2_hasMood mS_X2_hasMood mN_X2 mC_X2_hasMood rfl rfl (by decide +kernel) ⟨Nat.le_of_ble_eq_true rfl, Nat.le_of_ble_eq_true rfl⟩) hK hP hD hS hA 1 pwC_1 rfl rfl hl.1 rfl (Nat.le_of_ble_eq_true rfl) dX5_meetMood_40 ⟨Nat.zero_le _, Nat.zero_le _⟩ (fun H locs hP hD hS => ?_)
      refine lv_if_ne (tgt := 48) hx hb dX5_meetMood_43 (by decide) (fun hc => ?_) (fun hc => ?_)
      · replace h := iff_ hc h
        refine lv_aload_n hx hb dX5_meetMood_48 rfl (lv_at hl 0 rfl) ?_
        refine pwG_0_3 X hK hP mF_X5_32 dX5_meetMood_49 ?_
        refine lv_iconst (v := 4) hx hb dX5_meetMood_52 (by decide) ?_
        refine lv_aload_n hx hb dX5_meetMood_53 rfl (lv_at hl 0 rfl) ?_
        refine pwG_0_1 X hK hP mF_X5_19 dX5_meetMood_54 ?_
        refine pwG_12_6 X hK hP mF_X5_95 dX5_meetMood_57 ?_
        obtain ⟨x2, hr0, h⟩ := bn1_elim h
        refine mp_callv (As := [.int ((4 : Int32)), .int (rI x 390)]) (rest := []) X (c_X0_add l D y a hr0) (mp_cw (k := 2) hts mM_X5_82 mI_X0_add mS_X0_add mN_X0 mC_X0_add rfl rfl (by decide +kernel) ⟨Nat.le_of_ble_eq_true rfl, Nat.le_of_ble_eq_true rfl⟩) hK hP hD hS hA 33 pwC_33 rfl rfl hl.1 rfl (Nat.le_of_ble_eq_true rfl) dX5_meetMood_60 ⟨Nat.zero_le _, Nat.zero_le _⟩ (fun H locs hP hD hS => ?_)
        refine lv_aload_n hx hb dX5_meetMood_63 rfl (lv_at hl 0 rfl) ?_
        refine pwG_0_1 X hK hP mF_X5_19 dX5_meetMood_64 ?_
        refine lv_iconst (v := -1) hx hb dX5_meetMood_67 (by decide) ?_
        obtain ⟨x3, e1, h⟩ := letv_elim h
        refine pwP_12_6 X hK hP hD hS mF_X5_95 e1 dX5_meetMood_68 (fun H locs hP hD hS => ?_)
        refine lv_aload_n hx hb dX5_meetMood_71 rfl (lv_at hl 0 rfl) ?_
        refine pwG_0_5 X hK hP mF_X5_48 dX5_meetMood_72 ?_
        obtain ⟨x4, hr0, h⟩ := bn1_elim h
        refine mp_callv (As := []) (rest := []) X (c_X1_forget l D y a hr0) (mp_cw (k := 0) hts mM_X5_107 mI_X1_forget mS_X1_forget mN_X1 mC_X1_forget rfl rfl (by decide +kernel) ⟨Nat.le_of_ble_eq_true rfl, Nat.le_of_ble_eq_true rfl⟩) hK hP hD hS hA 40 pwC_40 rfl rfl hl.1 rfl (Nat.le_of_ble_eq_true rfl) dX5_meetMood_75 ⟨Nat.zero_le _, Nat.zero_le _⟩ (fun H locs hP hD hS => ?_)
        refine lv_iconst (v := 1) hx hb dX5_meetMood_78 (by decide) ?_
        cases h
        exact mpr_z X hK hP hD hS rfl rfl dX5_meetMood_79
      · replace h := ift hc h
        refine lv_iconst (v := 0) hx hb dX5_meetMood_46 (by decide) ?_
        cases h
        exact mpr_z X hK hP hD hS rfl rfl dX5_meetMood_47
def f_X5_begin (x : PD) (p1 : Int32) (p2 : Int32) : Option (PD) :=
  letv (wI x 386 p1) fun x1 =>
  letv (wI x1 388 p2) fun x2 =>
  letv (wI x2 387 ((0 : Int32))) fun x3 =>
  letv (wL x3 389 (rL x3 385)) fun x4 =>
  bn2 (f_X5_meetMood x4) fun r5 x6 =>
  some x6
set_option maxHeartbeats 4000000 in
set_option maxRecDepth 100000 in
theorem c_X5_begin (l : Launch) (D : va_G) (y : CY) (a : Nat → Nat) {x : PD} {x' : PD} {p1 : Int32} {p2 : Int32} (h : f_X5_begin x p1 p2 = some x') : mpM l D y yX5_begin cX5_begin 3 none { frames := 2, cells := 0, slots := 0, locals := 43 } (pw y a x) (pw y a x') [.ref (a 0), .int p1, .int p2] none := by
  refine mpM.mk (own := RX5) (by decide) rfl (Nat.le_of_ble_eq_true rfl) ?_
  intro p e s m below meth c A ls X hK hA hP hD hl
  have hS : va_S A s.heap s.heap [] := va_S.rf
  obtain ⟨⟨hx, hb, hml, hown, hts⟩, hr, hlk⟩ := id X
  have hl : lv_has ls 3 [(0, .ref (a 0)), (1, .int p1), (2, .int p2)] := hl
  unfold f_X5_begin at h
  refine lv_aload_n hx hb dX5_begin_0 rfl (lv_at hl 0 rfl) ?_
  refine pwG_0_1 X hK hP mF_X5_19 dX5_begin_1 ?_
  refine lv_iload_n hx hb dX5_begin_4 rfl (lv_at hl 1 rfl) ?_
  obtain ⟨x1, e1, h⟩ := letv_elim h
  refine pwP_12_2 X hK hP hD hS mF_X5_175 e1 dX5_begin_5 (fun H locs hP hD hS => ?_)
  refine lv_aload_n hx hb dX5_begin_8 rfl (lv_at hl 0 rfl) ?_
  refine pwG_0_1 X hK hP mF_X5_19 dX5_begin_9 ?_
  refine lv_iload_n hx hb dX5_begin_12 rfl (lv_at hl 2 rfl) ?_
  obtain ⟨x2, e1, h⟩ := letv_elim h
  refine pwP_12_4 X hK hP hD hS mF_X5_187 e1 dX5_begin_13 (fun H locs hP hD hS => ?_)
  refine lv_aload_n hx hb dX5_begin_16 rfl (lv_at hl 0 rfl) ?_
  refine pwG_0_1 X hK hP mF_X5_19 dX5_begin_17 ?_
  refine lv_iconst (v := 0) hx hb dX5_begin_20 (by decide) ?_
  obtain ⟨x3, e1, h⟩ := letv_elim h
  refine pwP_12_3 X hK hP hD hS mF_X5_184 e1 dX5_begin_21 (fun H locs hP hD hS => ?_)
  refine lv_aload_n hx hb dX5_begin_24 rfl (lv_at hl 0 rfl) ?_
  refine pwG_0_1 X hK hP mF_X5_19 dX5_begin_25 ?_
  refine lv_aload_n hx hb dX5_begin_28 rfl (lv_at hl 0 rfl) ?_
  refine pwG_0_1 X hK hP mF_X5_19 dX5_begin_29 ?_
  refine pwG_12_1 X hK hP mF_X5_159 dX5_begin_32 ?_
  obtain ⟨x4, e1, h⟩ := letv_elim h
  refine pwP_12_5 X hK hP hD hS mF_X5_238 e1 dX5_begin_35 (fun H locs hP hD hS => ?_)
  refine lv_aload_n hx hb dX5_begin_38 rfl (lv_at hl 0 rfl) ?_
  obtain ⟨r5, x6, hr0, h⟩ := bn2_elim h
  refine mp_call1 (As := []) (rest := []) X (c_X5_meetMood l D y a hr0) (mp_cw (k := 0) hts mM_X5_99 mI_X5_meetMood mS_X5_meetMood mN_X5 mC_X5_meetMood rfl rfl (by decide +kernel) ⟨Nat.le_of_ble_eq_true rfl, Nat.le_of_ble_eq_true rfl⟩) hK hP hD hS hA 0 pwC_0 rfl rfl hl.1 rfl (Nat.le_of_ble_eq_true rfl) dX5_begin_39 ⟨Nat.zero_le _, Nat.zero_le _⟩ (fun H locs hP hD hS => ?_)
  refine lv_pop hx hb dX5_begin_42 rfl ?_
  cases h
  exact mpr_v X hK hP hD hS dX5_begin_43
def f_X5_play (x : PD) (p1 : Int32) : Option (Int32 × PD) :=
  bn1 (f_X5_checkPiece x p1) fun _u =>
  bn1 (f_X2_canPlay x p1) fun r1 =>
  if r1 = 0 then
  some ((0 : Int32), x)
  else
  bn1 (f_X0_add x ((0 : Int32)) p1) fun x2 =>
  bn1 (f_X5_begin x2 p1 ((1 : Int32))) fun x3 =>
  bn1 (f_X1_findWay x3) fun x4 =>
  some ((1 : Int32), x4)
set_option maxHeartbeats 4000000 in
set_option maxRecDepth 100000 in
theorem c_X5_play (l : Launch) (D : va_G) (y : CY) (a : Nat → Nat) {x : PD} {x' : PD} {r : Int32} {p1 : Int32} (h : f_X5_play x p1 = some (r, x')) : mpM l D y yX5_play cX5_play 2 (some .boolean) { frames := 4, cells := 0, slots := 0, locals := 101 } (pw y a x) (pw y a x') [.ref (a 0), .int p1] (some (.int r)) := by
  refine mpM.mk (own := RX5) (by decide) rfl (Nat.le_of_ble_eq_true rfl) ?_
  intro p e s m below meth c A ls X hK hA hP hD hl
  have hS : va_S A s.heap s.heap [] := va_S.rf
  obtain ⟨⟨hx, hb, hml, hown, hts⟩, hr, hlk⟩ := id X
  have hl : lv_has ls 2 [(0, .ref (a 0)), (1, .int p1)] := hl
  unfold f_X5_play at h
  refine lv_aload_n hx hb dX5_play_0 rfl (lv_at hl 0 rfl) ?_
  refine lv_iload_n hx hb dX5_play_1 rfl (lv_at hl 1 rfl) ?_
  obtain ⟨u0, hr0, h⟩ := bn1_elim h
  refine mp_callv (As := [.int p1]) (rest := []) X (c_X5_checkPiece l D y a hr0) (mp_cw (k := 1) hts mM_X5_59 mI_X5_checkPiece mS_X5_checkPiece mN_X5 mC_X5_checkPiece rfl rfl (by decide +kernel) ⟨Nat.le_of_ble_eq_true rfl, Nat.le_of_ble_eq_true rfl⟩) hK hP hD hS hA 0 pwC_0 rfl rfl hl.1 rfl (Nat.le_of_ble_eq_true rfl) dX5_play_2 ⟨Nat.zero_le _, Nat.zero_le _⟩ (fun H locs hP hD hS => ?_)
  refine lv_aload_n hx hb dX5_play_5 rfl (lv_at hl 0 rfl) ?_
  refine pwG_0_0 X hK hP mF_X5_12 dX5_play_6 ?_
  refine lv_iload_n hx hb dX5_play_9 rfl (lv_at hl 1 rfl) ?_
  obtain ⟨r1, hr0, h⟩ := bn1_elim h
  refine mp_call1 (As := [.int p1]) (rest := []) X (c_X2_canPlay l D y a hr0) (mp_cw (k := 1) hts mM_X5_78 mI_X2_canPlay mS_X2_canPlay mN_X2 mC_X2_canPlay rfl rfl (by decide +kernel) ⟨Nat.le_of_ble_eq_true rfl, Nat.le_of_ble_eq_true rfl⟩) hK hP hD hS hA 1 pwC_1 rfl rfl hl.1 rfl (Nat.le_of_ble_eq_true rfl) dX5_play_10 ⟨Nat.zero_le _, Nat.zero_le _⟩ (fun H locs hP hD hS => ?_)
  refine lv_if_ne (tgt := 18) hx hb dX5_play_13 (by decide) (fun hc => ?_) (fun hc => ?_)
  · replace h := iff_ hc h
    refine lv_aload_n hx hb dX5_play_18 rfl (lv_at hl 0 rfl) ?_
    refine pwG_0_3 X hK hP mF_X5_32 dX5_play_19 ?_
    refine lv_iconst (v := 0) hx hb dX5_play_22 (by decide) ?_
    refine lv_iload_n hx hb dX5_play_23 rfl (lv_at hl 1 rfl) ?_
    obtain ⟨x2, hr0, h⟩ := bn1_elim h
    refine mp_callv (As := [.int ((0 : Int32)), .int p1]) (rest := []) X (c_X0_add l D y a hr0) (mp_cw (k := 2) hts mM_X5_82 mI_X0_add mS_X0_add mN_X0 mC_X0_add rfl rfl (by decide +kernel) ⟨Nat.le_of_ble_eq_true rfl, Nat.le_of_ble_eq_true rfl⟩) hK hP hD hS hA 33 pwC_33 rfl rfl hl.1 rfl (Nat.le_of_ble_eq_true rfl) dX5_play_24 ⟨Nat.zero_le _, Nat.zero_le _⟩ (fun H locs hP hD hS => ?_)
    refine lv_aload_n hx hb dX5_play_27 rfl (lv_at hl 0 rfl) ?_
    refine lv_iload_n hx hb dX5_play_28 rfl (lv_at hl 1 rfl) ?_
    refine lv_iconst (v := 1) hx hb dX5_play_29 (by decide) ?_
    obtain ⟨x3, hr0, h⟩ := bn1_elim h
    refine mp_callv (As := [.int p1, .int ((1 : Int32))]) (rest := []) X (c_X5_begin l D y a hr0) (mp_cw (k := 2) hts mM_X5_86 mI_X5_begin mS_X5_begin mN_X5 mC_X5_begin rfl rfl (by decide +kernel) ⟨Nat.le_of_ble_eq_true rfl, Nat.le_of_ble_eq_true rfl⟩) hK hP hD hS hA 0 pwC_0 rfl rfl hl.1 rfl (Nat.le_of_ble_eq_true rfl) dX5_play_30 ⟨Nat.zero_le _, Nat.zero_le _⟩ (fun H locs hP hD hS => ?_)
    refine lv_aload_n hx hb dX5_play_33 rfl (lv_at hl 0 rfl) ?_
    refine pwG_0_5 X hK hP mF_X5_48 dX5_play_34 ?_
    obtain ⟨x4, hr0, h⟩ := bn1_elim h
    refine mp_callv (As := []) (rest := []) X (c_X1_findWay l D y a hr0) (mp_cw (k := 0) hts mM_X5_89 mI_X1_findWay mS_X1_findWay mN_X1 mC_X1_findWay rfl rfl (by decide +kernel) ⟨Nat.le_of_ble_eq_true rfl, Nat.le_of_ble_eq_true rfl⟩) hK hP hD hS hA 40 pwC_40 rfl rfl hl.1 rfl (Nat.le_of_ble_eq_true rfl) dX5_play_37 ⟨Nat.zero_le _, Nat.zero_le _⟩ (fun H locs hP hD hS => ?_)
    refine lv_iconst (v := 1) hx hb dX5_play_40 (by decide) ?_
    cases h
    exact mpr_z X hK hP hD hS rfl rfl dX5_play_41
  · replace h := ift hc h
    refine lv_iconst (v := 0) hx hb dX5_play_16 (by decide) ?_
    cases h
    exact mpr_z X hK hP hD hS rfl rfl dX5_play_17
def f_X5_checkMood (x : PD) (p1 : Int32) : Option (Unit) :=
  if p1 < 0 then
  (none)
  else
  if p1 < ((8 : Int32)) then
  (some ())
  else
  none
set_option maxHeartbeats 4000000 in
set_option maxRecDepth 100000 in
theorem c_X5_checkMood (l : Launch) (D : va_G) (y : CY) (a : Nat → Nat) {x : PD} {u' : Unit} {p1 : Int32} (h : f_X5_checkMood x p1 = some u') : mpM l D y yX5_checkMood cX5_checkMood 2 none { frames := 0, cells := 0, slots := 0, locals := 0 } (pw y a x) (pw y a x) [.ref (a 0), .int p1] none := by
  refine mpM.mk (own := RX5) (by decide) rfl (Nat.le_of_ble_eq_true rfl) ?_
  intro p e s m below meth c A ls X hK hA hP hD hl
  have hS : va_S A s.heap s.heap [] := va_S.rf
  obtain ⟨⟨hx, hb, hml, hown, hts⟩, hr, hlk⟩ := id X
  have hl : lv_has ls 2 [(0, .ref (a 0)), (1, .int p1)] := hl
  unfold f_X5_checkMood at h
  refine lv_iload_n hx hb dX5_checkMood_0 rfl (lv_at hl 1 rfl) ?_
  refine lv_if_lt (tgt := 10) hx hb dX5_checkMood_1 (by decide) (fun hc => ?_) (fun hc => ?_)
  · replace h := ift hc h
    exact nons h
  · replace h := iff_ hc h
    refine lv_iload_n hx hb dX5_checkMood_4 rfl (lv_at hl 1 rfl) ?_
    refine lv_bipush (v := 8) hx hb dX5_checkMood_5 (by decide) ?_
    refine lv_icmp_lt (tgt := 20) hx hb dX5_checkMood_7 (by decide) (fun hc => ?_) (fun hc => ?_)
    · replace h := ift hc h
      exact mpr_v X hK hP hD hS dX5_checkMood_20
    · replace h := iff_ hc h
      exact nons h
def f_X1_left (x : PD) : Option (Int32) :=
  some ((rI x 1285) - (rI x 1286))
set_option maxHeartbeats 4000000 in
set_option maxRecDepth 100000 in
theorem c_X1_left (l : Launch) (D : va_G) (y : CY) (a : Nat → Nat) {x : PD} {r : Int32} (h : f_X1_left x = some r) : mpM l D y yX1_left cX1_left 1 (some .int) { frames := 0, cells := 0, slots := 0, locals := 0 } (pw y a x) (pw y a x) [.ref (a 40)] (some (.int r)) := by
  refine mpM.mk (own := RX1) (by decide) rfl (Nat.le_of_ble_eq_true rfl) ?_
  intro p e s m below meth c A ls X hK hA hP hD hl
  have hS : va_S A s.heap s.heap [] := va_S.rf
  obtain ⟨⟨hx, hb, hml, hown, hts⟩, hr, hlk⟩ := id X
  have hl : lv_has ls 1 [(0, .ref (a 40))] := hl
  unfold f_X1_left at h
  refine lv_aload_n hx hb dX1_left_0 rfl (lv_at hl 0 rfl) ?_
  refine pwG_40_5 X hK hP mF_X1_34 dX1_left_1 ?_
  refine lv_aload_n hx hb dX1_left_4 rfl (lv_at hl 0 rfl) ?_
  refine pwG_40_6 X hK hP mF_X1_37 dX1_left_5 ?_
  refine lv_isub hx hb dX1_left_8 ?_
  cases h
  exact mpr_i X hK hP hD hS rfl dX1_left_9
def f_X5_stepsLeft (x : PD) : Option (Int32) :=
  bn1 (f_X1_left x) fun r1 =>
  if r1 = 0 then
  some ((-1 : Int32))
  else
  some r1
set_option maxHeartbeats 4000000 in
set_option maxRecDepth 100000 in
theorem c_X5_stepsLeft (l : Launch) (D : va_G) (y : CY) (a : Nat → Nat) {x : PD} {r : Int32} (h : f_X5_stepsLeft x = some r) : mpM l D y yX5_stepsLeft cX5_stepsLeft 2 (some .int) { frames := 1, cells := 0, slots := 0, locals := 20 } (pw y a x) (pw y a x) [.ref (a 0)] (some (.int r)) := by
  refine mpM.mk (own := RX5) (by decide) rfl (Nat.le_of_ble_eq_true rfl) ?_
  intro p e s m below meth c A ls X hK hA hP hD hl
  have hS : va_S A s.heap s.heap [] := va_S.rf
  obtain ⟨⟨hx, hb, hml, hown, hts⟩, hr, hlk⟩ := id X
  have hl : lv_has ls 2 [(0, .ref (a 0))] := hl
  unfold f_X5_stepsLeft at h
  refine lv_aload_n hx hb dX5_stepsLeft_0 rfl (lv_at hl 0 rfl) ?_
  refine pwG_0_5 X hK hP mF_X5_48 dX5_stepsLeft_1 ?_
  obtain ⟨r1, hr0, h⟩ := bn1_elim h
  refine mp_call1 (As := []) (rest := []) X (c_X1_left l D y a hr0) (mp_cw (k := 0) hts mM_X5_110 mI_X1_left mS_X1_left mN_X1 mC_X1_left rfl rfl (by decide +kernel) ⟨Nat.le_of_ble_eq_true rfl, Nat.le_of_ble_eq_true rfl⟩) hK hP hD hS hA 40 pwC_40 rfl rfl hl.1 rfl (Nat.le_of_ble_eq_true rfl) dX5_stepsLeft_4 ⟨Nat.zero_le _, Nat.zero_le _⟩ (fun H locs hP hD hS => ?_)
  refine lv_istore_n (lv' := [(1, .int r1), (0, .ref (a 0))]) hx hb dX5_stepsLeft_7 rfl hl (by decide) rfl (fun ls hl => ?_)
  refine lv_iload_n hx hb dX5_stepsLeft_8 rfl (lv_at hl 0 rfl) ?_
  refine lv_if_ne (tgt := 16) hx hb dX5_stepsLeft_9 (by decide) (fun hc => ?_) (fun hc => ?_)
  · replace h := iff_ hc h
    refine lv_iload_n hx hb dX5_stepsLeft_16 rfl (lv_at hl 0 rfl) ?_
    cases h
    exact mpr_i X hK hP hD hS rfl dX5_stepsLeft_17
  · replace h := ift hc h
    refine lv_iconst (v := -1) hx hb dX5_stepsLeft_12 (by decide) ?_
    refine lv_goto (tgt := 17) hx hb dX5_stepsLeft_13 (by decide) ?_
    cases h
    exact mpr_i X hK hP hD hS rfl dX5_stepsLeft_17
def f_X5_ask (x : PD) (p1 : Int32) : Option (Int32 × PD) :=
  bn1 (f_X5_checkMood x p1) fun _u =>
  letv (wI x 390 p1) fun x1 =>
  bn2 (f_X5_meetMood x1) fun r2 x3 =>
  if r2 = 0 then
  (bn1 (f_X1_findWay x3) fun x4 =>
  bn1 (f_X5_stepsLeft x4) fun r5 =>
  some (r5, x4))
  else
  some ((0 : Int32), x3)
set_option maxHeartbeats 4000000 in
set_option maxRecDepth 100000 in
theorem c_X5_ask (l : Launch) (D : va_G) (y : CY) (a : Nat → Nat) {x : PD} {x' : PD} {r : Int32} {p1 : Int32} (h : f_X5_ask x p1 = some (r, x')) : mpM l D y yX5_ask cX5_ask 2 (some .int) { frames := 4, cells := 0, slots := 0, locals := 101 } (pw y a x) (pw y a x') [.ref (a 0), .int p1] (some (.int r)) := by
  refine mpM.mk (own := RX5) (by decide) rfl (Nat.le_of_ble_eq_true rfl) ?_
  intro p e s m below meth c A ls X hK hA hP hD hl
  have hS : va_S A s.heap s.heap [] := va_S.rf
  obtain ⟨⟨hx, hb, hml, hown, hts⟩, hr, hlk⟩ := id X
  have hl : lv_has ls 2 [(0, .ref (a 0)), (1, .int p1)] := hl
  unfold f_X5_ask at h
  refine lv_aload_n hx hb dX5_ask_0 rfl (lv_at hl 0 rfl) ?_
  refine lv_iload_n hx hb dX5_ask_1 rfl (lv_at hl 1 rfl) ?_
  obtain ⟨u0, hr0, h⟩ := bn1_elim h
  refine mp_callv (As := [.int p1]) (rest := []) X (c_X5_checkMood l D y a hr0) (mp_cw (k := 1) hts mM_X5_92 mI_X5_checkMood mS_X5_checkMood mN_X5 mC_X5_checkMood rfl rfl (by decide +kernel) ⟨Nat.le_of_ble_eq_true rfl, Nat.le_of_ble_eq_true rfl⟩) hK hP hD hS hA 0 pwC_0 rfl rfl hl.1 rfl (Nat.le_of_ble_eq_true rfl) dX5_ask_2 ⟨Nat.zero_le _, Nat.zero_le _⟩ (fun H locs hP hD hS => ?_)
  refine lv_aload_n hx hb dX5_ask_5 rfl (lv_at hl 0 rfl) ?_
  refine pwG_0_1 X hK hP mF_X5_19 dX5_ask_6 ?_
  refine lv_iload_n hx hb dX5_ask_9 rfl (lv_at hl 1 rfl) ?_
  obtain ⟨x1, e1, h⟩ := letv_elim h
  refine pwP_12_6 X hK hP hD hS mF_X5_95 e1 dX5_ask_10 (fun H locs hP hD hS => ?_)
  refine lv_aload_n hx hb dX5_ask_13 rfl (lv_at hl 0 rfl) ?_
  obtain ⟨r2, x3, hr0, h⟩ := bn2_elim h
  refine mp_call1 (As := []) (rest := []) X (c_X5_meetMood l D y a hr0) (mp_cw (k := 0) hts mM_X5_99 mI_X5_meetMood mS_X5_meetMood mN_X5 mC_X5_meetMood rfl rfl (by decide +kernel) ⟨Nat.le_of_ble_eq_true rfl, Nat.le_of_ble_eq_true rfl⟩) hK hP hD hS hA 0 pwC_0 rfl rfl hl.1 rfl (Nat.le_of_ble_eq_true rfl) dX5_ask_14 ⟨Nat.zero_le _, Nat.zero_le _⟩ (fun H locs hP hD hS => ?_)
  refine lv_if_eq (tgt := 22) hx hb dX5_ask_17 (by decide) (fun hc => ?_) (fun hc => ?_)
  · replace h := ift hc h
    refine lv_aload_n hx hb dX5_ask_22 rfl (lv_at hl 0 rfl) ?_
    refine pwG_0_5 X hK hP mF_X5_48 dX5_ask_23 ?_
    obtain ⟨x4, hr0, h⟩ := bn1_elim h
    refine mp_callv (As := []) (rest := []) X (c_X1_findWay l D y a hr0) (mp_cw (k := 0) hts mM_X5_89 mI_X1_findWay mS_X1_findWay mN_X1 mC_X1_findWay rfl rfl (by decide +kernel) ⟨Nat.le_of_ble_eq_true rfl, Nat.le_of_ble_eq_true rfl⟩) hK hP hD hS hA 40 pwC_40 rfl rfl hl.1 rfl (Nat.le_of_ble_eq_true rfl) dX5_ask_26 ⟨Nat.zero_le _, Nat.zero_le _⟩ (fun H locs hP hD hS => ?_)
    refine lv_aload_n hx hb dX5_ask_29 rfl (lv_at hl 0 rfl) ?_
    obtain ⟨r5, hr0, h⟩ := bn1_elim h
    refine mp_call1 (As := []) (rest := []) X (c_X5_stepsLeft l D y a hr0) (mp_cw (k := 0) hts mM_X5_103 mI_X5_stepsLeft mS_X5_stepsLeft mN_X5 mC_X5_stepsLeft rfl rfl (by decide +kernel) ⟨Nat.le_of_ble_eq_true rfl, Nat.le_of_ble_eq_true rfl⟩) hK hP hD hS hA 0 pwC_0 rfl rfl hl.1 rfl (Nat.le_of_ble_eq_true rfl) dX5_ask_30 ⟨Nat.zero_le _, Nat.zero_le _⟩ (fun H locs hP hD hS => ?_)
    cases h
    exact mpr_i X hK hP hD hS rfl dX5_ask_33
  · replace h := iff_ hc h
    refine lv_iconst (v := 0) hx hb dX5_ask_20 (by decide) ?_
    cases h
    exact mpr_i X hK hP hD hS rfl dX5_ask_21
def f_X5_leave (x : PD) : Option (Int32 × PD) :=
  letv (wI x 390 ((-1 : Int32))) fun x1 =>
  bn1 (f_X1_forget x1) fun x2 =>
  some (rI x 390, x2)
set_option maxHeartbeats 4000000 in
set_option maxRecDepth 100000 in
theorem c_X5_leave (l : Launch) (D : va_G) (y : CY) (a : Nat → Nat) {x : PD} {x' : PD} {r : Int32} (h : f_X5_leave x = some (r, x')) : mpM l D y yX5_leave cX5_leave 2 (some .int) { frames := 1, cells := 0, slots := 0, locals := 20 } (pw y a x) (pw y a x') [.ref (a 0)] (some (.int r)) := by
  refine mpM.mk (own := RX5) (by decide) rfl (Nat.le_of_ble_eq_true rfl) ?_
  intro p e s m below meth c A ls X hK hA hP hD hl
  have hS : va_S A s.heap s.heap [] := va_S.rf
  obtain ⟨⟨hx, hb, hml, hown, hts⟩, hr, hlk⟩ := id X
  have hl : lv_has ls 2 [(0, .ref (a 0))] := hl
  unfold f_X5_leave at h
  refine lv_aload_n hx hb dX5_leave_0 rfl (lv_at hl 0 rfl) ?_
  refine pwG_0_1 X hK hP mF_X5_19 dX5_leave_1 ?_
  refine pwG_12_6 X hK hP mF_X5_95 dX5_leave_4 ?_
  refine lv_istore_n (lv' := [(1, .int (rI x 390)), (0, .ref (a 0))]) hx hb dX5_leave_7 rfl hl (by decide) rfl (fun ls hl => ?_)
  refine lv_aload_n hx hb dX5_leave_8 rfl (lv_at hl 1 rfl) ?_
  refine pwG_0_1 X hK hP mF_X5_19 dX5_leave_9 ?_
  refine lv_iconst (v := -1) hx hb dX5_leave_12 (by decide) ?_
  obtain ⟨x1, e1, h⟩ := letv_elim h
  refine pwP_12_6 X hK hP hD hS mF_X5_95 e1 dX5_leave_13 (fun H locs hP hD hS => ?_)
  refine lv_aload_n hx hb dX5_leave_16 rfl (lv_at hl 1 rfl) ?_
  refine pwG_0_5 X hK hP mF_X5_48 dX5_leave_17 ?_
  obtain ⟨x2, hr0, h⟩ := bn1_elim h
  refine mp_callv (As := []) (rest := []) X (c_X1_forget l D y a hr0) (mp_cw (k := 0) hts mM_X5_107 mI_X1_forget mS_X1_forget mN_X1 mC_X1_forget rfl rfl (by decide +kernel) ⟨Nat.le_of_ble_eq_true rfl, Nat.le_of_ble_eq_true rfl⟩) hK hP hD hS hA 40 pwC_40 rfl rfl hl.1 rfl (Nat.le_of_ble_eq_true rfl) dX5_leave_20 ⟨Nat.zero_le _, Nat.zero_le _⟩ (fun H locs hP hD hS => ?_)
  refine lv_iload_n hx hb dX5_leave_23 rfl (lv_at hl 0 rfl) ?_
  cases h
  exact mpr_i X hK hP hD hS rfl dX5_leave_24
def f_X1_stepAt (x : PD) (p1 : Int32) : Option (Int32) :=
  if ((rI x 1286) + p1) < 0 then
  (some ((-1 : Int32)))
  else
  if (rI x 1285) ≤ ((rI x 1286) + p1) then
  (some ((-1 : Int32)))
  else
  gd (inR ((rI x 1286) + p1) 20) (some (rA x 44 (Int32.toNatClampNeg ((rI x 1286) + p1))))
set_option maxHeartbeats 4000000 in
set_option maxRecDepth 100000 in
theorem c_X1_stepAt (l : Launch) (D : va_G) (y : CY) (a : Nat → Nat) {x : PD} {r : Int32} {p1 : Int32} (h : f_X1_stepAt x p1 = some r) : mpM l D y yX1_stepAt cX1_stepAt 3 (some .int) { frames := 0, cells := 0, slots := 0, locals := 0 } (pw y a x) (pw y a x) [.ref (a 40), .int p1] (some (.int r)) := by
  refine mpM.mk (own := RX1) (by decide) rfl (Nat.le_of_ble_eq_true rfl) ?_
  intro p e s m below meth c A ls X hK hA hP hD hl
  have hS : va_S A s.heap s.heap [] := va_S.rf
  obtain ⟨⟨hx, hb, hml, hown, hts⟩, hr, hlk⟩ := id X
  have hl : lv_has ls 3 [(0, .ref (a 40)), (1, .int p1)] := hl
  unfold f_X1_stepAt at h
  refine lv_aload_n hx hb dX1_stepAt_0 rfl (lv_at hl 0 rfl) ?_
  refine pwG_40_6 X hK hP mF_X1_37 dX1_stepAt_1 ?_
  refine lv_iload_n hx hb dX1_stepAt_4 rfl (lv_at hl 1 rfl) ?_
  refine lv_iadd hx hb dX1_stepAt_5 ?_
  refine lv_istore_n (lv' := [(2, .int ((rI x 1286) + p1)), (0, .ref (a 40)), (1, .int p1)]) hx hb dX1_stepAt_6 rfl hl (by decide) rfl (fun ls hl => ?_)
  refine lv_iload_n hx hb dX1_stepAt_7 rfl (lv_at hl 0 rfl) ?_
  refine lv_if_lt (tgt := 28) hx hb dX1_stepAt_8 (by decide) (fun hc => ?_) (fun hc => ?_)
  · replace h := ift hc h
    refine lv_iconst (v := -1) hx hb dX1_stepAt_28 (by decide) ?_
    cases h
    exact mpr_i X hK hP hD hS rfl dX1_stepAt_29
  · replace h := iff_ hc h
    refine lv_iload_n hx hb dX1_stepAt_11 rfl (lv_at hl 0 rfl) ?_
    refine lv_aload_n hx hb dX1_stepAt_12 rfl (lv_at hl 1 rfl) ?_
    refine pwG_40_5 X hK hP mF_X1_34 dX1_stepAt_13 ?_
    refine lv_icmp_ge (tgt := 28) hx hb dX1_stepAt_16 (by decide) (fun hc => ?_) (fun hc => ?_)
    · replace h := ift hc h
      refine lv_iconst (v := -1) hx hb dX1_stepAt_28 (by decide) ?_
      cases h
      exact mpr_i X hK hP hD hS rfl dX1_stepAt_29
    · replace h := iff_ hc h
      refine lv_aload_n hx hb dX1_stepAt_19 rfl (lv_at hl 1 rfl) ?_
      refine pwG_40_4 X hK hP mF_X1_22 dX1_stepAt_20 ?_
      refine lv_iload_n hx hb dX1_stepAt_23 rfl (lv_at hl 0 rfl) ?_
      obtain ⟨hg, h⟩ := gd_elim h
      refine pwL_44 X hK hP hg dX1_stepAt_24 ?_
      refine lv_goto (tgt := 29) hx hb dX1_stepAt_25 (by decide) ?_
      cases h
      exact mpr_i X hK hP hD hS rfl dX1_stepAt_29
def f_X5_way (x : PD) (p1 : Int32) : Option (Int32) :=
  if p1 = ((-1 : Int32)) then
  bn1 (f_X5_stepsLeft x) fun r3 =>
  some r3
  else
  if p1 < 0 then
  (none)
  else
  bn1 (f_X1_left x) fun r1 =>
  if p1 < r1 then
  (bn1 (f_X1_stepAt x p1) fun r2 =>
  some r2)
  else
  none
set_option maxHeartbeats 4000000 in
set_option maxRecDepth 100000 in
theorem c_X5_way (l : Launch) (D : va_G) (y : CY) (a : Nat → Nat) {x : PD} {r : Int32} {p1 : Int32} (h : f_X5_way x p1 = some r) : mpM l D y yX5_way cX5_way 2 (some .int) { frames := 2, cells := 0, slots := 0, locals := 41 } (pw y a x) (pw y a x) [.ref (a 0), .int p1] (some (.int r)) := by
  refine mpM.mk (own := RX5) (by decide) rfl (Nat.le_of_ble_eq_true rfl) ?_
  intro p e s m below meth c A ls X hK hA hP hD hl
  have hS : va_S A s.heap s.heap [] := va_S.rf
  obtain ⟨⟨hx, hb, hml, hown, hts⟩, hr, hlk⟩ := id X
  have hl : lv_has ls 2 [(0, .ref (a 0)), (1, .int p1)] := hl
  unfold f_X5_way at h
  refine lv_iload_n hx hb dX5_way_0 rfl (lv_at hl 1 rfl) ?_
  refine lv_iconst (v := -1) hx hb dX5_way_1 (by decide) ?_
  refine lv_icmp_ne (tgt := 10) hx hb dX5_way_2 (by decide) (fun hc => ?_) (fun hc => ?_)
  · replace h := iff_ hc h
    refine lv_iload_n hx hb dX5_way_10 rfl (lv_at hl 1 rfl) ?_
    refine lv_if_lt (tgt := 25) hx hb dX5_way_11 (by decide) (fun hc => ?_) (fun hc => ?_)
    · replace h := ift hc h
      exact nons h
    · replace h := iff_ hc h
      refine lv_iload_n hx hb dX5_way_14 rfl (lv_at hl 1 rfl) ?_
      refine lv_aload_n hx hb dX5_way_15 rfl (lv_at hl 0 rfl) ?_
      refine pwG_0_5 X hK hP mF_X5_48 dX5_way_16 ?_
      obtain ⟨r1, hr0, h⟩ := bn1_elim h
      refine mp_call1 (As := []) (rest := [.int p1]) X (c_X1_left l D y a hr0) (mp_cw (k := 0) hts mM_X5_110 mI_X1_left mS_X1_left mN_X1 mC_X1_left rfl rfl (by decide +kernel) ⟨Nat.le_of_ble_eq_true rfl, Nat.le_of_ble_eq_true rfl⟩) hK hP hD hS hA 40 pwC_40 rfl rfl hl.1 rfl (Nat.le_of_ble_eq_true rfl) dX5_way_19 ⟨Nat.zero_le _, Nat.zero_le _⟩ (fun H locs hP hD hS => ?_)
      refine lv_icmp_lt (tgt := 35) hx hb dX5_way_22 (by decide) (fun hc => ?_) (fun hc => ?_)
      · replace h := ift hc h
        refine lv_aload_n hx hb dX5_way_35 rfl (lv_at hl 0 rfl) ?_
        refine pwG_0_5 X hK hP mF_X5_48 dX5_way_36 ?_
        refine lv_iload_n hx hb dX5_way_39 rfl (lv_at hl 1 rfl) ?_
        obtain ⟨r2, hr0, h⟩ := bn1_elim h
        refine mp_call1 (As := [.int p1]) (rest := []) X (c_X1_stepAt l D y a hr0) (mp_cw (k := 1) hts mM_X5_118 mI_X1_stepAt mS_X1_stepAt mN_X1 mC_X1_stepAt rfl rfl (by decide +kernel) ⟨Nat.le_of_ble_eq_true rfl, Nat.le_of_ble_eq_true rfl⟩) hK hP hD hS hA 40 pwC_40 rfl rfl hl.1 rfl (Nat.le_of_ble_eq_true rfl) dX5_way_40 ⟨Nat.zero_le _, Nat.zero_le _⟩ (fun H locs hP hD hS => ?_)
        cases h
        exact mpr_i X hK hP hD hS rfl dX5_way_43
      · replace h := iff_ hc h
        exact nons h
  · replace h := ift hc h
    refine lv_aload_n hx hb dX5_way_5 rfl (lv_at hl 0 rfl) ?_
    obtain ⟨r3, hr0, h⟩ := bn1_elim h
    refine mp_call1 (As := []) (rest := []) X (c_X5_stepsLeft l D y a hr0) (mp_cw (k := 0) hts mM_X5_103 mI_X5_stepsLeft mS_X5_stepsLeft mN_X5 mC_X5_stepsLeft rfl rfl (by decide +kernel) ⟨Nat.le_of_ble_eq_true rfl, Nat.le_of_ble_eq_true rfl⟩) hK hP hD hS hA 0 pwC_0 rfl rfl hl.1 rfl (Nat.le_of_ble_eq_true rfl) dX5_way_6 ⟨Nat.zero_le _, Nat.zero_le _⟩ (fun H locs hP hD hS => ?_)
    cases h
    exact mpr_i X hK hP hD hS rfl dX5_way_9
def f_X1_costLeft (x : PD) : Option (Int64) :=
  bn1 (f_X1_stepAt x ((0 : Int32))) fun r1 =>
  if r1 = ((-1 : Int32)) then
  some ((-1 : Int64))
  else
  bn1 (f_X1_costBy x r1) fun r2 =>
  some r2
set_option maxHeartbeats 4000000 in
set_option maxRecDepth 100000 in
theorem c_X1_costLeft (l : Launch) (D : va_G) (y : CY) (a : Nat → Nat) {x : PD} {r : Int64} (h : f_X1_costLeft x = some r) : mpM l D y yX1_costLeft cX1_costLeft 2 (some .long) { frames := 2, cells := 0, slots := 0, locals := 50 } (pw y a x) (pw y a x) [.ref (a 40)] (some (.long r)) := by
  refine mpM.mk (own := RX1) (by decide) rfl (Nat.le_of_ble_eq_true rfl) ?_
  intro p e s m below meth c A ls X hK hA hP hD hl
  have hS : va_S A s.heap s.heap [] := va_S.rf
  obtain ⟨⟨hx, hb, hml, hown, hts⟩, hr, hlk⟩ := id X
  have hl : lv_has ls 2 [(0, .ref (a 40))] := hl
  unfold f_X1_costLeft at h
  refine lv_aload_n hx hb dX1_costLeft_0 rfl (lv_at hl 0 rfl) ?_
  refine lv_iconst (v := 0) hx hb dX1_costLeft_1 (by decide) ?_
  obtain ⟨r1, hr0, h⟩ := bn1_elim h
  refine mp_call1 (As := [.int ((0 : Int32))]) (rest := []) X (c_X1_stepAt l D y a hr0) (mp_cw (k := 1) hts mM_X1_43 mI_X1_stepAt mS_X1_stepAt mN_X1 mC_X1_stepAt rfl rfl (by decide +kernel) ⟨Nat.le_of_ble_eq_true rfl, Nat.le_of_ble_eq_true rfl⟩) hK hP hD hS hA 40 pwC_40 rfl rfl hl.1 rfl (Nat.le_of_ble_eq_true rfl) dX1_costLeft_2 ⟨Nat.zero_le _, Nat.zero_le _⟩ (fun H locs hP hD hS => ?_)
  refine lv_istore_n (lv' := [(1, .int r1), (0, .ref (a 40))]) hx hb dX1_costLeft_5 rfl hl (by decide) rfl (fun ls hl => ?_)
  refine lv_iload_n hx hb dX1_costLeft_6 rfl (lv_at hl 0 rfl) ?_
  refine lv_iconst (v := -1) hx hb dX1_costLeft_7 (by decide) ?_
  refine lv_icmp_ne (tgt := 17) hx hb dX1_costLeft_8 (by decide) (fun hc => ?_) (fun hc => ?_)
  · replace h := iff_ hc h
    refine lv_aload_n hx hb dX1_costLeft_17 rfl (lv_at hl 1 rfl) ?_
    refine lv_iload_n hx hb dX1_costLeft_18 rfl (lv_at hl 0 rfl) ?_
    obtain ⟨r2, hr0, h⟩ := bn1_elim h
    refine mp_call1 (As := [.int r1]) (rest := []) X (c_X1_costBy l D y a hr0) (mp_cw (k := 1) hts mM_X1_49 mI_X1_costBy mS_X1_costBy mN_X1 mC_X1_costBy rfl rfl (by decide +kernel) ⟨Nat.le_of_ble_eq_true rfl, Nat.le_of_ble_eq_true rfl⟩) hK hP hD hS hA 40 pwC_40 rfl rfl hl.1 rfl (Nat.le_of_ble_eq_true rfl) dX1_costLeft_19 ⟨Nat.zero_le _, Nat.zero_le _⟩ (fun H locs hP hD hS => ?_)
    cases h
    exact mpr_l X hK hP hD hS rfl dX1_costLeft_22
  · replace h := ift hc h
    refine lv_ldc2 (v := (-1)) hx hb hown (hts _ mK_X1_47) dX1_costLeft_11 ?_
    refine lv_goto (tgt := 22) hx hb dX1_costLeft_14 (by decide) ?_
    cases h
    exact mpr_l X hK hP hD hS rfl dX1_costLeft_22
def f_X5_cost (x : PD) : Option (Int64) :=
  bn1 (f_X1_costLeft x) fun r1 =>
  some r1
set_option maxHeartbeats 4000000 in
set_option maxRecDepth 100000 in
theorem c_X5_cost (l : Launch) (D : va_G) (y : CY) (a : Nat → Nat) {x : PD} {r : Int64} (h : f_X5_cost x = some r) : mpM l D y yX5_cost cX5_cost 1 (some .long) { frames := 3, cells := 0, slots := 0, locals := 71 } (pw y a x) (pw y a x) [.ref (a 0)] (some (.long r)) := by
  refine mpM.mk (own := RX5) (by decide) rfl (Nat.le_of_ble_eq_true rfl) ?_
  intro p e s m below meth c A ls X hK hA hP hD hl
  have hS : va_S A s.heap s.heap [] := va_S.rf
  obtain ⟨⟨hx, hb, hml, hown, hts⟩, hr, hlk⟩ := id X
  have hl : lv_has ls 1 [(0, .ref (a 0))] := hl
  unfold f_X5_cost at h
  refine lv_aload_n hx hb dX5_cost_0 rfl (lv_at hl 0 rfl) ?_
  refine pwG_0_5 X hK hP mF_X5_48 dX5_cost_1 ?_
  obtain ⟨r1, hr0, h⟩ := bn1_elim h
  refine mp_call1 (As := []) (rest := []) X (c_X1_costLeft l D y a hr0) (mp_cw (k := 0) hts mM_X5_122 mI_X1_costLeft mS_X1_costLeft mN_X1 mC_X1_costLeft rfl rfl (by decide +kernel) ⟨Nat.le_of_ble_eq_true rfl, Nat.le_of_ble_eq_true rfl⟩) hK hP hD hS hA 40 pwC_40 rfl rfl hl.1 rfl (Nat.le_of_ble_eq_true rfl) dX5_cost_4 ⟨Nat.zero_le _, Nat.zero_le _⟩ (fun H locs hP hD hS => ?_)
  cases h
  exact mpr_l X hK hP hD hS rfl dX5_cost_7
def f_X5_checkPlayable (x : PD) (p1 : Int32) : Option (Unit) :=
  bn1 (f_X2_canPlay x p1) fun r1 =>
  if r1 = 0 then
  none
  else
  some ()
set_option maxHeartbeats 4000000 in
set_option maxRecDepth 100000 in
theorem c_X5_checkPlayable (l : Launch) (D : va_G) (y : CY) (a : Nat → Nat) {x : PD} {u' : Unit} {p1 : Int32} (h : f_X5_checkPlayable x p1 = some u') : mpM l D y yX5_checkPlayable cX5_checkPlayable 2 none { frames := 2, cells := 0, slots := 0, locals := 42 } (pw y a x) (pw y a x) [.ref (a 0), .int p1] none := by
  refine mpM.mk (own := RX5) (by decide) rfl (Nat.le_of_ble_eq_true rfl) ?_
  intro p e s m below meth c A ls X hK hA hP hD hl
  have hS : va_S A s.heap s.heap [] := va_S.rf
  obtain ⟨⟨hx, hb, hml, hown, hts⟩, hr, hlk⟩ := id X
  have hl : lv_has ls 2 [(0, .ref (a 0)), (1, .int p1)] := hl
  unfold f_X5_checkPlayable at h
  refine lv_aload_n hx hb dX5_checkPlayable_0 rfl (lv_at hl 0 rfl) ?_
  refine pwG_0_0 X hK hP mF_X5_12 dX5_checkPlayable_1 ?_
  refine lv_iload_n hx hb dX5_checkPlayable_4 rfl (lv_at hl 1 rfl) ?_
  obtain ⟨r1, hr0, h⟩ := bn1_elim h
  refine mp_call1 (As := [.int p1]) (rest := []) X (c_X2_canPlay l D y a hr0) (mp_cw (k := 1) hts mM_X5_78 mI_X2_canPlay mS_X2_canPlay mN_X2 mC_X2_canPlay rfl rfl (by decide +kernel) ⟨Nat.le_of_ble_eq_true rfl, Nat.le_of_ble_eq_true rfl⟩) hK hP hD hS hA 1 pwC_1 rfl rfl hl.1 rfl (Nat.le_of_ble_eq_true rfl) dX5_checkPlayable_5 ⟨Nat.zero_le _, Nat.zero_le _⟩ (fun H locs hP hD hS => ?_)
  refine lv_if_ne (tgt := 21) hx hb dX5_checkPlayable_8 (by decide) (fun hc => ?_) (fun hc => ?_)
  · replace h := iff_ hc h
    exact mpr_v X hK hP hD hS dX5_checkPlayable_21
  · replace h := ift hc h
    exact nons h
def f_X4_improve_37_1_b6 : Nat → PD → Int32 → Int32 → Int32 → Int32 → Option (Int32 × PD)
  | 0, _, _, _, _, _ => none
  | n + 1, x, v2, v3, v4, v5 =>
    if (rI x 42) ≤ v5 then
  (gd (isB v4) (some (v4, x)))
  else
  gd (inR v5 100) (gd (inR v5 100) (gd (inR (rA x 9 (Int32.toNatClampNeg v5)) 20) (gd (inR v5 100) (bn1 (f_X2_timeTo x v5) fun r1 =>
  gd (inR (rA x 9 (Int32.toNatClampNeg v5)) 20) (if (lg_cmp (rB x 38 (Int32.toNatClampNeg (rA x 9 (Int32.toNatClampNeg v5)))) ((-1 : Int64))) = 0 then
  (((f_X4_improve_37_1_b6 n) x v2 v3 v4 (v5 + 1)))
  else
  gd (inR (rA x 9 (Int32.toNatClampNeg v5)) 20) (gd (inR (rA x 7 (Int32.toNatClampNeg v5)) 20) (gd (inR (rA x 7 (Int32.toNatClampNeg v5)) 20) (bn1 (f_X4_isBetter x (((rB x 38 (Int32.toNatClampNeg (rA x 9 (Int32.toNatClampNeg v5)))) + (Int32.toInt64 (v2 * (rA x 10 (Int32.toNatClampNeg v5))))) + ((Int32.toInt64 v3) * r1)) ((rA x 39 (Int32.toNatClampNeg (rA x 9 (Int32.toNatClampNeg v5)))) + ((1 : Int32))) (rB x 38 (Int32.toNatClampNeg (rA x 7 (Int32.toNatClampNeg v5)))) (rA x 39 (Int32.toNatClampNeg (rA x 7 (Int32.toNatClampNeg v5))))) fun r2 =>
  if r2 = 0 then
  (((f_X4_improve_37_1_b6 n) x v2 v3 v4 (v5 + 1)))
  else
  gd (inR (rA x 7 (Int32.toNatClampNeg v5)) 20) (letv (wB x 38 (vp_updL (rB x 38) (Int32.toNatClampNeg (rA x 7 (Int32.toNatClampNeg v5))) (((rB x 38 (Int32.toNatClampNeg (rA x 9 (Int32.toNatClampNeg v5)))) + (Int32.toInt64 (v2 * (rA x 10 (Int32.toNatClampNeg v5))))) + ((Int32.toInt64 v3) * r1)))) fun x3 =>
  gd (inR (rA x 9 (Int32.toNatClampNeg v5)) 20) (gd (inR (rA x 7 (Int32.toNatClampNeg v5)) 20) (letv (wA x3 39 (upd (rA x3 39) (Int32.toNatClampNeg (rA x 7 (Int32.toNatClampNeg v5))) ((rA x3 39 (Int32.toNatClampNeg (rA x 9 (Int32.toNatClampNeg v5)))) + ((1 : Int32))))) fun x4 =>
  ((f_X4_improve_37_1_b6 n) x4 v2 v3 ((1 : Int32)) (v5 + 1)))))))))))))
set_option maxHeartbeats 4000000 in
set_option maxRecDepth 100000 in
theorem w_X4_improve_37_1_b6 {p : Program} {l : Launch} {e : Env} {s : State} {m : MethodId} {args : Array Value} {below : List Frame} {meth : Method} {c : Code} {D : va_G} {y : CY} {a : Nat → Nat} {A : Nat → Prop} {x' : PD} {r : Int32} (X : mpX p s m args meth c cX4_improve 10 (some .boolean) RX4) (hK : va_K D vwCl (mpT y) s) (hA : ∀ q, s.heap.size ≤ q → A q) : ∀ (n : Nat), ∀ (x : PD) (v2 : Int32) (v3 : Int32) (v4 : Int32) (v5 : Int32) (H : Heap) (locs : List Loc) (ls : Array Slot), va_P D vwCl (pw y a x) H → va_D A (pw y a x) → va_S A s.heap H locs → lv_has ls 10 [(0, .ref (a 37)), (1, .ref (a 1)), (2, .int v2), (3, .int v3), (4, .int v4), (5, .int v5)] → f_X4_improve_37_1_b6 n x v2 v3 v4 v5 = some (r, x') → W p l e { frames := 1, cells := 0, slots := 0, locals := 25 } s m args below meth c H locs 0 0 (MQ below (mpC D y A (pw y a x') (some (.int r))) args s 0 0 A) (F0 m 6 ls []) := by
  obtain ⟨⟨hx, hb, hml, hown, hts⟩, hr, hlk⟩ := id X
  intro n
  induction n with
  | zero =>
    intro x v2 v3 v4 v5 H locs ls hP hD hS hl h
    rw [f_X4_improve_37_1_b6] at h
    exact nons h
  | succ n ih =>
    intro x v2 v3 v4 v5 H locs ls hP hD hS hl h
    rw [f_X4_improve_37_1_b6] at h
    refine lv_iload hx hb dX4_improve_6 (lv_at hl 5 rfl) ?_
    refine lv_aload_n hx hb dX4_improve_8 rfl (lv_at hl 1 rfl) ?_
    refine pwG_1_10 X hK hP mF_X4_35 dX4_improve_9 ?_
    refine lv_icmp_ge (tgt := 142) hx hb dX4_improve_12 (by decide) (fun hc => ?_) (fun hc => ?_)
    · replace h := ift hc h
      refine lv_iload hx hb dX4_improve_142 (lv_at hl 4 rfl) ?_
      obtain ⟨hg, h⟩ := gd_elim h
      cases h
      exact mpr_z X hK hP hD hS (isB_nar hg) rfl dX4_improve_144
    · replace h := iff_ hc h
      refine lv_aload_n hx hb dX4_improve_15 rfl (lv_at hl 1 rfl) ?_
      refine pwG_1_6 X hK hP mF_X4_38 dX4_improve_16 ?_
      refine lv_iload hx hb dX4_improve_19 (lv_at hl 5 rfl) ?_
      obtain ⟨hg, h⟩ := gd_elim h
      refine pwL_7 X hK hP hg dX4_improve_21 ?_
      refine lv_istore (lv' := [(6, .int (rA x 7 (Int32.toNatClampNeg v5))), (0, .ref (a 37)), (1, .ref (a 1)), (2, .int v2), (3, .int v3), (4, .int v4), (5, .int v5)]) hx hb dX4_improve_22 hl (by decide) rfl (fun ls hl => ?_)
      refine lv_aload_n hx hb dX4_improve_24 rfl (lv_at hl 2 rfl) ?_
      refine pwG_1_8 X hK hP mF_X4_41 dX4_improve_25 ?_
      refine lv_iload hx hb dX4_improve_28 (lv_at hl 6 rfl) ?_
      obtain ⟨hg, h⟩ := gd_elim h
      refine pwL_9 X hK hP hg dX4_improve_30 ?_
      refine lv_istore (lv' := [(7, .int (rA x 9 (Int32.toNatClampNeg v5))), (6, .int (rA x 7 (Int32.toNatClampNeg v5))), (0, .ref (a 37)), (1, .ref (a 1)), (2, .int v2), (3, .int v3), (4, .int v4), (5, .int v5)]) hx hb dX4_improve_31 hl (by decide) rfl (fun ls hl => ?_)
      refine lv_aload_n hx hb dX4_improve_33 rfl (lv_at hl 2 rfl) ?_
      refine pwG_37_0 X hK hP mF_X4_9 dX4_improve_34 ?_
      refine lv_iload hx hb dX4_improve_37 (lv_at hl 0 rfl) ?_
      obtain ⟨hg, h⟩ := gd_elim h
      refine pwL_38 X hK hP hg dX4_improve_39 ?_
      refine lv_iload_n hx hb dX4_improve_40 rfl (lv_at hl 4 rfl) ?_
      refine lv_aload_n hx hb dX4_improve_41 rfl (lv_at hl 3 rfl) ?_
      refine pwG_1_9 X hK hP mF_X4_44 dX4_improve_42 ?_
      refine lv_iload hx hb dX4_improve_45 (lv_at hl 7 rfl) ?_
      obtain ⟨hg, h⟩ := gd_elim h
      refine pwL_10 X hK hP hg dX4_improve_47 ?_
      refine lv_imul hx hb dX4_improve_48 ?_
      refine lv_i2l (v := Int32.toInt64 (v2 * (rA x 10 (Int32.toNatClampNeg v5)))) hx hb dX4_improve_49 rfl ?_
      refine lv_ladd hx hb dX4_improve_50 ?_
      refine lv_iload_n hx hb dX4_improve_51 rfl (lv_at hl 5 rfl) ?_
      refine lv_i2l (v := Int32.toInt64 v3) hx hb dX4_improve_52 rfl ?_
      refine lv_aload_n hx hb dX4_improve_53 rfl (lv_at hl 3 rfl) ?_
      refine lv_iload hx hb dX4_improve_54 (lv_at hl 7 rfl) ?_
      obtain ⟨r1, hr0, h⟩ := bn1_elim h
      refine mp_call1 (As := [.int v5]) (rest := [.long (Int32.toInt64 v3), .long ((rB x 38 (Int32.toNatClampNeg (rA x 9 (Int32.toNatClampNeg v5)))) + (Int32.toInt64 (v2 * (rA x 10 (Int32.toNatClampNeg v5)))))]) X (c_X2_timeTo l D y a hr0) (mp_cw (k := 1) hts mM_X4_47 mI_X2_timeTo mS_X2_timeTo mN_X2 mC_X2_timeTo rfl rfl (by decide +kernel) ⟨Nat.le_of_ble_eq_true rfl, Nat.le_of_ble_eq_true rfl⟩) hK hP hD hS hA 1 pwC_1 rfl rfl hl.1 rfl (Nat.le_of_ble_eq_true rfl) dX4_improve_56 ⟨Nat.zero_le _, Nat.zero_le _⟩ (fun H locs hP hD hS => ?_)
      refine lv_lmul hx hb dX4_improve_59 ?_
      refine lv_ladd hx hb dX4_improve_60 ?_
      refine lv_lstore (lv' := [(8, .long (((rB x 38 (Int32.toNatClampNeg (rA x 9 (Int32.toNatClampNeg v5)))) + (Int32.toInt64 (v2 * (rA x 10 (Int32.toNatClampNeg v5))))) + ((Int32.toInt64 v3) * r1))), (7, .int (rA x 9 (Int32.toNatClampNeg v5))), (6, .int (rA x 7 (Int32.toNatClampNeg v5))), (0, .ref (a 37)), (1, .ref (a 1)), (2, .int v2), (3, .int v3), (4, .int v4), (5, .int v5)]) hx hb dX4_improve_61 hl (by decide) rfl (fun ls hl => ?_)
      refine lv_aload_n hx hb dX4_improve_63 rfl (lv_at hl 3 rfl) ?_
      refine pwG_37_0 X hK hP mF_X4_9 dX4_improve_64 ?_
      refine lv_iload hx hb dX4_improve_67 (lv_at hl 1 rfl) ?_
      obtain ⟨hg, h⟩ := gd_elim h
      refine pwL_38 X hK hP hg dX4_improve_69 ?_
      refine lv_ldc2 (v := (-1)) hx hb hown (hts _ mK_X4_29) dX4_improve_70 ?_
      refine W.lcmp hx hb dX4_improve_73 ?_
      refine lv_if_eq (tgt := 136) hx hb dX4_improve_74 (by decide) (fun hc => ?_) (fun hc => ?_)
      · replace h := ift hc h
        refine lv_iinc (v := v5 + 1) (lv' := [(5, .int (v5 + 1)), (8, .long (((rB x 38 (Int32.toNatClampNeg (rA x 9 (Int32.toNatClampNeg v5)))) + (Int32.toInt64 (v2 * (rA x 10 (Int32.toNatClampNeg v5))))) + ((Int32.toInt64 v3) * r1))), (7, .int (rA x 9 (Int32.toNatClampNeg v5))), (6, .int (rA x 7 (Int32.toNatClampNeg v5))), (0, .ref (a 37)), (1, .ref (a 1)), (2, .int v2), (3, .int v3), (4, .int v4)]) hx hb dX4_improve_136 hl (k := 8) rfl rfl (by decide) rfl (fun ls hl => ?_)
        refine lv_goto (tgt := 6) hx hb dX4_improve_139 (by decide) ?_
        exact ih x v2 v3 v4 (v5 + 1) _ _ _ hP hD hS (lv_sub hl [4, 5, 6, 7, 8, 0] rfl) h
      · replace h := iff_ hc h
        refine lv_lload hx hb dX4_improve_77 (lv_at hl 0 rfl) ?_
        refine lv_aload_n hx hb dX4_improve_79 rfl (lv_at hl 3 rfl) ?_
        refine pwG_37_1 X hK hP mF_X4_15 dX4_improve_80 ?_
        refine lv_iload hx hb dX4_improve_83 (lv_at hl 1 rfl) ?_
        obtain ⟨hg, h⟩ := gd_elim h
        refine pwL_39 X hK hP hg dX4_improve_85 ?_
        refine lv_iconst (v := 1) hx hb dX4_improve_86 (by decide) ?_
        refine lv_iadd hx hb dX4_improve_87 ?_
        refine lv_aload_n hx hb dX4_improve_88 rfl (lv_at hl 3 rfl) ?_
        refine pwG_37_0 X hK hP mF_X4_9 dX4_improve_89 ?_
        refine lv_iload hx hb dX4_improve_92 (lv_at hl 2 rfl) ?_
        obtain ⟨hg, h⟩ := gd_elim h
        refine pwL_38 X hK hP hg dX4_improve_94 ?_
        refine lv_aload_n hx hb dX4_improve_95 rfl (lv_at hl 3 rfl) ?_
        refine pwG_37_1 X hK hP mF_X4_15 dX4_improve_96 ?_
        refine lv_iload hx hb dX4_improve_99 (lv_at hl 2 rfl) ?_
        obtain ⟨hg, h⟩ := gd_elim h
        refine pwL_39 X hK hP hg dX4_improve_101 ?_
        obtain ⟨r2, hr0, h⟩ := bn1_elim h
        refine mp_callS1 (As := [.long (((rB x 38 (Int32.toNatClampNeg (rA x 9 (Int32.toNatClampNeg v5)))) + (Int32.toInt64 (v2 * (rA x 10 (Int32.toNatClampNeg v5))))) + ((Int32.toInt64 v3) * r1)), .int ((rA x 39 (Int32.toNatClampNeg (rA x 9 (Int32.toNatClampNeg v5)))) + ((1 : Int32))), .long (rB x 38 (Int32.toNatClampNeg (rA x 7 (Int32.toNatClampNeg v5)))), .int (rA x 39 (Int32.toNatClampNeg (rA x 7 (Int32.toNatClampNeg v5))))]) (rest := []) X (c_X4_isBetter l D y a hr0) (mp_cs (k := 4) hts mM_X4_51 mT_X4_isBetter mN_X4 mC_X4_isBetter rfl rfl (by decide +kernel) ⟨Nat.le_of_ble_eq_true rfl, Nat.le_of_ble_eq_true rfl⟩) hK hP hD hS hA rfl hl.1 rfl (Nat.le_of_ble_eq_true rfl) dX4_improve_102 ⟨Nat.zero_le _, Nat.zero_le _⟩ (fun H locs hP hD hS => ?_)
        refine lv_if_eq (tgt := 136) hx hb dX4_improve_105 (by decide) (fun hc => ?_) (fun hc => ?_)
        · replace h := ift hc h
          refine lv_iinc (v := v5 + 1) (lv' := [(5, .int (v5 + 1)), (8, .long (((rB x 38 (Int32.toNatClampNeg (rA x 9 (Int32.toNatClampNeg v5)))) + (Int32.toInt64 (v2 * (rA x 10 (Int32.toNatClampNeg v5))))) + ((Int32.toInt64 v3) * r1))), (7, .int (rA x 9 (Int32.toNatClampNeg v5))), (6, .int (rA x 7 (Int32.toNatClampNeg v5))), (0, .ref (a 37)), (1, .ref (a 1)), (2, .int v2), (3, .int v3), (4, .int v4)]) hx hb dX4_improve_136 hl (k := 8) rfl rfl (by decide) rfl (fun ls hl => ?_)
          refine lv_goto (tgt := 6) hx hb dX4_improve_139 (by decide) ?_
          exact ih x v2 v3 v4 (v5 + 1) _ _ _ hP hD hS (lv_sub hl [4, 5, 6, 7, 8, 0] rfl) h
        · replace h := iff_ hc h
          refine lv_aload_n hx hb dX4_improve_108 rfl (lv_at hl 3 rfl) ?_
          refine pwG_37_0 X hK hP mF_X4_9 dX4_improve_109 ?_
          refine lv_iload hx hb dX4_improve_112 (lv_at hl 2 rfl) ?_
          refine lv_lload hx hb dX4_improve_114 (lv_at hl 0 rfl) ?_
          obtain ⟨hg, h⟩ := gd_elim h
          obtain ⟨x3, e1, h⟩ := letv_elim h
          refine pwS_38 X hK hP hD hS hg e1 dX4_improve_116 (fun H locs hP hD hS => ?_)
          refine lv_aload_n hx hb dX4_improve_117 rfl (lv_at hl 3 rfl) ?_
          refine pwG_37_1 X hK hP mF_X4_15 dX4_improve_118 ?_
          refine lv_iload hx hb dX4_improve_121 (lv_at hl 2 rfl) ?_
          refine lv_aload_n hx hb dX4_improve_123 rfl (lv_at hl 3 rfl) ?_
          refine pwG_37_1 X hK hP mF_X4_15 dX4_improve_124 ?_
          refine lv_iload hx hb dX4_improve_127 (lv_at hl 1 rfl) ?_
          obtain ⟨hg, h⟩ := gd_elim h
          refine pwL_39 X hK hP hg dX4_improve_129 ?_
          refine lv_iconst (v := 1) hx hb dX4_improve_130 (by decide) ?_
          refine lv_iadd hx hb dX4_improve_131 ?_
          obtain ⟨hg, h⟩ := gd_elim h
          obtain ⟨x4, e1, h⟩ := letv_elim h
          refine pwS_39 X hK hP hD hS hg e1 dX4_improve_132 (fun H locs hP hD hS => ?_)
          refine lv_iconst (v := 1) hx hb dX4_improve_133 (by decide) ?_
          refine lv_istore (lv' := [(4, .int ((1 : Int32))), (8, .long (((rB x 38 (Int32.toNatClampNeg (rA x 9 (Int32.toNatClampNeg v5)))) + (Int32.toInt64 (v2 * (rA x 10 (Int32.toNatClampNeg v5))))) + ((Int32.toInt64 v3) * r1))), (7, .int (rA x 9 (Int32.toNatClampNeg v5))), (6, .int (rA x 7 (Int32.toNatClampNeg v5))), (0, .ref (a 37)), (1, .ref (a 1)), (2, .int v2), (3, .int v3), (5, .int v5)]) hx hb dX4_improve_134 hl (by decide) rfl (fun ls hl => ?_)
          refine lv_iinc (v := v5 + 1) (lv' := [(5, .int (v5 + 1)), (4, .int ((1 : Int32))), (8, .long (((rB x 38 (Int32.toNatClampNeg (rA x 9 (Int32.toNatClampNeg v5)))) + (Int32.toInt64 (v2 * (rA x 10 (Int32.toNatClampNeg v5))))) + ((Int32.toInt64 v3) * r1))), (7, .int (rA x 9 (Int32.toNatClampNeg v5))), (6, .int (rA x 7 (Int32.toNatClampNeg v5))), (0, .ref (a 37)), (1, .ref (a 1)), (2, .int v2), (3, .int v3)]) hx hb dX4_improve_136 hl (k := 8) rfl rfl (by decide) rfl (fun ls hl => ?_)
          refine lv_goto (tgt := 6) hx hb dX4_improve_139 (by decide) ?_
          exact ih x4 v2 v3 ((1 : Int32)) (v5 + 1) _ _ _ hP hD hS (lv_sub hl [5, 6, 7, 8, 1, 0] rfl) h
def f_X4_improve_37_1 (x : PD) (p1 : Int32) (p2 : Int32) : Option (Int32 × PD) :=
  (f_X4_improve_37_1_b6 FU x p1 p2 ((0 : Int32)) ((0 : Int32)))
set_option maxHeartbeats 4000000 in
set_option maxRecDepth 100000 in
theorem c_X4_improve_37_1 (l : Launch) (D : va_G) (y : CY) (a : Nat → Nat) {x : PD} {x' : PD} {r : Int32} {p1 : Int32} {p2 : Int32} (h : f_X4_improve_37_1 x p1 p2 = some (r, x')) : mpM l D y yX4_improve cX4_improve 10 (some .boolean) { frames := 1, cells := 0, slots := 0, locals := 25 } (pw y a x) (pw y a x') [.ref (a 37), .ref (a 1), .int p1, .int p2] (some (.int r)) := by
  refine mpM.mk (own := RX4) (by decide) rfl (Nat.le_of_ble_eq_true rfl) ?_
  intro p e s m below meth c A ls X hK hA hP hD hl
  have hS : va_S A s.heap s.heap [] := va_S.rf
  obtain ⟨⟨hx, hb, hml, hown, hts⟩, hr, hlk⟩ := id X
  have hl : lv_has ls 10 [(0, .ref (a 37)), (1, .ref (a 1)), (2, .int p1), (3, .int p2)] := hl
  unfold f_X4_improve_37_1 at h
  refine lv_iconst (v := 0) hx hb dX4_improve_0 (by decide) ?_
  refine lv_istore (lv' := [(4, .int ((0 : Int32))), (0, .ref (a 37)), (1, .ref (a 1)), (2, .int p1), (3, .int p2)]) hx hb dX4_improve_1 hl (by decide) rfl (fun ls hl => ?_)
  refine lv_iconst (v := 0) hx hb dX4_improve_3 (by decide) ?_
  refine lv_istore (lv' := [(5, .int ((0 : Int32))), (4, .int ((0 : Int32))), (0, .ref (a 37)), (1, .ref (a 1)), (2, .int p1), (3, .int p2)]) hx hb dX4_improve_4 hl (by decide) rfl (fun ls hl => ?_)
  exact w_X4_improve_37_1_b6 X hK hA FU x p1 p2 ((0 : Int32)) ((0 : Int32)) _ _ _ hP hD hS (lv_sub hl [2, 3, 4, 5, 1, 0] rfl) h
def f_X4_fill_37_1_b56 : Nat → PD → Int32 → Int32 → Int32 → Int32 → Option (PD)
  | 0, _, _, _, _, _ => none
  | n + 1, x, v3, v4, v5, v6 =>
    if (rI x 37) ≤ v6 then
  (some x)
  else
  if v5 = 0 then
  (some x)
  else
  bn2 (f_X4_improve_37_1 x v3 v4) fun r1 x2 =>
  ((f_X4_fill_37_1_b56 n) x2 v3 v4 r1 (v6 + 1))
set_option maxHeartbeats 4000000 in
set_option maxRecDepth 100000 in
theorem w_X4_fill_37_1_b56 {p : Program} {l : Launch} {e : Env} {s : State} {m : MethodId} {args : Array Value} {below : List Frame} {meth : Method} {c : Code} {D : va_G} {y : CY} {a : Nat → Nat} {A : Nat → Prop} {x' : PD} (X : mpX p s m args meth c cX4_fill 7 none RX4) (hK : va_K D vwCl (mpT y) s) (hA : ∀ q, s.heap.size ≤ q → A q) : ∀ (n : Nat), ∀ (x : PD) (v3 : Int32) (v4 : Int32) (v5 : Int32) (v6 : Int32) (H : Heap) (locs : List Loc) (ls : Array Slot), va_P D vwCl (pw y a x) H → va_D A (pw y a x) → va_S A s.heap H locs → lv_has ls 7 [(0, .ref (a 37)), (1, .ref (a 1)), (3, .int v3), (4, .int v4), (5, .int v5), (6, .int v6)] → f_X4_fill_37_1_b56 n x v3 v4 v5 v6 = some x' → W p l e { frames := 2, cells := 0, slots := 0, locals := 54 } s m args below meth c H locs 0 0 (MQ below (mpC D y A (pw y a x') none) args s 0 0 A) (F0 m 56 ls []) := by
  obtain ⟨⟨hx, hb, hml, hown, hts⟩, hr, hlk⟩ := id X
  intro n
  induction n with
  | zero =>
    intro x v3 v4 v5 v6 H locs ls hP hD hS hl h
    rw [f_X4_fill_37_1_b56] at h
    exact nons h
  | succ n ih =>
    intro x v3 v4 v5 v6 H locs ls hP hD hS hl h
    rw [f_X4_fill_37_1_b56] at h
    refine lv_iload hx hb dX4_fill_56 (lv_at hl 5 rfl) ?_
    refine lv_aload_n hx hb dX4_fill_58 rfl (lv_at hl 1 rfl) ?_
    refine pwG_1_5 X hK hP mF_X4_19 dX4_fill_59 ?_
    refine lv_icmp_ge (tgt := 86) hx hb dX4_fill_62 (by decide) (fun hc => ?_) (fun hc => ?_)
    · replace h := ift hc h
      cases h
      exact mpr_v X hK hP hD hS dX4_fill_86
    · replace h := iff_ hc h
      refine lv_iload hx hb dX4_fill_65 (lv_at hl 4 rfl) ?_
      refine lv_if_eq (tgt := 86) hx hb dX4_fill_67 (by decide) (fun hc => ?_) (fun hc => ?_)
      · replace h := ift hc h
        cases h
        exact mpr_v X hK hP hD hS dX4_fill_86
      · replace h := iff_ hc h
        refine lv_aload_n hx hb dX4_fill_70 rfl (lv_at hl 0 rfl) ?_
        refine lv_aload_n hx hb dX4_fill_71 rfl (lv_at hl 1 rfl) ?_
        refine lv_iload_n hx hb dX4_fill_72 rfl (lv_at hl 2 rfl) ?_
        refine lv_iload hx hb dX4_fill_73 (lv_at hl 3 rfl) ?_
        obtain ⟨r1, x2, hr0, h⟩ := bn2_elim h
        refine mp_call1 (As := [.ref (a 1), .int v3, .int v4]) (rest := []) X (c_X4_improve_37_1 l D y a hr0) (mp_cw (k := 3) hts mM_X4_31 mI_X4_improve mS_X4_improve mN_X4 mC_X4_improve rfl rfl (by decide +kernel) ⟨Nat.le_of_ble_eq_true rfl, Nat.le_of_ble_eq_true rfl⟩) hK hP hD hS hA 37 pwC_37 rfl rfl hl.1 rfl (Nat.le_of_ble_eq_true rfl) dX4_fill_75 ⟨Nat.zero_le _, Nat.zero_le _⟩ (fun H locs hP hD hS => ?_)
        refine lv_istore (lv' := [(5, .int r1), (0, .ref (a 37)), (1, .ref (a 1)), (3, .int v3), (4, .int v4), (6, .int v6)]) hx hb dX4_fill_78 hl (by decide) rfl (fun ls hl => ?_)
        refine lv_iinc (v := v6 + 1) (lv' := [(6, .int (v6 + 1)), (5, .int r1), (0, .ref (a 37)), (1, .ref (a 1)), (3, .int v3), (4, .int v4)]) hx hb dX4_fill_80 hl (k := 5) rfl rfl (by decide) rfl (fun ls hl => ?_)
        refine lv_goto (tgt := 56) hx hb dX4_fill_83 (by decide) ?_
        exact ih x2 v3 v4 r1 (v6 + 1) _ _ _ hP hD hS (lv_sub hl [2, 3, 4, 5, 1, 0] rfl) h
def f_X4_fill_37_1_b35 (k3 : PD → Int32 → Int32 → Int32 → Int32 → Option (PD)) (x : PD) (v2 : Int32) (v3 : Int32) (v4 : Int32) (v5 : Int32) (t0 : Int64) (t1 : Int32) : Option (PD) :=
  gd (inR t1 20) (letv (wB x 38 (vp_updL (rB x 38) (Int32.toNatClampNeg t1) t0)) fun x4 =>
  gd (inR v5 20) (letv (wA x4 39 (upd (rA x4 39) (Int32.toNatClampNeg v5) ((0 : Int32)))) fun x5 =>
  (k3 x5 v2 v3 v4 (v5 + 1))))
set_option maxHeartbeats 4000000 in
set_option maxRecDepth 100000 in
theorem w_X4_fill_37_1_b35 {p : Program} {l : Launch} {e : Env} {s : State} {m : MethodId} {args : Array Value} {below : List Frame} {meth : Method} {c : Code} {D : va_G} {y : CY} {a : Nat → Nat} {A : Nat → Prop} {x' : PD} {k3 : PD → Int32 → Int32 → Int32 → Int32 → Option (PD)} (X : mpX p s m args meth c cX4_fill 7 none RX4) (hK : va_K D vwCl (mpT y) s) (hA : ∀ q, s.heap.size ≤ q → A q) (hk3 : ∀ (x : PD) (v2 : Int32) (v3 : Int32) (v4 : Int32) (v5 : Int32) (H : Heap) (locs : List Loc) (ls : Array Slot), va_P D vwCl (pw y a x) H → va_D A (pw y a x) → va_S A s.heap H locs → lv_has ls 7 [(0, .ref (a 37)), (1, .ref (a 1)), (2, .int v2), (3, .int v3), (4, .int v4), (5, .int v5)] → k3 x v2 v3 v4 v5 = some x' → W p l e { frames := 2, cells := 0, slots := 0, locals := 54 } s m args below meth c H locs 0 0 (MQ below (mpC D y A (pw y a x') none) args s 0 0 A) (F0 m 3 ls [])) : ∀ (x : PD) (v2 : Int32) (v3 : Int32) (v4 : Int32) (v5 : Int32) (t0 : Int64) (t1 : Int32) (H : Heap) (locs : List Loc) (ls : Array Slot), va_P D vwCl (pw y a x) H → va_D A (pw y a x) → va_S A s.heap H locs → lv_has ls 7 [(0, .ref (a 37)), (1, .ref (a 1)), (2, .int v2), (3, .int v3), (4, .int v4), (5, .int v5)] → f_X4_fill_37_1_b35 k3 x v2 v3 v4 v5 t0 t1 = some x' → W p l e { frames := 2, cells := 0, slots := 0, locals := 54 } s m args below meth c H locs 0 0 (MQ below (mpC D y A (pw y a x') none) args s 0 0 A) (F0 m 35 ls [.long t0, .int t1, .ref (a 38)]) := by
  obtain ⟨⟨hx, hb, hml, hown, hts⟩, hr, hlk⟩ := id X
  intro x v2 v3 v4 v5 t0 t1 H locs ls hP hD hS hl h
  unfold f_X4_fill_37_1_b35 at h
  obtain ⟨hg, h⟩ := gd_elim h
  obtain ⟨x4, e1, h⟩ := letv_elim h
  refine pwS_38 X hK hP hD hS hg e1 dX4_fill_35 (fun H locs hP hD hS => ?_)
  refine lv_aload_n hx hb dX4_fill_36 rfl (lv_at hl 0 rfl) ?_
  refine pwG_37_1 X hK hP mF_X4_15 dX4_fill_37 ?_
  refine lv_iload hx hb dX4_fill_40 (lv_at hl 5 rfl) ?_
  refine lv_iconst (v := 0) hx hb dX4_fill_42 (by decide) ?_
  obtain ⟨hg, h⟩ := gd_elim h
  obtain ⟨x5, e1, h⟩ := letv_elim h
  refine pwS_39 X hK hP hD hS hg e1 dX4_fill_43 (fun H locs hP hD hS => ?_)
  refine lv_iinc (v := v5 + 1) (lv' := [(5, .int (v5 + 1)), (0, .ref (a 37)), (1, .ref (a 1)), (2, .int v2), (3, .int v3), (4, .int v4)]) hx hb dX4_fill_44 hl (k := 5) rfl rfl (by decide) rfl (fun ls hl => ?_)
  refine lv_goto (tgt := 3) hx hb dX4_fill_47 (by decide) ?_
  exact hk3 x5 v2 v3 v4 (v5 + 1) _ _ _ hP hD hS (lv_sub hl [1, 2, 3, 4, 5, 0] rfl) h
def f_X4_fill_37_1_b3 : Nat → PD → Int32 → Int32 → Int32 → Int32 → Option (PD)
  | 0, _, _, _, _, _ => none
  | n + 1, x, v2, v3, v4, v5 =>
    if (rI x 37) ≤ v5 then
  ((f_X4_fill_37_1_b56 FU x v3 v4 ((1 : Int32)) ((0 : Int32))))
  else
  bn1 (f_X2_hasMood x v5 v2) fun r3 =>
  if r3 = 0 then
  ((f_X4_fill_37_1_b35 (f_X4_fill_37_1_b3 n) x v2 v3 v4 v5 ((-1 : Int64)) v5))
  else
  (f_X4_fill_37_1_b35 (f_X4_fill_37_1_b3 n) x v2 v3 v4 v5 ((0 : Int64)) v5)
set_option maxHeartbeats 4000000 in
set_option maxRecDepth 100000 in
theorem w_X4_fill_37_1_b3 {p : Program} {l : Launch} {e : Env} {s : State} {m : MethodId} {args : Array Value} {below : List Frame} {meth : Method} {c : Code} {D : va_G} {y : CY} {a : Nat → Nat} {A : Nat → Prop} {x' : PD} (X : mpX p s m args meth c cX4_fill 7 none RX4) (hK : va_K D vwCl (mpT y) s) (hA : ∀ q, s.heap.size ≤ q → A q) : ∀ (n : Nat), ∀ (x : PD) (v2 : Int32) (v3 : Int32) (v4 : Int32) (v5 : Int32) (H : Heap) (locs : List Loc) (ls : Array Slot), va_P D vwCl (pw y a x) H → va_D A (pw y a x) → va_S A s.heap H locs → lv_has ls 7 [(0, .ref (a 37)), (1, .ref (a 1)), (2, .int v2), (3, .int v3), (4, .int v4), (5, .int v5)] → f_X4_fill_37_1_b3 n x v2 v3 v4 v5 = some x' → W p l e { frames := 2, cells := 0, slots := 0, locals := 54 } s m args below meth c H locs 0 0 (MQ below (mpC D y A (pw y a x') none) args s 0 0 A) (F0 m 3 ls []) := by
  obtain ⟨⟨hx, hb, hml, hown, hts⟩, hr, hlk⟩ := id X
  intro n
  induction n with
  | zero =>
    intro x v2 v3 v4 v5 H locs ls hP hD hS hl h
    rw [f_X4_fill_37_1_b3] at h
    exact nons h
  | succ n ih =>
    intro x v2 v3 v4 v5 H locs ls hP hD hS hl h
    rw [f_X4_fill_37_1_b3] at h
    refine lv_iload hx hb dX4_fill_3 (lv_at hl 5 rfl) ?_
    refine lv_aload_n hx hb dX4_fill_5 rfl (lv_at hl 1 rfl) ?_
    refine pwG_1_5 X hK hP mF_X4_19 dX4_fill_6 ?_
    refine lv_icmp_ge (tgt := 50) hx hb dX4_fill_9 (by decide) (fun hc => ?_) (fun hc => ?_)
    · replace h := ift hc h
      refine lv_iconst (v := 1) hx hb dX4_fill_50 (by decide) ?_
      refine lv_istore (lv' := [(5, .int ((1 : Int32))), (0, .ref (a 37)), (1, .ref (a 1)), (2, .int v2), (3, .int v3), (4, .int v4)]) hx hb dX4_fill_51 hl (by decide) rfl (fun ls hl => ?_)
      refine lv_iconst (v := 0) hx hb dX4_fill_53 (by decide) ?_
      refine lv_istore (lv' := [(6, .int ((0 : Int32))), (5, .int ((1 : Int32))), (0, .ref (a 37)), (1, .ref (a 1)), (2, .int v2), (3, .int v3), (4, .int v4)]) hx hb dX4_fill_54 hl (by decide) rfl (fun ls hl => ?_)
      exact w_X4_fill_37_1_b56 X hK hA FU x v3 v4 ((1 : Int32)) ((0 : Int32)) _ _ _ hP hD hS (lv_sub hl [2, 3, 5, 6, 1, 0] rfl) h
    · replace h := iff_ hc h
      refine lv_aload_n hx hb dX4_fill_12 rfl (lv_at hl 0 rfl) ?_
      refine pwG_37_0 X hK hP mF_X4_9 dX4_fill_13 ?_
      refine lv_iload hx hb dX4_fill_16 (lv_at hl 5 rfl) ?_
      refine lv_aload_n hx hb dX4_fill_18 rfl (lv_at hl 1 rfl) ?_
      refine lv_iload hx hb dX4_fill_19 (lv_at hl 5 rfl) ?_
      refine lv_iload_n hx hb dX4_fill_21 rfl (lv_at hl 2 rfl) ?_
      obtain ⟨r3, hr0, h⟩ := bn1_elim h
      refine mp_call1 (As := [.int v5, .int v2]) (rest := [.int v5, .ref (a 38)]) X (c_X2_hasMood l D y a hr0) (mp_cw (k := 2) hts mM_X4_25 mI_X2_hasMood mS_X2_hasMood mN_X2 mC_X2_hasMood rfl rfl (by decide +kernel) ⟨Nat.le_of_ble_eq_true rfl, Nat.le_of_ble_eq_true rfl⟩) hK hP hD hS hA 1 pwC_1 rfl rfl hl.1 rfl (Nat.le_of_ble_eq_true rfl) dX4_fill_22 ⟨Nat.zero_le _, Nat.zero_le _⟩ (fun H locs hP hD hS => ?_)
      refine lv_if_eq (tgt := 32) hx hb dX4_fill_25 (by decide) (fun hc => ?_) (fun hc => ?_)
      · replace h := ift hc h
        refine lv_ldc2 (v := (-1)) hx hb hown (hts _ mK_X4_29) dX4_fill_32 ?_
        exact w_X4_fill_37_1_b35 X hK hA ih x v2 v3 v4 v5 ((-1 : Int64)) v5 _ _ _ hP hD hS (lv_sub hl [0, 1, 2, 3, 4, 5] rfl) h
      · replace h := iff_ hc h
        refine lv_lconst (v := 0) hx hb dX4_fill_28 (by decide) ?_
        refine lv_goto (tgt := 35) hx hb dX4_fill_29 (by decide) ?_
        exact w_X4_fill_37_1_b35 X hK hA ih x v2 v3 v4 v5 ((0 : Int64)) v5 _ _ _ hP hD hS (lv_sub hl [0, 1, 2, 3, 4, 5] rfl) h
def f_X4_fill_37_1 (x : PD) (p1 : Int32) (p2 : Int32) (p3 : Int32) : Option (PD) :=
  (f_X4_fill_37_1_b3 FU x p1 p2 p3 ((0 : Int32)))
set_option maxHeartbeats 4000000 in
set_option maxRecDepth 100000 in
theorem c_X4_fill_37_1 (l : Launch) (D : va_G) (y : CY) (a : Nat → Nat) {x : PD} {x' : PD} {p1 : Int32} {p2 : Int32} {p3 : Int32} (h : f_X4_fill_37_1 x p1 p2 p3 = some x') : mpM l D y yX4_fill cX4_fill 7 none { frames := 2, cells := 0, slots := 0, locals := 54 } (pw y a x) (pw y a x') [.ref (a 37), .ref (a 1), .int p1, .int p2, .int p3] none := by
  refine mpM.mk (own := RX4) (by decide) rfl (Nat.le_of_ble_eq_true rfl) ?_
  intro p e s m below meth c A ls X hK hA hP hD hl
  have hS : va_S A s.heap s.heap [] := va_S.rf
  obtain ⟨⟨hx, hb, hml, hown, hts⟩, hr, hlk⟩ := id X
  have hl : lv_has ls 7 [(0, .ref (a 37)), (1, .ref (a 1)), (2, .int p1), (3, .int p2), (4, .int p3)] := hl
  unfold f_X4_fill_37_1 at h
  refine lv_iconst (v := 0) hx hb dX4_fill_0 (by decide) ?_
  refine lv_istore (lv' := [(5, .int ((0 : Int32))), (0, .ref (a 37)), (1, .ref (a 1)), (2, .int p1), (3, .int p2), (4, .int p3)]) hx hb dX4_fill_1 hl (by decide) rfl (fun ls hl => ?_)
  exact w_X4_fill_37_1_b3 X hK hA FU x p1 p2 p3 ((0 : Int32)) _ _ _ hP hD hS (lv_sub hl [1, 2, 3, 4, 5, 0] rfl) h
def f_X5_reach (x : PD) (p1 : Int32) (p2 : Int32) : Option (Int64 × PD) :=
  bn1 (f_X5_checkPlayable x p1) fun _u =>
  bn1 (f_X5_checkMood x p2) fun _u =>
  bn1 (f_X4_fill_37_1 x p2 ((0 : Int32)) ((1 : Int32))) fun x1 =>
  gd (inR p1 20) (some (rB x1 38 (Int32.toNatClampNeg p1), x1))
set_option maxHeartbeats 4000000 in
set_option maxRecDepth 100000 in
theorem c_X5_reach (l : Launch) (D : va_G) (y : CY) (a : Nat → Nat) {x : PD} {x' : PD} {r : Int64} {p1 : Int32} {p2 : Int32} (h : f_X5_reach x p1 p2 = some (r, x')) : mpM l D y yX5_reach cX5_reach 3 (some .long) { frames := 3, cells := 0, slots := 0, locals := 80 } (pw y a x) (pw y a x') [.ref (a 0), .int p1, .int p2] (some (.long r)) := by
  refine mpM.mk (own := RX5) (by decide) rfl (Nat.le_of_ble_eq_true rfl) ?_
  intro p e s m below meth c A ls X hK hA hP hD hl
  have hS : va_S A s.heap s.heap [] := va_S.rf
  obtain ⟨⟨hx, hb, hml, hown, hts⟩, hr, hlk⟩ := id X
  have hl : lv_has ls 3 [(0, .ref (a 0)), (1, .int p1), (2, .int p2)] := hl
  unfold f_X5_reach at h
  refine lv_aload_n hx hb dX5_reach_0 rfl (lv_at hl 0 rfl) ?_
  refine lv_iload_n hx hb dX5_reach_1 rfl (lv_at hl 1 rfl) ?_
  obtain ⟨u0, hr0, h⟩ := bn1_elim h
  refine mp_callv (As := [.int p1]) (rest := []) X (c_X5_checkPlayable l D y a hr0) (mp_cw (k := 1) hts mM_X5_126 mI_X5_checkPlayable mS_X5_checkPlayable mN_X5 mC_X5_checkPlayable rfl rfl (by decide +kernel) ⟨Nat.le_of_ble_eq_true rfl, Nat.le_of_ble_eq_true rfl⟩) hK hP hD hS hA 0 pwC_0 rfl rfl hl.1 rfl (Nat.le_of_ble_eq_true rfl) dX5_reach_2 ⟨Nat.zero_le _, Nat.zero_le _⟩ (fun H locs hP hD hS => ?_)
  refine lv_aload_n hx hb dX5_reach_5 rfl (lv_at hl 0 rfl) ?_
  refine lv_iload_n hx hb dX5_reach_6 rfl (lv_at hl 2 rfl) ?_
  obtain ⟨u0, hr0, h⟩ := bn1_elim h
  refine mp_callv (As := [.int p2]) (rest := []) X (c_X5_checkMood l D y a hr0) (mp_cw (k := 1) hts mM_X5_92 mI_X5_checkMood mS_X5_checkMood mN_X5 mC_X5_checkMood rfl rfl (by decide +kernel) ⟨Nat.le_of_ble_eq_true rfl, Nat.le_of_ble_eq_true rfl⟩) hK hP hD hS hA 0 pwC_0 rfl rfl hl.1 rfl (Nat.le_of_ble_eq_true rfl) dX5_reach_7 ⟨Nat.zero_le _, Nat.zero_le _⟩ (fun H locs hP hD hS => ?_)
  refine lv_aload_n hx hb dX5_reach_10 rfl (lv_at hl 0 rfl) ?_
  refine pwG_0_4 X hK hP mF_X5_39 dX5_reach_11 ?_
  refine lv_aload_n hx hb dX5_reach_14 rfl (lv_at hl 0 rfl) ?_
  refine pwG_0_0 X hK hP mF_X5_12 dX5_reach_15 ?_
  refine lv_iload_n hx hb dX5_reach_18 rfl (lv_at hl 2 rfl) ?_
  refine lv_iconst (v := 0) hx hb dX5_reach_19 (by decide) ?_
  refine lv_iconst (v := 1) hx hb dX5_reach_20 (by decide) ?_
  obtain ⟨x1, hr0, h⟩ := bn1_elim h
  refine mp_callv (As := [.ref (a 1), .int p2, .int ((0 : Int32)), .int ((1 : Int32))]) (rest := []) X (c_X4_fill_37_1 l D y a hr0) (mp_cw (k := 4) hts mM_X5_129 mI_X4_fill mS_X4_fill mN_X4 mC_X4_fill rfl rfl (by decide +kernel) ⟨Nat.le_of_ble_eq_true rfl, Nat.le_of_ble_eq_true rfl⟩) hK hP hD hS hA 37 pwC_37 rfl rfl hl.1 rfl (Nat.le_of_ble_eq_true rfl) dX5_reach_21 ⟨Nat.zero_le _, Nat.zero_le _⟩ (fun H locs hP hD hS => ?_)
  refine lv_aload_n hx hb dX5_reach_24 rfl (lv_at hl 0 rfl) ?_
  refine pwG_0_4 X hK hP mF_X5_39 dX5_reach_25 ?_
  refine pwG_37_0 X hK hP mF_X5_133 dX5_reach_28 ?_
  refine lv_iload_n hx hb dX5_reach_31 rfl (lv_at hl 1 rfl) ?_
  obtain ⟨hg, h⟩ := gd_elim h
  refine pwL_38 X hK hP hg dX5_reach_32 ?_
  cases h
  exact mpr_l X hK hP hD hS rfl dX5_reach_33
def f_X2_firstWithMood_b2 (x : PD) : Nat → Int32 → Int32 → Option (Int32)
  | 0, _, _ => none
  | n + 1, v1, v2 =>
    if (rI x 37) ≤ v2 then
  (some ((-1 : Int32)))
  else
  bn1 (f_X2_hasMood x v2 v1) fun r1 =>
  if r1 = 0 then
  (((f_X2_firstWithMood_b2 x n) v1 (v2 + 1)))
  else
  some v2
set_option maxHeartbeats 4000000 in
set_option maxRecDepth 100000 in
theorem w_X2_firstWithMood_b2 {p : Program} {l : Launch} {e : Env} {s : State} {m : MethodId} {args : Array Value} {below : List Frame} {meth : Method} {c : Code} {D : va_G} {y : CY} {a : Nat → Nat} {A : Nat → Prop} {x : PD} {r : Int32} (X : mpX p s m args meth c cX2_firstWithMood 3 (some .int) RX2) (hK : va_K D vwCl (mpT y) s) (hA : ∀ q, s.heap.size ≤ q → A q) : ∀ (n : Nat), ∀ (v1 : Int32) (v2 : Int32) (H : Heap) (locs : List Loc) (ls : Array Slot), va_P D vwCl (pw y a x) H → va_D A (pw y a x) → va_S A s.heap H locs → lv_has ls 3 [(0, .ref (a 1)), (1, .int v1), (2, .int v2)] → f_X2_firstWithMood_b2 x n v1 v2 = some r → W p l e { frames := 1, cells := 0, slots := 0, locals := 22 } s m args below meth c H locs 0 0 (MQ below (mpC D y A (pw y a x) (some (.int r))) args s 0 0 A) (F0 m 2 ls []) := by
  obtain ⟨⟨hx, hb, hml, hown, hts⟩, hr, hlk⟩ := id X
  intro n
  induction n with
  | zero =>
    intro v1 v2 H locs ls hP hD hS hl h
    rw [f_X2_firstWithMood_b2] at h
    exact nons h
  | succ n ih =>
    intro v1 v2 H locs ls hP hD hS hl h
    rw [f_X2_firstWithMood_b2] at h
    refine lv_iload_n hx hb dX2_firstWithMood_2 rfl (lv_at hl 2 rfl) ?_
    refine lv_aload_n hx hb dX2_firstWithMood_3 rfl (lv_at hl 0 rfl) ?_
    refine pwG_1_5 X hK hP mF_X2_42 dX2_firstWithMood_4 ?_
    refine lv_icmp_ge (tgt := 27) hx hb dX2_firstWithMood_7 (by decide) (fun hc => ?_) (fun hc => ?_)
    · replace h := ift hc h
      refine lv_iconst (v := -1) hx hb dX2_firstWithMood_27 (by decide) ?_
      cases h
      exact mpr_i X hK hP hD hS rfl dX2_firstWithMood_28
    · replace h := iff_ hc h
      refine lv_aload_n hx hb dX2_firstWithMood_10 rfl (lv_at hl 0 rfl) ?_
      refine lv_iload_n hx hb dX2_firstWithMood_11 rfl (lv_at hl 2 rfl) ?_
      refine lv_iload_n hx hb dX2_firstWithMood_12 rfl (lv_at hl 1 rfl) ?_
      obtain ⟨r1, hr0, h⟩ := bn1_elim h
      refine mp_call1 (As := [.int v2, .int v1]) (rest := []) X (c_X2_hasMood l D y a hr0) (mp_cw (k := 2) hts mM_X2_60 mI_X2_hasMood mS_X2_hasMood mN_X2 mC_X2_hasMood rfl rfl (by decide +kernel) ⟨Nat.le_of_ble_eq_true rfl, Nat.le_of_ble_eq_true rfl⟩) hK hP hD hS hA 1 pwC_1 rfl rfl hl.1 rfl (Nat.le_of_ble_eq_true rfl) dX2_firstWithMood_13 ⟨Nat.zero_le _, Nat.zero_le _⟩ (fun H locs hP hD hS => ?_)
      refine lv_if_eq (tgt := 21) hx hb dX2_firstWithMood_16 (by decide) (fun hc => ?_) (fun hc => ?_)
      · replace h := ift hc h
        refine lv_iinc (v := v2 + 1) (lv' := [(2, .int (v2 + 1)), (0, .ref (a 1)), (1, .int v1)]) hx hb dX2_firstWithMood_21 hl (k := 2) rfl rfl (by decide) rfl (fun ls hl => ?_)
        refine lv_goto (tgt := 2) hx hb dX2_firstWithMood_24 (by decide) ?_
        exact ih v1 (v2 + 1) _ _ _ hP hD hS (lv_sub hl [1, 2, 0] rfl) h
      · replace h := iff_ hc h
        refine lv_iload_n hx hb dX2_firstWithMood_19 rfl (lv_at hl 2 rfl) ?_
        cases h
        exact mpr_i X hK hP hD hS rfl dX2_firstWithMood_20
def f_X2_firstWithMood (x : PD) (p1 : Int32) : Option (Int32) :=
  (f_X2_firstWithMood_b2 x FU p1 ((0 : Int32)))
set_option maxHeartbeats 4000000 in
set_option maxRecDepth 100000 in
theorem c_X2_firstWithMood (l : Launch) (D : va_G) (y : CY) (a : Nat → Nat) {x : PD} {r : Int32} {p1 : Int32} (h : f_X2_firstWithMood x p1 = some r) : mpM l D y yX2_firstWithMood cX2_firstWithMood 3 (some .int) { frames := 1, cells := 0, slots := 0, locals := 22 } (pw y a x) (pw y a x) [.ref (a 1), .int p1] (some (.int r)) := by
  refine mpM.mk (own := RX2) (by decide) rfl (Nat.le_of_ble_eq_true rfl) ?_
  intro p e s m below meth c A ls X hK hA hP hD hl
  have hS : va_S A s.heap s.heap [] := va_S.rf
  obtain ⟨⟨hx, hb, hml, hown, hts⟩, hr, hlk⟩ := id X
  have hl : lv_has ls 3 [(0, .ref (a 1)), (1, .int p1)] := hl
  unfold f_X2_firstWithMood at h
  refine lv_iconst (v := 0) hx hb dX2_firstWithMood_0 (by decide) ?_
  refine lv_istore_n (lv' := [(2, .int ((0 : Int32))), (0, .ref (a 1)), (1, .int p1)]) hx hb dX2_firstWithMood_1 rfl hl (by decide) rfl (fun ls hl => ?_)
  exact w_X2_firstWithMood_b2 X hK hA FU p1 ((0 : Int32)) _ _ _ hP hD hS (lv_sub hl [1, 2, 0] rfl) h
def f_X2_firstComeTo_b90 (x : PD) : Nat → Int32 → Int32 → Int32 → Option (Int32)
  | 0, _, _, _ => none
  | n + 1, v1, v2, v4 =>
    if v1 ≤ v4 then
  (some v4)
  else
  if ((v2 >>> (v4 &&& 31)) &&& ((1 : Int32))) = 0 then
  ((f_X2_firstComeTo_b90 x n) v1 v2 (v4 + 1))
  else
  some v4
set_option maxHeartbeats 4000000 in
set_option maxRecDepth 100000 in
theorem w_X2_firstComeTo_b90 {p : Program} {l : Launch} {e : Env} {s : State} {m : MethodId} {args : Array Value} {below : List Frame} {meth : Method} {c : Code} {D : va_G} {y : CY} {a : Nat → Nat} {A : Nat → Prop} {x : PD} {r : Int32} (X : mpX p s m args meth c cX2_firstComeTo 7 (some .int) RX2) (hK : va_K D vwCl (mpT y) s) (hA : ∀ q, s.heap.size ≤ q → A q) : ∀ (n : Nat), ∀ (v1 : Int32) (v2 : Int32) (v4 : Int32) (H : Heap) (locs : List Loc) (ls : Array Slot), va_P D vwCl (pw y a x) H → va_D A (pw y a x) → va_S A s.heap H locs → lv_has ls 7 [(1, .int v1), (2, .int v2), (4, .int v4)] → f_X2_firstComeTo_b90 x n v1 v2 v4 = some r → W p l e { frames := 0, cells := 0, slots := 0, locals := 0 } s m args below meth c H locs 0 0 (MQ below (mpC D y A (pw y a x) (some (.int r))) args s 0 0 A) (F0 m 90 ls []) := by
  obtain ⟨⟨hx, hb, hml, hown, hts⟩, hr, hlk⟩ := id X
  intro n
  induction n with
  | zero =>
    intro v1 v2 v4 H locs ls hP hD hS hl h
    rw [f_X2_firstComeTo_b90] at h
    exact nons h
  | succ n ih =>
    intro v1 v2 v4 H locs ls hP hD hS hl h
    rw [f_X2_firstComeTo_b90] at h
    refine lv_iload hx hb dX2_firstComeTo_90 (lv_at hl 2 rfl) ?_
    refine lv_iload_n hx hb dX2_firstComeTo_92 rfl (lv_at hl 0 rfl) ?_
    refine lv_icmp_ge (tgt := 111) hx hb dX2_firstComeTo_93 (by decide) (fun hc => ?_) (fun hc => ?_)
    · replace h := ift hc h
      refine lv_iload hx hb dX2_firstComeTo_111 (lv_at hl 2 rfl) ?_
      cases h
      exact mpr_i X hK hP hD hS rfl dX2_firstComeTo_113
    · replace h := iff_ hc h
      refine lv_iload_n hx hb dX2_firstComeTo_96 rfl (lv_at hl 1 rfl) ?_
      refine lv_iload hx hb dX2_firstComeTo_97 (lv_at hl 2 rfl) ?_
      refine lv_ishr hx hb dX2_firstComeTo_99 ?_
      refine lv_iconst (v := 1) hx hb dX2_firstComeTo_100 (by decide) ?_
      refine lv_iand hx hb dX2_firstComeTo_101 ?_
      refine lv_if_ne (tgt := 111) hx hb dX2_firstComeTo_102 (by decide) (fun hc => ?_) (fun hc => ?_)
      · replace h := iff_ hc h
        refine lv_iload hx hb dX2_firstComeTo_111 (lv_at hl 2 rfl) ?_
        cases h
        exact mpr_i X hK hP hD hS rfl dX2_firstComeTo_113
      · replace h := ift hc h
        refine lv_iinc (v := v4 + 1) (lv' := [(4, .int (v4 + 1)), (1, .int v1), (2, .int v2)]) hx hb dX2_firstComeTo_105 hl (k := 2) rfl rfl (by decide) rfl (fun ls hl => ?_)
        refine lv_goto (tgt := 90) hx hb dX2_firstComeTo_108 (by decide) ?_
        exact ih v1 v2 (v4 + 1) _ _ _ hP hD hS (lv_sub hl [1, 2, 0] rfl) h
def f_X2_firstComeTo_b28 (x : PD) (k9 : Int32 → Int32 → Int32 → Int32 → Option (Int32)) : Nat → Int32 → Int32 → Int32 → Int32 → Int32 → Option (Int32)
  | 0, _, _, _, _, _ => none
  | n + 1, v1, v2, v4, v5, v6 =>
    if (rI x 42) ≤ v6 then
  (if v2 = v5 then
  ((k9 v1 v2 ((0 : Int32)) (v4 + 1)))
  else
  (k9 v1 v2 ((1 : Int32)) (v4 + 1)))
  else
  gd (inR v6 100) (if ((v2 >>> ((rA x 7 (Int32.toNatClampNeg v6)) &&& 31)) &&& ((1 : Int32))) = 0 then
  (((f_X2_firstComeTo_b28 x k9 n) v1 v2 v4 v5 (v6 + 1)))
  else
  gd (inR v6 100) (((f_X2_firstComeTo_b28 x k9 n) v1 (v2 ||| (((1 : Int32)) <<< ((rA x 9 (Int32.toNatClampNeg v6)) &&& 31))) v4 v5 (v6 + 1))))
set_option maxHeartbeats 4000000 in
set_option maxRecDepth 100000 in
theorem w_X2_firstComeTo_b28 {p : Program} {l : Launch} {e : Env} {s : State} {m : MethodId} {args : Array Value} {below : List Frame} {meth : Method} {c : Code} {D : va_G} {y : CY} {a : Nat → Nat} {A : Nat → Prop} {x : PD} {r : Int32} {k9 : Int32 → Int32 → Int32 → Int32 → Option (Int32)} (X : mpX p s m args meth c cX2_firstComeTo 7 (some .int) RX2) (hK : va_K D vwCl (mpT y) s) (hA : ∀ q, s.heap.size ≤ q → A q) (hk9 : ∀ (v1 : Int32) (v2 : Int32) (v3 : Int32) (v4 : Int32) (H : Heap) (locs : List Loc) (ls : Array Slot), va_P D vwCl (pw y a x) H → va_D A (pw y a x) → va_S A s.heap H locs → lv_has ls 7 [(0, .ref (a 1)), (1, .int v1), (2, .int v2), (3, .int v3), (4, .int v4)] → k9 v1 v2 v3 v4 = some r → W p l e { frames := 0, cells := 0, slots := 0, locals := 0 } s m args below meth c H locs 0 0 (MQ below (mpC D y A (pw y a x) (some (.int r))) args s 0 0 A) (F0 m 9 ls [])) : ∀ (n : Nat), ∀ (v1 : Int32) (v2 : Int32) (v4 : Int32) (v5 : Int32) (v6 : Int32) (H : Heap) (locs : List Loc) (ls : Array Slot), va_P D vwCl (pw y a x) H → va_D A (pw y a x) → va_S A s.heap H locs → lv_has ls 7 [(0, .ref (a 1)), (1, .int v1), (2, .int v2), (4, .int v4), (5, .int v5), (6, .int v6)] → f_X2_firstComeTo_b28 x k9 n v1 v2 v4 v5 v6 = some r → W p l e { frames := 0, cells := 0, slots := 0, locals := 0 } s m args below meth c H locs 0 0 (MQ below (mpC D y A (pw y a x) (some (.int r))) args s 0 0 A) (F0 m 28 ls []) := by
  obtain ⟨⟨hx, hb, hml, hown, hts⟩, hr, hlk⟩ := id X
  intro n
  induction n with
  | zero =>
    intro v1 v2 v4 v5 v6 H locs ls hP hD hS hl h
    rw [f_X2_firstComeTo_b28] at h
    exact nons h
  | succ n ih =>
    intro v1 v2 v4 v5 v6 H locs ls hP hD hS hl h
    rw [f_X2_firstComeTo_b28] at h
    refine lv_iload hx hb dX2_firstComeTo_28 (lv_at hl 5 rfl) ?_
    refine lv_aload_n hx hb dX2_firstComeTo_30 rfl (lv_at hl 0 rfl) ?_
    refine pwG_1_10 X hK hP mF_X2_50 dX2_firstComeTo_31 ?_
    refine lv_icmp_ge (tgt := 69) hx hb dX2_firstComeTo_34 (by decide) (fun hc => ?_) (fun hc => ?_)
    · replace h := ift hc h
      refine lv_iload_n hx hb dX2_firstComeTo_69 rfl (lv_at hl 2 rfl) ?_
      refine lv_iload hx hb dX2_firstComeTo_70 (lv_at hl 4 rfl) ?_
      refine lv_icmp_eq (tgt := 79) hx hb dX2_firstComeTo_72 (by decide) (fun hc => ?_) (fun hc => ?_)
      · replace h := ift hc h
        refine lv_iconst (v := 0) hx hb dX2_firstComeTo_79 (by decide) ?_
        refine lv_istore_n (lv' := [(3, .int ((0 : Int32))), (0, .ref (a 1)), (1, .int v1), (2, .int v2), (4, .int v4), (5, .int v5), (6, .int v6)]) hx hb dX2_firstComeTo_80 rfl hl (by decide) rfl (fun ls hl => ?_)
        refine lv_iinc (v := v4 + 1) (lv' := [(4, .int (v4 + 1)), (3, .int ((0 : Int32))), (0, .ref (a 1)), (1, .int v1), (2, .int v2), (5, .int v5), (6, .int v6)]) hx hb dX2_firstComeTo_81 hl (k := 4) rfl rfl (by decide) rfl (fun ls hl => ?_)
        refine lv_goto (tgt := 9) hx hb dX2_firstComeTo_84 (by decide) ?_
        exact hk9 v1 v2 ((0 : Int32)) (v4 + 1) _ _ _ hP hD hS (lv_sub hl [2, 3, 4, 1, 0] rfl) h
      · replace h := iff_ hc h
        refine lv_iconst (v := 1) hx hb dX2_firstComeTo_75 (by decide) ?_
        refine lv_goto (tgt := 80) hx hb dX2_firstComeTo_76 (by decide) ?_
        refine lv_istore_n (lv' := [(3, .int ((1 : Int32))), (0, .ref (a 1)), (1, .int v1), (2, .int v2), (4, .int v4), (5, .int v5), (6, .int v6)]) hx hb dX2_firstComeTo_80 rfl hl (by decide) rfl (fun ls hl => ?_)
        refine lv_iinc (v := v4 + 1) (lv' := [(4, .int (v4 + 1)), (3, .int ((1 : Int32))), (0, .ref (a 1)), (1, .int v1), (2, .int v2), (5, .int v5), (6, .int v6)]) hx hb dX2_firstComeTo_81 hl (k := 4) rfl rfl (by decide) rfl (fun ls hl => ?_)
        refine lv_goto (tgt := 9) hx hb dX2_firstComeTo_84 (by decide) ?_
        exact hk9 v1 v2 ((1 : Int32)) (v4 + 1) _ _ _ hP hD hS (lv_sub hl [2, 3, 4, 1, 0] rfl) h
    · replace h := iff_ hc h
      refine lv_iload_n hx hb dX2_firstComeTo_37 rfl (lv_at hl 2 rfl) ?_
      refine lv_aload_n hx hb dX2_firstComeTo_38 rfl (lv_at hl 0 rfl) ?_
      refine pwG_1_6 X hK hP mF_X2_27 dX2_firstComeTo_39 ?_
      refine lv_iload hx hb dX2_firstComeTo_42 (lv_at hl 5 rfl) ?_
      obtain ⟨hg, h⟩ := gd_elim h
      refine pwL_7 X hK hP hg dX2_firstComeTo_44 ?_
      refine lv_ishr hx hb dX2_firstComeTo_45 ?_
      refine lv_iconst (v := 1) hx hb dX2_firstComeTo_46 (by decide) ?_
      refine lv_iand hx hb dX2_firstComeTo_47 ?_
      refine lv_if_eq (tgt := 63) hx hb dX2_firstComeTo_48 (by decide) (fun hc => ?_) (fun hc => ?_)
      · replace h := ift hc h
        refine lv_iinc (v := v6 + 1) (lv' := [(6, .int (v6 + 1)), (0, .ref (a 1)), (1, .int v1), (2, .int v2), (4, .int v4), (5, .int v5)]) hx hb dX2_firstComeTo_63 hl (k := 5) rfl rfl (by decide) rfl (fun ls hl => ?_)
        refine lv_goto (tgt := 28) hx hb dX2_firstComeTo_66 (by decide) ?_
        exact ih v1 v2 v4 v5 (v6 + 1) _ _ _ hP hD hS (lv_sub hl [1, 2, 3, 4, 5, 0] rfl) h
      · replace h := iff_ hc h
        refine lv_iload_n hx hb dX2_firstComeTo_51 rfl (lv_at hl 2 rfl) ?_
        refine lv_iconst (v := 1) hx hb dX2_firstComeTo_52 (by decide) ?_
        refine lv_aload_n hx hb dX2_firstComeTo_53 rfl (lv_at hl 0 rfl) ?_
        refine pwG_1_8 X hK hP mF_X2_33 dX2_firstComeTo_54 ?_
        refine lv_iload hx hb dX2_firstComeTo_57 (lv_at hl 5 rfl) ?_
        obtain ⟨hg, h⟩ := gd_elim h
        refine pwL_9 X hK hP hg dX2_firstComeTo_59 ?_
        refine lv_ishl hx hb dX2_firstComeTo_60 ?_
        refine lv_ior hx hb dX2_firstComeTo_61 ?_
        refine lv_istore_n (lv' := [(2, .int (v2 ||| (((1 : Int32)) <<< ((rA x 9 (Int32.toNatClampNeg v6)) &&& 31)))), (0, .ref (a 1)), (1, .int v1), (4, .int v4), (5, .int v5), (6, .int v6)]) hx hb dX2_firstComeTo_62 rfl hl (by decide) rfl (fun ls hl => ?_)
        refine lv_iinc (v := v6 + 1) (lv' := [(6, .int (v6 + 1)), (2, .int (v2 ||| (((1 : Int32)) <<< ((rA x 9 (Int32.toNatClampNeg v6)) &&& 31)))), (0, .ref (a 1)), (1, .int v1), (4, .int v4), (5, .int v5)]) hx hb dX2_firstComeTo_63 hl (k := 5) rfl rfl (by decide) rfl (fun ls hl => ?_)
        refine lv_goto (tgt := 28) hx hb dX2_firstComeTo_66 (by decide) ?_
        exact ih v1 (v2 ||| (((1 : Int32)) <<< ((rA x 9 (Int32.toNatClampNeg v6)) &&& 31))) v4 v5 (v6 + 1) _ _ _ hP hD hS (lv_sub hl [2, 3, 1, 4, 5, 0] rfl) h
def f_X2_firstComeTo_b9 (x : PD) : Nat → Int32 → Int32 → Int32 → Int32 → Option (Int32)
  | 0, _, _, _, _ => none
  | n + 1, v1, v2, v3, v4 =>
    if (rI x 37) ≤ v4 then
  ((f_X2_firstComeTo_b90 x FU v1 v2 ((0 : Int32))))
  else
  if v3 = 0 then
  ((f_X2_firstComeTo_b90 x FU v1 v2 ((0 : Int32))))
  else
  (f_X2_firstComeTo_b28 x (f_X2_firstComeTo_b9 x n) FU v1 v2 v4 v2 ((0 : Int32)))
set_option maxHeartbeats 4000000 in
set_option maxRecDepth 100000 in
theorem w_X2_firstComeTo_b9 {p : Program} {l : Launch} {e : Env} {s : State} {m : MethodId} {args : Array Value} {below : List Frame} {meth : Method} {c : Code} {D : va_G} {y : CY} {a : Nat → Nat} {A : Nat → Prop} {x : PD} {r : Int32} (X : mpX p s m args meth c cX2_firstComeTo 7 (some .int) RX2) (hK : va_K D vwCl (mpT y) s) (hA : ∀ q, s.heap.size ≤ q → A q) : ∀ (n : Nat), ∀ (v1 : Int32) (v2 : Int32) (v3 : Int32) (v4 : Int32) (H : Heap) (locs : List Loc) (ls : Array Slot), va_P D vwCl (pw y a x) H → va_D A (pw y a x) → va_S A s.heap H locs → lv_has ls 7 [(0, .ref (a 1)), (1, .int v1), (2, .int v2), (3, .int v3), (4, .int v4)] → f_X2_firstComeTo_b9 x n v1 v2 v3 v4 = some r → W p l e { frames := 0, cells := 0, slots := 0, locals := 0 } s m args below meth c H locs 0 0 (MQ below (mpC D y A (pw y a x) (some (.int r))) args s 0 0 A) (F0 m 9 ls []) := by
  obtain ⟨⟨hx, hb, hml, hown, hts⟩, hr, hlk⟩ := id X
  intro n
  induction n with
  | zero =>
    intro v1 v2 v3 v4 H locs ls hP hD hS hl h
    rw [f_X2_firstComeTo_b9] at h
    exact nons h
  | succ n ih =>
    intro v1 v2 v3 v4 H locs ls hP hD hS hl h
    rw [f_X2_firstComeTo_b9] at h
    refine lv_iload hx hb dX2_firstComeTo_9 (lv_at hl 4 rfl) ?_
    refine lv_aload_n hx hb dX2_firstComeTo_11 rfl (lv_at hl 0 rfl) ?_
    refine pwG_1_5 X hK hP mF_X2_42 dX2_firstComeTo_12 ?_
    refine lv_icmp_ge (tgt := 87) hx hb dX2_firstComeTo_15 (by decide) (fun hc => ?_) (fun hc => ?_)
    · replace h := ift hc h
      refine lv_iconst (v := 0) hx hb dX2_firstComeTo_87 (by decide) ?_
      refine lv_istore (lv' := [(4, .int ((0 : Int32))), (0, .ref (a 1)), (1, .int v1), (2, .int v2), (3, .int v3)]) hx hb dX2_firstComeTo_88 hl (by decide) rfl (fun ls hl => ?_)
      exact w_X2_firstComeTo_b90 X hK hA FU v1 v2 ((0 : Int32)) _ _ _ hP hD hS (lv_sub hl [2, 3, 0] rfl) h
    · replace h := iff_ hc h
      refine lv_iload_n hx hb dX2_firstComeTo_18 rfl (lv_at hl 3 rfl) ?_
      refine lv_if_eq (tgt := 87) hx hb dX2_firstComeTo_19 (by decide) (fun hc => ?_) (fun hc => ?_)
      · replace h := ift hc h
        refine lv_iconst (v := 0) hx hb dX2_firstComeTo_87 (by decide) ?_
        refine lv_istore (lv' := [(4, .int ((0 : Int32))), (0, .ref (a 1)), (1, .int v1), (2, .int v2), (3, .int v3)]) hx hb dX2_firstComeTo_88 hl (by decide) rfl (fun ls hl => ?_)
        exact w_X2_firstComeTo_b90 X hK hA FU v1 v2 ((0 : Int32)) _ _ _ hP hD hS (lv_sub hl [2, 3, 0] rfl) h
      · replace h := iff_ hc h
        refine lv_iload_n hx hb dX2_firstComeTo_22 rfl (lv_at hl 2 rfl) ?_
        refine lv_istore (lv' := [(5, .int v2), (0, .ref (a 1)), (1, .int v1), (2, .int v2), (3, .int v3), (4, .int v4)]) hx hb dX2_firstComeTo_23 hl (by decide) rfl (fun ls hl => ?_)
        refine lv_iconst (v := 0) hx hb dX2_firstComeTo_25 (by decide) ?_
        refine lv_istore (lv' := [(6, .int ((0 : Int32))), (5, .int v2), (0, .ref (a 1)), (1, .int v1), (2, .int v2), (3, .int v3), (4, .int v4)]) hx hb dX2_firstComeTo_26 hl (by decide) rfl (fun ls hl => ?_)
        exact w_X2_firstComeTo_b28 X hK hA ih FU v1 v2 v4 v2 ((0 : Int32)) _ _ _ hP hD hS (lv_sub hl [2, 3, 4, 6, 1, 0] rfl) h
def f_X2_firstComeTo (x : PD) (p1 : Int32) : Option (Int32) :=
  (f_X2_firstComeTo_b9 x FU p1 (((1 : Int32)) <<< (p1 &&& 31)) ((1 : Int32)) ((0 : Int32)))
set_option maxHeartbeats 4000000 in
set_option maxRecDepth 100000 in
theorem c_X2_firstComeTo (l : Launch) (D : va_G) (y : CY) (a : Nat → Nat) {x : PD} {r : Int32} {p1 : Int32} (h : f_X2_firstComeTo x p1 = some r) : mpM l D y yX2_firstComeTo cX2_firstComeTo 7 (some .int) { frames := 0, cells := 0, slots := 0, locals := 0 } (pw y a x) (pw y a x) [.ref (a 1), .int p1] (some (.int r)) := by
  refine mpM.mk (own := RX2) (by decide) rfl (Nat.le_of_ble_eq_true rfl) ?_
  intro p e s m below meth c A ls X hK hA hP hD hl
  have hS : va_S A s.heap s.heap [] := va_S.rf
  obtain ⟨⟨hx, hb, hml, hown, hts⟩, hr, hlk⟩ := id X
  have hl : lv_has ls 7 [(0, .ref (a 1)), (1, .int p1)] := hl
  unfold f_X2_firstComeTo at h
  refine lv_iconst (v := 1) hx hb dX2_firstComeTo_0 (by decide) ?_
  refine lv_iload_n hx hb dX2_firstComeTo_1 rfl (lv_at hl 1 rfl) ?_
  refine lv_ishl hx hb dX2_firstComeTo_2 ?_
  refine lv_istore_n (lv' := [(2, .int (((1 : Int32)) <<< (p1 &&& 31))), (0, .ref (a 1)), (1, .int p1)]) hx hb dX2_firstComeTo_3 rfl hl (by decide) rfl (fun ls hl => ?_)
  refine lv_iconst (v := 1) hx hb dX2_firstComeTo_4 (by decide) ?_
  refine lv_istore_n (lv' := [(3, .int ((1 : Int32))), (2, .int (((1 : Int32)) <<< (p1 &&& 31))), (0, .ref (a 1)), (1, .int p1)]) hx hb dX2_firstComeTo_5 rfl hl (by decide) rfl (fun ls hl => ?_)
  refine lv_iconst (v := 0) hx hb dX2_firstComeTo_6 (by decide) ?_
  refine lv_istore (lv' := [(4, .int ((0 : Int32))), (3, .int ((1 : Int32))), (2, .int (((1 : Int32)) <<< (p1 &&& 31))), (0, .ref (a 1)), (1, .int p1)]) hx hb dX2_firstComeTo_7 hl (by decide) rfl (fun ls hl => ?_)
  exact w_X2_firstComeTo_b9 X hK hA FU p1 (((1 : Int32)) <<< (p1 &&& 31)) ((1 : Int32)) ((0 : Int32)) _ _ _ hP hD hS (lv_sub hl [3, 4, 2, 1, 0] rfl) h
def f_X5_lacks (x : PD) (p1 : Int32) (p2 : Int32) : Option (Int32 × PD) :=
  bn1 (f_X5_checkPlayable x p1) fun _u =>
  bn1 (f_X5_checkMood x p2) fun _u =>
  bn1 (f_X4_fill_37_1 x p2 ((0 : Int32)) ((1 : Int32))) fun x1 =>
  bn1 (f_X2_firstWithMood x1 p2) fun r2 =>
  gd (inR p1 20) (if (lg_cmp (rB x1 38 (Int32.toNatClampNeg p1)) ((-1 : Int64))) = 0 then
  (if r2 = ((-1 : Int32)) then
  some ((-1 : Int32), x1)
  else
  bn1 (f_X2_firstComeTo x1 p1) fun r3 =>
  some ((((100 : Int32)) * r3) + r2, x1))
  else
  some ((-1 : Int32), x1))
set_option maxHeartbeats 4000000 in
set_option maxRecDepth 100000 in
theorem c_X5_lacks (l : Launch) (D : va_G) (y : CY) (a : Nat → Nat) {x : PD} {x' : PD} {r : Int32} {p1 : Int32} {p2 : Int32} (h : f_X5_lacks x p1 p2 = some (r, x')) : mpM l D y yX5_lacks cX5_lacks 4 (some .int) { frames := 3, cells := 0, slots := 0, locals := 80 } (pw y a x) (pw y a x') [.ref (a 0), .int p1, .int p2] (some (.int r)) := by
  refine mpM.mk (own := RX5) (by decide) rfl (Nat.le_of_ble_eq_true rfl) ?_
  intro p e s m below meth c A ls X hK hA hP hD hl
  have hS : va_S A s.heap s.heap [] := va_S.rf
  obtain ⟨⟨hx, hb, hml, hown, hts⟩, hr, hlk⟩ := id X
  have hl : lv_has ls 4 [(0, .ref (a 0)), (1, .int p1), (2, .int p2)] := hl
  unfold f_X5_lacks at h
  refine lv_aload_n hx hb dX5_lacks_0 rfl (lv_at hl 0 rfl) ?_
  refine lv_iload_n hx hb dX5_lacks_1 rfl (lv_at hl 1 rfl) ?_
  obtain ⟨u0, hr0, h⟩ := bn1_elim h
  refine mp_callv (As := [.int p1]) (rest := []) X (c_X5_checkPlayable l D y a hr0) (mp_cw (k := 1) hts mM_X5_126 mI_X5_checkPlayable mS_X5_checkPlayable mN_X5 mC_X5_checkPlayable rfl rfl (by decide +kernel) ⟨Nat.le_of_ble_eq_true rfl, Nat.le_of_ble_eq_true rfl⟩) hK hP hD hS hA 0 pwC_0 rfl rfl hl.1 rfl (Nat.le_of_ble_eq_true rfl) dX5_lacks_2 ⟨Nat.zero_le _, Nat.zero_le _⟩ (fun H locs hP hD hS => ?_)
  refine lv_aload_n hx hb dX5_lacks_5 rfl (lv_at hl 0 rfl) ?_
  refine lv_iload_n hx hb dX5_lacks_6 rfl (lv_at hl 2 rfl) ?_
  obtain ⟨u0, hr0, h⟩ := bn1_elim h
  refine mp_callv (As := [.int p2]) (rest := []) X (c_X5_checkMood l D y a hr0) (mp_cw (k := 1) hts mM_X5_92 mI_X5_checkMood mS_X5_checkMood mN_X5 mC_X5_checkMood rfl rfl (by decide +kernel) ⟨Nat.le_of_ble_eq_true rfl, Nat.le_of_ble_eq_true rfl⟩) hK hP hD hS hA 0 pwC_0 rfl rfl hl.1 rfl (Nat.le_of_ble_eq_true rfl) dX5_lacks_7 ⟨Nat.zero_le _, Nat.zero_le _⟩ (fun H locs hP hD hS => ?_)
  refine lv_aload_n hx hb dX5_lacks_10 rfl (lv_at hl 0 rfl) ?_
  refine pwG_0_4 X hK hP mF_X5_39 dX5_lacks_11 ?_
  refine lv_aload_n hx hb dX5_lacks_14 rfl (lv_at hl 0 rfl) ?_
  refine pwG_0_0 X hK hP mF_X5_12 dX5_lacks_15 ?_
  refine lv_iload_n hx hb dX5_lacks_18 rfl (lv_at hl 2 rfl) ?_
  refine lv_iconst (v := 0) hx hb dX5_lacks_19 (by decide) ?_
  refine lv_iconst (v := 1) hx hb dX5_lacks_20 (by decide) ?_
  obtain ⟨x1, hr0, h⟩ := bn1_elim h
  refine mp_callv (As := [.ref (a 1), .int p2, .int ((0 : Int32)), .int ((1 : Int32))]) (rest := []) X (c_X4_fill_37_1 l D y a hr0) (mp_cw (k := 4) hts mM_X5_129 mI_X4_fill mS_X4_fill mN_X4 mC_X4_fill rfl rfl (by decide +kernel) ⟨Nat.le_of_ble_eq_true rfl, Nat.le_of_ble_eq_true rfl⟩) hK hP hD hS hA 37 pwC_37 rfl rfl hl.1 rfl (Nat.le_of_ble_eq_true rfl) dX5_lacks_21 ⟨Nat.zero_le _, Nat.zero_le _⟩ (fun H locs hP hD hS => ?_)
  refine lv_aload_n hx hb dX5_lacks_24 rfl (lv_at hl 0 rfl) ?_
  refine pwG_0_0 X hK hP mF_X5_12 dX5_lacks_25 ?_
  refine lv_iload_n hx hb dX5_lacks_28 rfl (lv_at hl 2 rfl) ?_
  obtain ⟨r2, hr0, h⟩ := bn1_elim h
  refine mp_call1 (As := [.int p2]) (rest := []) X (c_X2_firstWithMood l D y a hr0) (mp_cw (k := 1) hts mM_X5_137 mI_X2_firstWithMood mS_X2_firstWithMood mN_X2 mC_X2_firstWithMood rfl rfl (by decide +kernel) ⟨Nat.le_of_ble_eq_true rfl, Nat.le_of_ble_eq_true rfl⟩) hK hP hD hS hA 1 pwC_1 rfl rfl hl.1 rfl (Nat.le_of_ble_eq_true rfl) dX5_lacks_29 ⟨Nat.zero_le _, Nat.zero_le _⟩ (fun H locs hP hD hS => ?_)
  refine lv_istore_n (lv' := [(3, .int r2), (0, .ref (a 0)), (1, .int p1), (2, .int p2)]) hx hb dX5_lacks_32 rfl hl (by decide) rfl (fun ls hl => ?_)
  refine lv_aload_n hx hb dX5_lacks_33 rfl (lv_at hl 1 rfl) ?_
  refine pwG_0_4 X hK hP mF_X5_39 dX5_lacks_34 ?_
  refine pwG_37_0 X hK hP mF_X5_133 dX5_lacks_37 ?_
  refine lv_iload_n hx hb dX5_lacks_40 rfl (lv_at hl 2 rfl) ?_
  obtain ⟨hg, h⟩ := gd_elim h
  refine pwL_38 X hK hP hg dX5_lacks_41 ?_
  refine lv_ldc2 (v := (-1)) hx hb hown (hts _ mK_X5_140) dX5_lacks_42 ?_
  refine W.lcmp hx hb dX5_lacks_45 ?_
  refine lv_if_ne (tgt := 54) hx hb dX5_lacks_46 (by decide) (fun hc => ?_) (fun hc => ?_)
  · replace h := iff_ hc h
    refine lv_iconst (v := -1) hx hb dX5_lacks_54 (by decide) ?_
    cases h
    exact mpr_i X hK hP hD hS rfl dX5_lacks_55
  · replace h := ift hc h
    refine lv_iload_n hx hb dX5_lacks_49 rfl (lv_at hl 0 rfl) ?_
    refine lv_iconst (v := -1) hx hb dX5_lacks_50 (by decide) ?_
    refine lv_icmp_ne (tgt := 56) hx hb dX5_lacks_51 (by decide) (fun hc => ?_) (fun hc => ?_)
    · replace h := iff_ hc h
      refine lv_bipush (v := 100) hx hb dX5_lacks_56 (by decide) ?_
      refine lv_aload_n hx hb dX5_lacks_58 rfl (lv_at hl 1 rfl) ?_
      refine pwG_0_0 X hK hP mF_X5_12 dX5_lacks_59 ?_
      refine lv_iload_n hx hb dX5_lacks_62 rfl (lv_at hl 2 rfl) ?_
      obtain ⟨r3, hr0, h⟩ := bn1_elim h
      refine mp_call1 (As := [.int p1]) (rest := [.int ((100 : Int32))]) X (c_X2_firstComeTo l D y a hr0) (mp_cw (k := 1) hts mM_X5_142 mI_X2_firstComeTo mS_X2_firstComeTo mN_X2 mC_X2_firstComeTo rfl rfl (by decide +kernel) ⟨Nat.le_of_ble_eq_true rfl, Nat.le_of_ble_eq_true rfl⟩) hK hP hD hS hA 1 pwC_1 rfl rfl hl.1 rfl (Nat.le_of_ble_eq_true rfl) dX5_lacks_63 ⟨Nat.zero_le _, Nat.zero_le _⟩ (fun H locs hP hD hS => ?_)
      refine lv_imul hx hb dX5_lacks_66 ?_
      refine lv_iload_n hx hb dX5_lacks_67 rfl (lv_at hl 0 rfl) ?_
      refine lv_iadd hx hb dX5_lacks_68 ?_
      cases h
      exact mpr_i X hK hP hD hS rfl dX5_lacks_69
    · replace h := ift hc h
      refine lv_iconst (v := -1) hx hb dX5_lacks_54 (by decide) ?_
      cases h
      exact mpr_i X hK hP hD hS rfl dX5_lacks_55
def f_X5_layer (x : PD) (p1 : Int32) (p2 : Int32) : Option (Int32 × PD) :=
  bn1 (f_X5_checkPiece x p1) fun _u =>
  gd (inR p1 20) (if (rA x 2 (Int32.toNatClampNeg p1)) = ((2 : Int32)) then
  (if p2 < 0 then
  (some ((-1 : Int32), x))
  else
  if p2 ≤ ((8 : Int32)) then
  (gd (inR p1 20) (gd (inR p1 20) (letv (wA x 13 (upd (rA x 13) (Int32.toNatClampNeg p1) p2)) fun x1 =>
  some (rA x 13 (Int32.toNatClampNeg p1), x1))))
  else
  some ((-1 : Int32), x))
  else
  some ((-1 : Int32), x))
set_option maxHeartbeats 4000000 in
set_option maxRecDepth 100000 in
theorem c_X5_layer (l : Launch) (D : va_G) (y : CY) (a : Nat → Nat) {x : PD} {x' : PD} {r : Int32} {p1 : Int32} {p2 : Int32} (h : f_X5_layer x p1 p2 = some (r, x')) : mpM l D y yX5_layer cX5_layer 4 (some .int) { frames := 2, cells := 0, slots := 0, locals := 42 } (pw y a x) (pw y a x') [.ref (a 0), .int p1, .int p2] (some (.int r)) := by
  refine mpM.mk (own := RX5) (by decide) rfl (Nat.le_of_ble_eq_true rfl) ?_
  intro p e s m below meth c A ls X hK hA hP hD hl
  have hS : va_S A s.heap s.heap [] := va_S.rf
  obtain ⟨⟨hx, hb, hml, hown, hts⟩, hr, hlk⟩ := id X
  have hl : lv_has ls 4 [(0, .ref (a 0)), (1, .int p1), (2, .int p2)] := hl
  unfold f_X5_layer at h
  refine lv_aload_n hx hb dX5_layer_0 rfl (lv_at hl 0 rfl) ?_
  refine lv_iload_n hx hb dX5_layer_1 rfl (lv_at hl 1 rfl) ?_
  obtain ⟨u0, hr0, h⟩ := bn1_elim h
  refine mp_callv (As := [.int p1]) (rest := []) X (c_X5_checkPiece l D y a hr0) (mp_cw (k := 1) hts mM_X5_59 mI_X5_checkPiece mS_X5_checkPiece mN_X5 mC_X5_checkPiece rfl rfl (by decide +kernel) ⟨Nat.le_of_ble_eq_true rfl, Nat.le_of_ble_eq_true rfl⟩) hK hP hD hS hA 0 pwC_0 rfl rfl hl.1 rfl (Nat.le_of_ble_eq_true rfl) dX5_layer_2 ⟨Nat.zero_le _, Nat.zero_le _⟩ (fun H locs hP hD hS => ?_)
  refine lv_aload_n hx hb dX5_layer_5 rfl (lv_at hl 0 rfl) ?_
  refine pwG_0_0 X hK hP mF_X5_12 dX5_layer_6 ?_
  refine pwG_1_0 X hK hP mF_X5_145 dX5_layer_9 ?_
  refine lv_iload_n hx hb dX5_layer_12 rfl (lv_at hl 1 rfl) ?_
  obtain ⟨hg, h⟩ := gd_elim h
  refine pwL_2 X hK hP hg dX5_layer_13 ?_
  refine lv_iconst (v := 2) hx hb dX5_layer_14 (by decide) ?_
  refine lv_icmp_ne (tgt := 28) hx hb dX5_layer_15 (by decide) (fun hc => ?_) (fun hc => ?_)
  · replace h := iff_ hc h
    refine lv_iconst (v := -1) hx hb dX5_layer_28 (by decide) ?_
    cases h
    exact mpr_i X hK hP hD hS rfl dX5_layer_29
  · replace h := ift hc h
    refine lv_iload_n hx hb dX5_layer_18 rfl (lv_at hl 2 rfl) ?_
    refine lv_if_lt (tgt := 28) hx hb dX5_layer_19 (by decide) (fun hc => ?_) (fun hc => ?_)
    · replace h := ift hc h
      refine lv_iconst (v := -1) hx hb dX5_layer_28 (by decide) ?_
      cases h
      exact mpr_i X hK hP hD hS rfl dX5_layer_29
    · replace h := iff_ hc h
      refine lv_iload_n hx hb dX5_layer_22 rfl (lv_at hl 2 rfl) ?_
      refine lv_bipush (v := 8) hx hb dX5_layer_23 (by decide) ?_
      refine lv_icmp_le (tgt := 30) hx hb dX5_layer_25 (by decide) (fun hc => ?_) (fun hc => ?_)
      · replace h := ift hc h
        refine lv_aload_n hx hb dX5_layer_30 rfl (lv_at hl 0 rfl) ?_
        refine pwG_0_1 X hK hP mF_X5_19 dX5_layer_31 ?_
        refine pwG_12_7 X hK hP mF_X5_148 dX5_layer_34 ?_
        refine lv_iload_n hx hb dX5_layer_37 rfl (lv_at hl 1 rfl) ?_
        obtain ⟨hg, h⟩ := gd_elim h
        refine pwL_13 X hK hP hg dX5_layer_38 ?_
        refine lv_istore_n (lv' := [(3, .int (rA x 13 (Int32.toNatClampNeg p1))), (0, .ref (a 0)), (1, .int p1), (2, .int p2)]) hx hb dX5_layer_39 rfl hl (by decide) rfl (fun ls hl => ?_)
        refine lv_aload_n hx hb dX5_layer_40 rfl (lv_at hl 1 rfl) ?_
        refine pwG_0_1 X hK hP mF_X5_19 dX5_layer_41 ?_
        refine pwG_12_7 X hK hP mF_X5_148 dX5_layer_44 ?_
        refine lv_iload_n hx hb dX5_layer_47 rfl (lv_at hl 2 rfl) ?_
        refine lv_iload_n hx hb dX5_layer_48 rfl (lv_at hl 3 rfl) ?_
        obtain ⟨hg, h⟩ := gd_elim h
        obtain ⟨x1, e1, h⟩ := letv_elim h
        refine pwS_13 X hK hP hD hS hg e1 dX5_layer_49 (fun H locs hP hD hS => ?_)
        refine lv_iload_n hx hb dX5_layer_50 rfl (lv_at hl 0 rfl) ?_
        cases h
        exact mpr_i X hK hP hD hS rfl dX5_layer_51
      · replace h := iff_ hc h
        refine lv_iconst (v := -1) hx hb dX5_layer_28 (by decide) ?_
        cases h
        exact mpr_i X hK hP hD hS rfl dX5_layer_29
def f_X5_sting (x : PD) (p1 : Int32) : Option (Int32 × PD) :=
  bn1 (f_X5_checkPiece x p1) fun _u =>
  gd (inR p1 20) (if (rA x 2 (Int32.toNatClampNeg p1)) = ((3 : Int32)) then
  (if (rI x 394) < ((4 : Int32)) then
  (gd (inR (rI x 394) 4) (letv (wA x 15 (upd (rA x 15) (Int32.toNatClampNeg (rI x 394)) p1)) fun x1 =>
  letv (wI x1 394 ((rI x1 394) + ((1 : Int32)))) fun x2 =>
  some (rI x2 394, x2)))
  else
  some ((-1 : Int32), x))
  else
  some ((-1 : Int32), x))
set_option maxHeartbeats 4000000 in
set_option maxRecDepth 100000 in
theorem c_X5_sting (l : Launch) (D : va_G) (y : CY) (a : Nat → Nat) {x : PD} {x' : PD} {r : Int32} {p1 : Int32} (h : f_X5_sting x p1 = some (r, x')) : mpM l D y yX5_sting cX5_sting 2 (some .int) { frames := 2, cells := 0, slots := 0, locals := 42 } (pw y a x) (pw y a x') [.ref (a 0), .int p1] (some (.int r)) := by
  refine mpM.mk (own := RX5) (by decide) rfl (Nat.le_of_ble_eq_true rfl) ?_
  intro p e s m below meth c A ls X hK hA hP hD hl
  have hS : va_S A s.heap s.heap [] := va_S.rf
  obtain ⟨⟨hx, hb, hml, hown, hts⟩, hr, hlk⟩ := id X
  have hl : lv_has ls 2 [(0, .ref (a 0)), (1, .int p1)] := hl
  unfold f_X5_sting at h
  refine lv_aload_n hx hb dX5_sting_0 rfl (lv_at hl 0 rfl) ?_
  refine lv_iload_n hx hb dX5_sting_1 rfl (lv_at hl 1 rfl) ?_
  obtain ⟨u0, hr0, h⟩ := bn1_elim h
  refine mp_callv (As := [.int p1]) (rest := []) X (c_X5_checkPiece l D y a hr0) (mp_cw (k := 1) hts mM_X5_59 mI_X5_checkPiece mS_X5_checkPiece mN_X5 mC_X5_checkPiece rfl rfl (by decide +kernel) ⟨Nat.le_of_ble_eq_true rfl, Nat.le_of_ble_eq_true rfl⟩) hK hP hD hS hA 0 pwC_0 rfl rfl hl.1 rfl (Nat.le_of_ble_eq_true rfl) dX5_sting_2 ⟨Nat.zero_le _, Nat.zero_le _⟩ (fun H locs hP hD hS => ?_)
  refine lv_aload_n hx hb dX5_sting_5 rfl (lv_at hl 0 rfl) ?_
  refine pwG_0_0 X hK hP mF_X5_12 dX5_sting_6 ?_
  refine pwG_1_0 X hK hP mF_X5_145 dX5_sting_9 ?_
  refine lv_iload_n hx hb dX5_sting_12 rfl (lv_at hl 1 rfl) ?_
  obtain ⟨hg, h⟩ := gd_elim h
  refine pwL_2 X hK hP hg dX5_sting_13 ?_
  refine lv_iconst (v := 3) hx hb dX5_sting_14 (by decide) ?_
  refine lv_icmp_ne (tgt := 29) hx hb dX5_sting_15 (by decide) (fun hc => ?_) (fun hc => ?_)
  · replace h := iff_ hc h
    refine lv_iconst (v := -1) hx hb dX5_sting_29 (by decide) ?_
    cases h
    exact mpr_i X hK hP hD hS rfl dX5_sting_30
  · replace h := ift hc h
    refine lv_aload_n hx hb dX5_sting_18 rfl (lv_at hl 0 rfl) ?_
    refine pwG_0_1 X hK hP mF_X5_19 dX5_sting_19 ?_
    refine pwG_12_10 X hK hP mF_X5_151 dX5_sting_22 ?_
    refine lv_iconst (v := 4) hx hb dX5_sting_25 (by decide) ?_
    refine lv_icmp_lt (tgt := 31) hx hb dX5_sting_26 (by decide) (fun hc => ?_) (fun hc => ?_)
    · replace h := ift hc h
      refine lv_aload_n hx hb dX5_sting_31 rfl (lv_at hl 0 rfl) ?_
      refine pwG_0_1 X hK hP mF_X5_19 dX5_sting_32 ?_
      refine pwG_12_9 X hK hP mF_X5_154 dX5_sting_35 ?_
      refine lv_aload_n hx hb dX5_sting_38 rfl (lv_at hl 0 rfl) ?_
      refine pwG_0_1 X hK hP mF_X5_19 dX5_sting_39 ?_
      refine pwG_12_10 X hK hP mF_X5_151 dX5_sting_42 ?_
      refine lv_iload_n hx hb dX5_sting_45 rfl (lv_at hl 1 rfl) ?_
      obtain ⟨hg, h⟩ := gd_elim h
      obtain ⟨x1, e1, h⟩ := letv_elim h
      refine pwS_15 X hK hP hD hS hg e1 dX5_sting_46 (fun H locs hP hD hS => ?_)
      refine lv_aload_n hx hb dX5_sting_47 rfl (lv_at hl 0 rfl) ?_
      refine pwG_0_1 X hK hP mF_X5_19 dX5_sting_48 ?_
      refine lv_dup hx hb dX5_sting_51 rfl ?_
      refine pwG_12_10 X hK hP mF_X5_151 dX5_sting_52 ?_
      refine lv_iconst (v := 1) hx hb dX5_sting_55 (by decide) ?_
      refine lv_iadd hx hb dX5_sting_56 ?_
      obtain ⟨x2, e1, h⟩ := letv_elim h
      refine pwP_12_10 X hK hP hD hS mF_X5_151 e1 dX5_sting_57 (fun H locs hP hD hS => ?_)
      refine lv_aload_n hx hb dX5_sting_60 rfl (lv_at hl 0 rfl) ?_
      refine pwG_0_1 X hK hP mF_X5_19 dX5_sting_61 ?_
      refine pwG_12_10 X hK hP mF_X5_151 dX5_sting_64 ?_
      cases h
      exact mpr_i X hK hP hD hS rfl dX5_sting_67
    · replace h := iff_ hc h
      refine lv_iconst (v := -1) hx hb dX5_sting_29 (by decide) ?_
      cases h
      exact mpr_i X hK hP hD hS rfl dX5_sting_30
def f_X5_beatEnd (x : PD) : Option (Int64) :=
  gd (inR (rI x 386) 20) (some ((rL x 389) + (Int32.toInt64 (rA x 4 (Int32.toNatClampNeg (rI x 386))))))
set_option maxHeartbeats 4000000 in
set_option maxRecDepth 100000 in
theorem c_X5_beatEnd (l : Launch) (D : va_G) (y : CY) (a : Nat → Nat) {x : PD} {r : Int64} (h : f_X5_beatEnd x = some r) : mpM l D y yX5_beatEnd cX5_beatEnd 1 (some .long) { frames := 0, cells := 0, slots := 0, locals := 0 } (pw y a x) (pw y a x) [.ref (a 0)] (some (.long r)) := by
  refine mpM.mk (own := RX5) (by decide) rfl (Nat.le_of_ble_eq_true rfl) ?_
  intro p e s m below meth c A ls X hK hA hP hD hl
  have hS : va_S A s.heap s.heap [] := va_S.rf
  obtain ⟨⟨hx, hb, hml, hown, hts⟩, hr, hlk⟩ := id X
  have hl : lv_has ls 1 [(0, .ref (a 0))] := hl
  unfold f_X5_beatEnd at h
  refine lv_aload_n hx hb dX5_beatEnd_0 rfl (lv_at hl 0 rfl) ?_
  refine pwG_0_1 X hK hP mF_X5_19 dX5_beatEnd_1 ?_
  refine pwG_12_5 X hK hP mF_X5_238 dX5_beatEnd_4 ?_
  refine lv_aload_n hx hb dX5_beatEnd_7 rfl (lv_at hl 0 rfl) ?_
  refine pwG_0_0 X hK hP mF_X5_12 dX5_beatEnd_8 ?_
  refine pwG_1_2 X hK hP mF_X5_241 dX5_beatEnd_11 ?_
  refine lv_aload_n hx hb dX5_beatEnd_14 rfl (lv_at hl 0 rfl) ?_
  refine pwG_0_1 X hK hP mF_X5_19 dX5_beatEnd_15 ?_
  refine pwG_12_2 X hK hP mF_X5_175 dX5_beatEnd_18 ?_
  obtain ⟨hg, h⟩ := gd_elim h
  refine pwL_4 X hK hP hg dX5_beatEnd_21 ?_
  refine lv_i2l (v := Int32.toInt64 (rA x 4 (Int32.toNatClampNeg (rI x 386)))) hx hb dX5_beatEnd_22 rfl ?_
  refine lv_ladd hx hb dX5_beatEnd_23 ?_
  cases h
  exact mpr_l X hK hP hD hS rfl dX5_beatEnd_24
def f_X5_nextMoment_b20 (x : PD) (v1 : Int64) : Option (Int64) :=
  if (rI x 395) = ((-1 : Int32)) then
  (some v1)
  else
  some (if (rL x 396) < v1 then (rL x 396) else v1)
set_option maxHeartbeats 4000000 in
set_option maxRecDepth 100000 in
theorem w_X5_nextMoment_b20 {p : Program} {l : Launch} {e : Env} {s : State} {m : MethodId} {args : Array Value} {below : List Frame} {meth : Method} {c : Code} {D : va_G} {y : CY} {a : Nat → Nat} {A : Nat → Prop} {x : PD} {r : Int64} (X : mpX p s m args meth c cX5_nextMoment 3 (some .long) RX5) (hK : va_K D vwCl (mpT y) s) (hA : ∀ q, s.heap.size ≤ q → A q) : ∀ (v1 : Int64) (H : Heap) (locs : List Loc) (ls : Array Slot), va_P D vwCl (pw y a x) H → va_D A (pw y a x) → va_S A s.heap H locs → lv_has ls 3 [(0, .ref (a 0)), (1, .long v1)] → f_X5_nextMoment_b20 x v1 = some r → W p l e { frames := 1, cells := 0, slots := 0, locals := 23 } s m args below meth c H locs 0 0 (MQ below (mpC D y A (pw y a x) (some (.long r))) args s 0 0 A) (F0 m 20 ls []) := by
  obtain ⟨⟨hx, hb, hml, hown, hts⟩, hr, hlk⟩ := id X
  intro v1 H locs ls hP hD hS hl h
  unfold f_X5_nextMoment_b20 at h
  refine lv_aload_n hx hb dX5_nextMoment_20 rfl (lv_at hl 0 rfl) ?_
  refine pwG_0_1 X hK hP mF_X5_19 dX5_nextMoment_21 ?_
  refine pwG_12_11 X hK hP mF_X5_166 dX5_nextMoment_24 ?_
  refine lv_iconst (v := -1) hx hb dX5_nextMoment_27 (by decide) ?_
  refine lv_icmp_eq (tgt := 43) hx hb dX5_nextMoment_28 (by decide) (fun hc => ?_) (fun hc => ?_)
  · replace h := ift hc h
    refine lv_lload_n hx hb dX5_nextMoment_43 rfl (lv_at hl 1 rfl) ?_
    cases h
    exact mpr_l X hK hP hD hS rfl dX5_nextMoment_44
  · replace h := iff_ hc h
    refine lv_lload_n hx hb dX5_nextMoment_31 rfl (lv_at hl 1 rfl) ?_
    refine lv_aload_n hx hb dX5_nextMoment_32 rfl (lv_at hl 0 rfl) ?_
    refine pwG_0_1 X hK hP mF_X5_19 dX5_nextMoment_33 ?_
    refine pwG_12_12 X hK hP mF_X5_169 dX5_nextMoment_36 ?_
    refine va_mmin_long hx hb (hml.trans hl.1.symm) hown (hts _ mM_X5_246) (hts _ mT_J9_min_f86c9) (hts _ mN_J9) (hts _ mC_J9_min_f86c9) (Nat.le_of_ble_eq_true rfl) (Nat.le_of_ble_eq_true rfl) (Nat.zero_le _) (Nat.zero_le _) dX5_nextMoment_39 ?_
    refine lv_lstore_n (lv' := [(1, .long (if (rL x 396) < v1 then (rL x 396) else v1)), (0, .ref (a 0))]) hx hb dX5_nextMoment_42 rfl hl (by decide) rfl (fun ls hl => ?_)
    refine lv_lload_n hx hb dX5_nextMoment_43 rfl (lv_at hl 0 rfl) ?_
    cases h
    exact mpr_l X hK hP hD hS rfl dX5_nextMoment_44
def f_X5_nextMoment (x : PD) : Option (Int64) :=
  if (rI x 386) = ((-1 : Int32)) then
  ((f_X5_nextMoment_b20 x ((4611686018427387904 : Int64))))
  else
  bn1 (f_X5_beatEnd x) fun r1 =>
  (f_X5_nextMoment_b20 x r1)
set_option maxHeartbeats 4000000 in
set_option maxRecDepth 100000 in
theorem c_X5_nextMoment (l : Launch) (D : va_G) (y : CY) (a : Nat → Nat) {x : PD} {r : Int64} (h : f_X5_nextMoment x = some r) : mpM l D y yX5_nextMoment cX5_nextMoment 3 (some .long) { frames := 1, cells := 0, slots := 0, locals := 23 } (pw y a x) (pw y a x) [.ref (a 0)] (some (.long r)) := by
  refine mpM.mk (own := RX5) (by decide) rfl (Nat.le_of_ble_eq_true rfl) ?_
  intro p e s m below meth c A ls X hK hA hP hD hl
  have hS : va_S A s.heap s.heap [] := va_S.rf
  obtain ⟨⟨hx, hb, hml, hown, hts⟩, hr, hlk⟩ := id X
  have hl : lv_has ls 3 [(0, .ref (a 0))] := hl
  unfold f_X5_nextMoment at h
  refine lv_ldc2 (v := 4611686018427387904) hx hb hown (hts _ mK_X5_244) dX5_nextMoment_0 ?_
  refine lv_lstore_n (lv' := [(1, .long ((4611686018427387904 : Int64))), (0, .ref (a 0))]) hx hb dX5_nextMoment_3 rfl hl (by decide) rfl (fun ls hl => ?_)
  refine lv_aload_n hx hb dX5_nextMoment_4 rfl (lv_at hl 1 rfl) ?_
  refine pwG_0_1 X hK hP mF_X5_19 dX5_nextMoment_5 ?_
  refine pwG_12_2 X hK hP mF_X5_175 dX5_nextMoment_8 ?_
  refine lv_iconst (v := -1) hx hb dX5_nextMoment_11 (by decide) ?_
  refine lv_icmp_eq (tgt := 20) hx hb dX5_nextMoment_12 (by decide) (fun hc => ?_) (fun hc => ?_)
  · replace h := ift hc h
    exact w_X5_nextMoment_b20 X hK hA ((4611686018427387904 : Int64)) _ _ _ hP hD hS (lv_sub hl [1, 0] rfl) h
  · replace h := iff_ hc h
    refine lv_aload_n hx hb dX5_nextMoment_15 rfl (lv_at hl 1 rfl) ?_
    obtain ⟨r1, hr0, h⟩ := bn1_elim h
    refine mp_call1 (As := []) (rest := []) X (c_X5_beatEnd l D y a hr0) (mp_cw (k := 0) hts mM_X5_178 mI_X5_beatEnd mS_X5_beatEnd mN_X5 mC_X5_beatEnd rfl rfl (by decide +kernel) ⟨Nat.le_of_ble_eq_true rfl, Nat.le_of_ble_eq_true rfl⟩) hK hP hD hS hA 0 pwC_0 rfl rfl hl.1 rfl (Nat.le_of_ble_eq_true rfl) dX5_nextMoment_16 ⟨Nat.zero_le _, Nat.zero_le _⟩ (fun H locs hP hD hS => ?_)
    refine lv_lstore_n (lv' := [(1, .long r1), (0, .ref (a 0))]) hx hb dX5_nextMoment_19 rfl hl (by decide) rfl (fun ls hl => ?_)
    exact w_X5_nextMoment_b20 X hK hA r1 _ _ _ hP hD hS (lv_sub hl [1, 0] rfl) h
def f_X5_isDue_b11 (x : PD) (v1 : Int32) (v2 : Int32) : Option (Int32) :=
  if v1 = ((100 : Int32)) then
  (if v2 = 0 then
  (some ((0 : Int32)))
  else
  some ((1 : Int32)))
  else
  some ((0 : Int32))
set_option maxHeartbeats 4000000 in
set_option maxRecDepth 100000 in
theorem w_X5_isDue_b11 {p : Program} {l : Launch} {e : Env} {s : State} {m : MethodId} {args : Array Value} {below : List Frame} {meth : Method} {c : Code} {D : va_G} {y : CY} {a : Nat → Nat} {A : Nat → Prop} {x : PD} {r : Int32} (X : mpX p s m args meth c cX5_isDue 3 (some .boolean) RX5) (hK : va_K D vwCl (mpT y) s) (hA : ∀ q, s.heap.size ≤ q → A q) : ∀ (v1 : Int32) (v2 : Int32) (H : Heap) (locs : List Loc) (ls : Array Slot), va_P D vwCl (pw y a x) H → va_D A (pw y a x) → va_S A s.heap H locs → lv_has ls 3 [(1, .int v1), (2, .int v2)] → f_X5_isDue_b11 x v1 v2 = some r → W p l e { frames := 0, cells := 0, slots := 0, locals := 0 } s m args below meth c H locs 0 0 (MQ below (mpC D y A (pw y a x) (some (.int r))) args s 0 0 A) (F0 m 11 ls []) := by
  obtain ⟨⟨hx, hb, hml, hown, hts⟩, hr, hlk⟩ := id X
  intro v1 v2 H locs ls hP hD hS hl h
  unfold f_X5_isDue_b11 at h
  refine lv_iload_n hx hb dX5_isDue_11 rfl (lv_at hl 0 rfl) ?_
  refine lv_bipush (v := 100) hx hb dX5_isDue_12 (by decide) ?_
  refine lv_icmp_ne (tgt := 25) hx hb dX5_isDue_14 (by decide) (fun hc => ?_) (fun hc => ?_)
  · replace h := iff_ hc h
    refine lv_iconst (v := 0) hx hb dX5_isDue_25 (by decide) ?_
    cases h
    exact mpr_z X hK hP hD hS rfl rfl dX5_isDue_26
  · replace h := ift hc h
    refine lv_iload_n hx hb dX5_isDue_17 rfl (lv_at hl 1 rfl) ?_
    refine lv_if_eq (tgt := 25) hx hb dX5_isDue_18 (by decide) (fun hc => ?_) (fun hc => ?_)
    · replace h := ift hc h
      refine lv_iconst (v := 0) hx hb dX5_isDue_25 (by decide) ?_
      cases h
      exact mpr_z X hK hP hD hS rfl rfl dX5_isDue_26
    · replace h := iff_ hc h
      refine lv_iconst (v := 1) hx hb dX5_isDue_21 (by decide) ?_
      refine lv_goto (tgt := 26) hx hb dX5_isDue_22 (by decide) ?_
      cases h
      exact mpr_z X hK hP hD hS rfl rfl dX5_isDue_26
def f_X5_isDue (x : PD) (p1 : Int32) (p2 : Int32) : Option (Int32) :=
  if p1 = ((-1 : Int32)) then
  ((f_X5_isDue_b11 x p1 p2))
  else
  if p1 = ((100 : Int32)) then
  (f_X5_isDue_b11 x p1 p2)
  else
  gd (inR p1 100) (if (rA x 8 (Int32.toNatClampNeg p1)) = (rI x 387) then
  some ((1 : Int32))
  else
  some ((0 : Int32)))
set_option maxHeartbeats 4000000 in
set_option maxRecDepth 100000 in
theorem c_X5_isDue (l : Launch) (D : va_G) (y : CY) (a : Nat → Nat) {x : PD} {r : Int32} {p1 : Int32} {p2 : Int32} (h : f_X5_isDue x p1 p2 = some r) : mpM l D y yX5_isDue cX5_isDue 3 (some .boolean) { frames := 0, cells := 0, slots := 0, locals := 0 } (pw y a x) (pw y a x) [.ref (a 0), .int p1, .int p2] (some (.int r)) := by
  refine mpM.mk (own := RX5) (by decide) rfl (Nat.le_of_ble_eq_true rfl) ?_
  intro p e s m below meth c A ls X hK hA hP hD hl
  have hS : va_S A s.heap s.heap [] := va_S.rf
  obtain ⟨⟨hx, hb, hml, hown, hts⟩, hr, hlk⟩ := id X
  have hl : lv_has ls 3 [(0, .ref (a 0)), (1, .int p1), (2, .int p2)] := hl
  unfold f_X5_isDue at h
  refine lv_iload_n hx hb dX5_isDue_0 rfl (lv_at hl 1 rfl) ?_
  refine lv_iconst (v := -1) hx hb dX5_isDue_1 (by decide) ?_
  refine lv_icmp_eq (tgt := 11) hx hb dX5_isDue_2 (by decide) (fun hc => ?_) (fun hc => ?_)
  · replace h := ift hc h
    exact w_X5_isDue_b11 X hK hA p1 p2 _ _ _ hP hD hS (lv_sub hl [1, 2] rfl) h
  · replace h := iff_ hc h
    refine lv_iload_n hx hb dX5_isDue_5 rfl (lv_at hl 1 rfl) ?_
    refine lv_bipush (v := 100) hx hb dX5_isDue_6 (by decide) ?_
    refine lv_icmp_ne (tgt := 27) hx hb dX5_isDue_8 (by decide) (fun hc => ?_) (fun hc => ?_)
    · replace h := iff_ hc h
      refine lv_aload_n hx hb dX5_isDue_27 rfl (lv_at hl 0 rfl) ?_
      refine pwG_0_0 X hK hP mF_X5_12 dX5_isDue_28 ?_
      refine pwG_1_7 X hK hP mF_X5_274 dX5_isDue_31 ?_
      refine lv_iload_n hx hb dX5_isDue_34 rfl (lv_at hl 1 rfl) ?_
      obtain ⟨hg, h⟩ := gd_elim h
      refine pwL_8 X hK hP hg dX5_isDue_35 ?_
      refine lv_aload_n hx hb dX5_isDue_36 rfl (lv_at hl 0 rfl) ?_
      refine pwG_0_1 X hK hP mF_X5_19 dX5_isDue_37 ?_
      refine pwG_12_3 X hK hP mF_X5_184 dX5_isDue_40 ?_
      refine lv_icmp_ne (tgt := 50) hx hb dX5_isDue_43 (by decide) (fun hc => ?_) (fun hc => ?_)
      · replace h := iff_ hc h
        refine lv_iconst (v := 0) hx hb dX5_isDue_50 (by decide) ?_
        cases h
        exact mpr_z X hK hP hD hS rfl rfl dX5_isDue_51
      · replace h := ift hc h
        refine lv_iconst (v := 1) hx hb dX5_isDue_46 (by decide) ?_
        refine lv_goto (tgt := 51) hx hb dX5_isDue_47 (by decide) ?_
        cases h
        exact mpr_z X hK hP hD hS rfl rfl dX5_isDue_51
    · replace h := ift hc h
      exact w_X5_isDue_b11 X hK hA p1 p2 _ _ _ hP hD hS (lv_sub hl [1, 2] rfl) h
def f_X3_levelsTogether_b4 (x : PD) : Nat → Int32 → Int32 → Option (Int32)
  | 0, _, _ => none
  | n + 1, v1, v2 =>
    if ((20 : Int32)) ≤ v2 then
  (some v1)
  else
  gd (inR v2 20) (((f_X3_levelsTogether_b4 x n) (v1 + (rA x 14 (Int32.toNatClampNeg v2))) (v2 + 1)))
set_option maxHeartbeats 4000000 in
set_option maxRecDepth 100000 in
theorem w_X3_levelsTogether_b4 {p : Program} {l : Launch} {e : Env} {s : State} {m : MethodId} {args : Array Value} {below : List Frame} {meth : Method} {c : Code} {D : va_G} {y : CY} {a : Nat → Nat} {A : Nat → Prop} {x : PD} {r : Int32} (X : mpX p s m args meth c cX3_levelsTogether 3 (some .int) RX3) (hK : va_K D vwCl (mpT y) s) (hA : ∀ q, s.heap.size ≤ q → A q) : ∀ (n : Nat), ∀ (v1 : Int32) (v2 : Int32) (H : Heap) (locs : List Loc) (ls : Array Slot), va_P D vwCl (pw y a x) H → va_D A (pw y a x) → va_S A s.heap H locs → lv_has ls 3 [(0, .ref (a 12)), (1, .int v1), (2, .int v2)] → f_X3_levelsTogether_b4 x n v1 v2 = some r → W p l e { frames := 0, cells := 0, slots := 0, locals := 0 } s m args below meth c H locs 0 0 (MQ below (mpC D y A (pw y a x) (some (.int r))) args s 0 0 A) (F0 m 4 ls []) := by
  obtain ⟨⟨hx, hb, hml, hown, hts⟩, hr, hlk⟩ := id X
  intro n
  induction n with
  | zero =>
    intro v1 v2 H locs ls hP hD hS hl h
    rw [f_X3_levelsTogether_b4] at h
    exact nons h
  | succ n ih =>
    intro v1 v2 H locs ls hP hD hS hl h
    rw [f_X3_levelsTogether_b4] at h
    refine lv_iload_n hx hb dX3_levelsTogether_4 rfl (lv_at hl 2 rfl) ?_
    refine lv_bipush (v := 20) hx hb dX3_levelsTogether_5 (by decide) ?_
    refine lv_icmp_ge (tgt := 25) hx hb dX3_levelsTogether_7 (by decide) (fun hc => ?_) (fun hc => ?_)
    · replace h := ift hc h
      refine lv_iload_n hx hb dX3_levelsTogether_25 rfl (lv_at hl 1 rfl) ?_
      cases h
      exact mpr_i X hK hP hD hS rfl dX3_levelsTogether_26
    · replace h := iff_ hc h
      refine lv_iload_n hx hb dX3_levelsTogether_10 rfl (lv_at hl 1 rfl) ?_
      refine lv_aload_n hx hb dX3_levelsTogether_11 rfl (lv_at hl 0 rfl) ?_
      refine pwG_12_8 X hK hP mF_X3_22 dX3_levelsTogether_12 ?_
      refine lv_iload_n hx hb dX3_levelsTogether_15 rfl (lv_at hl 2 rfl) ?_
      obtain ⟨hg, h⟩ := gd_elim h
      refine pwL_14 X hK hP hg dX3_levelsTogether_16 ?_
      refine lv_iadd hx hb dX3_levelsTogether_17 ?_
      refine lv_istore_n (lv' := [(1, .int (v1 + (rA x 14 (Int32.toNatClampNeg v2)))), (0, .ref (a 12)), (2, .int v2)]) hx hb dX3_levelsTogether_18 rfl hl (by decide) rfl (fun ls hl => ?_)
      refine lv_iinc (v := v2 + 1) (lv' := [(2, .int (v2 + 1)), (1, .int (v1 + (rA x 14 (Int32.toNatClampNeg v2)))), (0, .ref (a 12))]) hx hb dX3_levelsTogether_19 hl (k := 2) rfl rfl (by decide) rfl (fun ls hl => ?_)
      refine lv_goto (tgt := 4) hx hb dX3_levelsTogether_22 (by decide) ?_
      exact ih (v1 + (rA x 14 (Int32.toNatClampNeg v2))) (v2 + 1) _ _ _ hP hD hS (lv_sub hl [2, 1, 0] rfl) h
def f_X3_levelsTogether (x : PD) : Option (Int32) :=
  (f_X3_levelsTogether_b4 x FU ((0 : Int32)) ((0 : Int32)))
set_option maxHeartbeats 4000000 in
set_option maxRecDepth 100000 in
theorem c_X3_levelsTogether (l : Launch) (D : va_G) (y : CY) (a : Nat → Nat) {x : PD} {r : Int32} (h : f_X3_levelsTogether x = some r) : mpM l D y yX3_levelsTogether cX3_levelsTogether 3 (some .int) { frames := 0, cells := 0, slots := 0, locals := 0 } (pw y a x) (pw y a x) [.ref (a 12)] (some (.int r)) := by
  refine mpM.mk (own := RX3) (by decide) rfl (Nat.le_of_ble_eq_true rfl) ?_
  intro p e s m below meth c A ls X hK hA hP hD hl
  have hS : va_S A s.heap s.heap [] := va_S.rf
  obtain ⟨⟨hx, hb, hml, hown, hts⟩, hr, hlk⟩ := id X
  have hl : lv_has ls 3 [(0, .ref (a 12))] := hl
  unfold f_X3_levelsTogether at h
  refine lv_iconst (v := 0) hx hb dX3_levelsTogether_0 (by decide) ?_
  refine lv_istore_n (lv' := [(1, .int ((0 : Int32))), (0, .ref (a 12))]) hx hb dX3_levelsTogether_1 rfl hl (by decide) rfl (fun ls hl => ?_)
  refine lv_iconst (v := 0) hx hb dX3_levelsTogether_2 (by decide) ?_
  refine lv_istore_n (lv' := [(2, .int ((0 : Int32))), (1, .int ((0 : Int32))), (0, .ref (a 12))]) hx hb dX3_levelsTogether_3 rfl hl (by decide) rfl (fun ls hl => ?_)
  exact w_X3_levelsTogether_b4 X hK hA FU ((0 : Int32)) ((0 : Int32)) _ _ _ hP hD hS (lv_sub hl [2, 1, 0] rfl) h
def f_X2_isMultiple (x : PD) (p1 : Int32) (p2 : Int32) : Option (Int32) :=
  gd (inR p2 20) (if (rA x 3 (Int32.toNatClampNeg p2)) ≤ 0 then
  (some ((0 : Int32)))
  else
  gd (inR p2 20) (gd (decide (¬ (rA x 3 (Int32.toNatClampNeg p2)) = 0)) (if (p1 - p1 / (rA x 3 (Int32.toNatClampNeg p2)) * (rA x 3 (Int32.toNatClampNeg p2))) = 0 then
  some ((1 : Int32))
  else
  some ((0 : Int32)))))
set_option maxHeartbeats 4000000 in
set_option maxRecDepth 100000 in
theorem c_X2_isMultiple (l : Launch) (D : va_G) (y : CY) (a : Nat → Nat) {x : PD} {r : Int32} {p1 : Int32} {p2 : Int32} (h : f_X2_isMultiple x p1 p2 = some r) : mpM l D y yX2_isMultiple cX2_isMultiple 3 (some .boolean) { frames := 0, cells := 0, slots := 0, locals := 0 } (pw y a x) (pw y a x) [.ref (a 1), .int p1, .int p2] (some (.int r)) := by
  refine mpM.mk (own := RX2) (by decide) rfl (Nat.le_of_ble_eq_true rfl) ?_
  intro p e s m below meth c A ls X hK hA hP hD hl
  have hS : va_S A s.heap s.heap [] := va_S.rf
  obtain ⟨⟨hx, hb, hml, hown, hts⟩, hr, hlk⟩ := id X
  have hl : lv_has ls 3 [(0, .ref (a 1)), (1, .int p1), (2, .int p2)] := hl
  unfold f_X2_isMultiple at h
  refine lv_aload_n hx hb dX2_isMultiple_0 rfl (lv_at hl 0 rfl) ?_
  refine pwG_1_1 X hK hP mF_X2_15 dX2_isMultiple_1 ?_
  refine lv_iload_n hx hb dX2_isMultiple_4 rfl (lv_at hl 2 rfl) ?_
  obtain ⟨hg, h⟩ := gd_elim h
  refine pwL_3 X hK hP hg dX2_isMultiple_5 ?_
  refine lv_if_le (tgt := 24) hx hb dX2_isMultiple_6 (by decide) (fun hc => ?_) (fun hc => ?_)
  · replace h := ift hc h
    refine lv_iconst (v := 0) hx hb dX2_isMultiple_24 (by decide) ?_
    cases h
    exact mpr_z X hK hP hD hS rfl rfl dX2_isMultiple_25
  · replace h := iff_ hc h
    refine lv_iload_n hx hb dX2_isMultiple_9 rfl (lv_at hl 1 rfl) ?_
    refine lv_aload_n hx hb dX2_isMultiple_10 rfl (lv_at hl 0 rfl) ?_
    refine pwG_1_1 X hK hP mF_X2_15 dX2_isMultiple_11 ?_
    refine lv_iload_n hx hb dX2_isMultiple_14 rfl (lv_at hl 2 rfl) ?_
    obtain ⟨hg, h⟩ := gd_elim h
    refine pwL_3 X hK hP hg dX2_isMultiple_15 ?_
    obtain ⟨hg, h⟩ := gd_elim h
    refine lv_irem hx hb dX2_isMultiple_16 (of_decide_eq_true hg) ?_
    refine lv_if_ne (tgt := 24) hx hb dX2_isMultiple_17 (by decide) (fun hc => ?_) (fun hc => ?_)
    · replace h := iff_ hc h
      refine lv_iconst (v := 0) hx hb dX2_isMultiple_24 (by decide) ?_
      cases h
      exact mpr_z X hK hP hD hS rfl rfl dX2_isMultiple_25
    · replace h := ift hc h
      refine lv_iconst (v := 1) hx hb dX2_isMultiple_20 (by decide) ?_
      refine lv_goto (tgt := 25) hx hb dX2_isMultiple_21 (by decide) ?_
      cases h
      exact mpr_z X hK hP hD hS rfl rfl dX2_isMultiple_25
def f_X3_moveLevel_b52 (x : PD) (v1 : Int32) (v3 : Int32) : Option (Int32 × PD) :=
  gd (inR v1 20) (gd (inR v1 20) (letv (wA x 14 (upd (rA x 14) (Int32.toNatClampNeg v1) ((rA x 14 (Int32.toNatClampNeg v1)) + v3))) fun x1 =>
  some (v3, x1)))
set_option maxHeartbeats 4000000 in
set_option maxRecDepth 100000 in
theorem w_X3_moveLevel_b52 {p : Program} {l : Launch} {e : Env} {s : State} {m : MethodId} {args : Array Value} {below : List Frame} {meth : Method} {c : Code} {D : va_G} {y : CY} {a : Nat → Nat} {A : Nat → Prop} {x' : PD} {r : Int32} (X : mpX p s m args meth c cX3_moveLevel 4 (some .int) RX3) (hK : va_K D vwCl (mpT y) s) (hA : ∀ q, s.heap.size ≤ q → A q) : ∀ (x : PD) (v1 : Int32) (v3 : Int32) (H : Heap) (locs : List Loc) (ls : Array Slot), va_P D vwCl (pw y a x) H → va_D A (pw y a x) → va_S A s.heap H locs → lv_has ls 4 [(0, .ref (a 12)), (1, .int v1), (3, .int v3)] → f_X3_moveLevel_b52 x v1 v3 = some (r, x') → W p l e { frames := 0, cells := 0, slots := 0, locals := 0 } s m args below meth c H locs 0 0 (MQ below (mpC D y A (pw y a x') (some (.int r))) args s 0 0 A) (F0 m 52 ls []) := by
  obtain ⟨⟨hx, hb, hml, hown, hts⟩, hr, hlk⟩ := id X
  intro x v1 v3 H locs ls hP hD hS hl h
  unfold f_X3_moveLevel_b52 at h
  refine lv_aload_n hx hb dX3_moveLevel_52 rfl (lv_at hl 0 rfl) ?_
  refine pwG_12_8 X hK hP mF_X3_22 dX3_moveLevel_53 ?_
  refine lv_iload_n hx hb dX3_moveLevel_56 rfl (lv_at hl 1 rfl) ?_
  refine lv_dup2_11 hx hb dX3_moveLevel_57 rfl rfl ?_
  obtain ⟨hg, h⟩ := gd_elim h
  refine pwL_14 X hK hP hg dX3_moveLevel_58 ?_
  refine lv_iload_n hx hb dX3_moveLevel_59 rfl (lv_at hl 2 rfl) ?_
  refine lv_iadd hx hb dX3_moveLevel_60 ?_
  obtain ⟨hg, h⟩ := gd_elim h
  obtain ⟨x1, e1, h⟩ := letv_elim h
  refine pwS_14 X hK hP hD hS hg e1 dX3_moveLevel_61 (fun H locs hP hD hS => ?_)
  refine lv_iload_n hx hb dX3_moveLevel_62 rfl (lv_at hl 2 rfl) ?_
  cases h
  exact mpr_i X hK hP hD hS rfl dX3_moveLevel_63
def f_X3_moveLevel (x : PD) (p1 : Int32) (p2 : Int32) : Option (Int32 × PD) :=
  gd (inR p1 20) (if (rA x 13 (Int32.toNatClampNeg p1)) = 0 then
  gd (inR p1 20) (if (rA x 14 (Int32.toNatClampNeg p1)) ≤ 0 then
  ((f_X3_moveLevel_b52 x p1 ((0 : Int32))))
  else
  (f_X3_moveLevel_b52 x p1 ((-1 : Int32))))
  else
  gd (inR p1 20) (gd (inR p1 20) (if (rA x 13 (Int32.toNatClampNeg p1)) ≤ (rA x 14 (Int32.toNatClampNeg p1)) then
  ((f_X3_moveLevel_b52 x p1 ((0 : Int32))))
  else
  if ((16 : Int32)) ≤ p2 then
  ((f_X3_moveLevel_b52 x p1 ((0 : Int32))))
  else
  (f_X3_moveLevel_b52 x p1 ((1 : Int32))))))
set_option maxHeartbeats 4000000 in
set_option maxRecDepth 100000 in
theorem c_X3_moveLevel (l : Launch) (D : va_G) (y : CY) (a : Nat → Nat) {x : PD} {x' : PD} {r : Int32} {p1 : Int32} {p2 : Int32} (h : f_X3_moveLevel x p1 p2 = some (r, x')) : mpM l D y yX3_moveLevel cX3_moveLevel 4 (some .int) { frames := 0, cells := 0, slots := 0, locals := 0 } (pw y a x) (pw y a x') [.ref (a 12), .int p1, .int p2] (some (.int r)) := by
  refine mpM.mk (own := RX3) (by decide) rfl (Nat.le_of_ble_eq_true rfl) ?_
  intro p e s m below meth c A ls X hK hA hP hD hl
  have hS : va_S A s.heap s.heap [] := va_S.rf
  obtain ⟨⟨hx, hb, hml, hown, hts⟩, hr, hlk⟩ := id X
  have hl : lv_has ls 4 [(0, .ref (a 12)), (1, .int p1), (2, .int p2)] := hl
  unfold f_X3_moveLevel at h
  refine lv_iconst (v := 0) hx hb dX3_moveLevel_0 (by decide) ?_
  refine lv_istore_n (lv' := [(3, .int ((0 : Int32))), (0, .ref (a 12)), (1, .int p1), (2, .int p2)]) hx hb dX3_moveLevel_1 rfl hl (by decide) rfl (fun ls hl => ?_)
  refine lv_aload_n hx hb dX3_moveLevel_2 rfl (lv_at hl 1 rfl) ?_
  refine pwG_12_7 X hK hP mF_X3_18 dX3_moveLevel_3 ?_
  refine lv_iload_n hx hb dX3_moveLevel_6 rfl (lv_at hl 2 rfl) ?_
  obtain ⟨hg, h⟩ := gd_elim h
  refine pwL_13 X hK hP hg dX3_moveLevel_7 ?_
  refine lv_if_ne (tgt := 29) hx hb dX3_moveLevel_8 (by decide) (fun hc => ?_) (fun hc => ?_)
  · replace h := iff_ hc h
    refine lv_aload_n hx hb dX3_moveLevel_29 rfl (lv_at hl 1 rfl) ?_
    refine pwG_12_8 X hK hP mF_X3_22 dX3_moveLevel_30 ?_
    refine lv_iload_n hx hb dX3_moveLevel_33 rfl (lv_at hl 2 rfl) ?_
    obtain ⟨hg, h⟩ := gd_elim h
    refine pwL_14 X hK hP hg dX3_moveLevel_34 ?_
    refine lv_aload_n hx hb dX3_moveLevel_35 rfl (lv_at hl 1 rfl) ?_
    refine pwG_12_7 X hK hP mF_X3_18 dX3_moveLevel_36 ?_
    refine lv_iload_n hx hb dX3_moveLevel_39 rfl (lv_at hl 2 rfl) ?_
    obtain ⟨hg, h⟩ := gd_elim h
    refine pwL_13 X hK hP hg dX3_moveLevel_40 ?_
    refine lv_icmp_ge (tgt := 52) hx hb dX3_moveLevel_41 (by decide) (fun hc => ?_) (fun hc => ?_)
    · replace h := ift hc h
      exact w_X3_moveLevel_b52 X hK hA x p1 ((0 : Int32)) _ _ _ hP hD hS (lv_sub hl [1, 2, 0] rfl) h
    · replace h := iff_ hc h
      refine lv_iload_n hx hb dX3_moveLevel_44 rfl (lv_at hl 3 rfl) ?_
      refine lv_bipush (v := 16) hx hb dX3_moveLevel_45 (by decide) ?_
      refine lv_icmp_ge (tgt := 52) hx hb dX3_moveLevel_47 (by decide) (fun hc => ?_) (fun hc => ?_)
      · replace h := ift hc h
        exact w_X3_moveLevel_b52 X hK hA x p1 ((0 : Int32)) _ _ _ hP hD hS (lv_sub hl [1, 2, 0] rfl) h
      · replace h := iff_ hc h
        refine lv_iconst (v := 1) hx hb dX3_moveLevel_50 (by decide) ?_
        refine lv_istore_n (lv' := [(3, .int ((1 : Int32))), (0, .ref (a 12)), (1, .int p1), (2, .int p2)]) hx hb dX3_moveLevel_51 rfl hl (by decide) rfl (fun ls hl => ?_)
        exact w_X3_moveLevel_b52 X hK hA x p1 ((1 : Int32)) _ _ _ hP hD hS (lv_sub hl [1, 2, 0] rfl) h
  · replace h := ift hc h
    refine lv_aload_n hx hb dX3_moveLevel_11 rfl (lv_at hl 1 rfl) ?_
    refine pwG_12_8 X hK hP mF_X3_22 dX3_moveLevel_12 ?_
    refine lv_iload_n hx hb dX3_moveLevel_15 rfl (lv_at hl 2 rfl) ?_
    obtain ⟨hg, h⟩ := gd_elim h
    refine pwL_14 X hK hP hg dX3_moveLevel_16 ?_
    refine lv_if_le (tgt := 24) hx hb dX3_moveLevel_17 (by decide) (fun hc => ?_) (fun hc => ?_)
    · replace h := ift hc h
      refine lv_iconst (v := 0) hx hb dX3_moveLevel_24 (by decide) ?_
      refine lv_istore_n (lv' := [(3, .int ((0 : Int32))), (0, .ref (a 12)), (1, .int p1), (2, .int p2)]) hx hb dX3_moveLevel_25 rfl hl (by decide) rfl (fun ls hl => ?_)
      refine lv_goto (tgt := 52) hx hb dX3_moveLevel_26 (by decide) ?_
      exact w_X3_moveLevel_b52 X hK hA x p1 ((0 : Int32)) _ _ _ hP hD hS (lv_sub hl [1, 2, 0] rfl) h
    · replace h := iff_ hc h
      refine lv_iconst (v := -1) hx hb dX3_moveLevel_20 (by decide) ?_
      refine lv_goto (tgt := 25) hx hb dX3_moveLevel_21 (by decide) ?_
      refine lv_istore_n (lv' := [(3, .int ((-1 : Int32))), (0, .ref (a 12)), (1, .int p1), (2, .int p2)]) hx hb dX3_moveLevel_25 rfl hl (by decide) rfl (fun ls hl => ?_)
      refine lv_goto (tgt := 52) hx hb dX3_moveLevel_26 (by decide) ?_
      exact w_X3_moveLevel_b52 X hK hA x p1 ((-1 : Int32)) _ _ _ hP hD hS (lv_sub hl [1, 2, 0] rfl) h
def f_J7_fill_53178_14_b5 : Nat → PD → Int32 → Int32 → Int32 → Option (PD)
  | 0, _, _, _, _ => none
  | n + 1, x, v1, v2, v3 =>
    if v3 ≤ v2 then
  (some x)
  else
  gd (inR v2 20) (letv (wA x 14 (upd (rA x 14) (Int32.toNatClampNeg v2) v1)) fun x1 =>
  ((f_J7_fill_53178_14_b5 n) x1 v1 (v2 + 1) v3))
set_option maxHeartbeats 4000000 in
set_option maxRecDepth 100000 in
theorem w_J7_fill_53178_14_b5 {p : Program} {l : Launch} {e : Env} {s : State} {m : MethodId} {args : Array Value} {below : List Frame} {meth : Method} {c : Code} {D : va_G} {y : CY} {a : Nat → Nat} {A : Nat → Prop} {x' : PD} (X : mpX p s m args meth c cJ7_fill_53178 4 none RJ7) (hK : va_K D vwCl (mpT y) s) (hA : ∀ q, s.heap.size ≤ q → A q) : ∀ (n : Nat), ∀ (x : PD) (v1 : Int32) (v2 : Int32) (v3 : Int32) (H : Heap) (locs : List Loc) (ls : Array Slot), va_P D vwCl (pw y a x) H → va_D A (pw y a x) → va_S A s.heap H locs → lv_has ls 4 [(0, .ref (a 14)), (1, .int v1), (2, .int v2), (3, .int v3)] → f_J7_fill_53178_14_b5 n x v1 v2 v3 = some x' → W p l e { frames := 0, cells := 0, slots := 0, locals := 0 } s m args below meth c H locs 0 0 (MQ below (mpC D y A (pw y a x') none) args s 0 0 A) (F0 m 5 ls []) := by
  obtain ⟨⟨hx, hb, hml, hown, hts⟩, hr, hlk⟩ := id X
  intro n
  induction n with
  | zero =>
    intro x v1 v2 v3 H locs ls hP hD hS hl h
    rw [f_J7_fill_53178_14_b5] at h
    exact nons h
  | succ n ih =>
    intro x v1 v2 v3 H locs ls hP hD hS hl h
    rw [f_J7_fill_53178_14_b5] at h
    refine lv_iload_n hx hb dJ7_fill_53178_5 rfl (lv_at hl 2 rfl) ?_
    refine lv_iload_n hx hb dJ7_fill_53178_6 rfl (lv_at hl 3 rfl) ?_
    refine lv_icmp_ge (tgt := 20) hx hb dJ7_fill_53178_7 (by decide) (fun hc => ?_) (fun hc => ?_)
    · replace h := ift hc h
      cases h
      exact mpr_v X hK hP hD hS dJ7_fill_53178_20
    · replace h := iff_ hc h
      refine lv_aload_n hx hb dJ7_fill_53178_10 rfl (lv_at hl 0 rfl) ?_
      refine lv_iload_n hx hb dJ7_fill_53178_11 rfl (lv_at hl 2 rfl) ?_
      refine lv_iload_n hx hb dJ7_fill_53178_12 rfl (lv_at hl 1 rfl) ?_
      obtain ⟨hg, h⟩ := gd_elim h
      obtain ⟨x1, e1, h⟩ := letv_elim h
      refine pwS_14 X hK hP hD hS hg e1 dJ7_fill_53178_13 (fun H locs hP hD hS => ?_)
      refine lv_iinc (v := v2 + 1) (lv' := [(2, .int (v2 + 1)), (0, .ref (a 14)), (1, .int v1), (3, .int v3)]) hx hb dJ7_fill_53178_14 hl (k := 2) rfl rfl (by decide) rfl (fun ls hl => ?_)
      refine lv_goto (tgt := 5) hx hb dJ7_fill_53178_17 (by decide) ?_
      exact ih x1 v1 (v2 + 1) v3 _ _ _ hP hD hS (lv_sub hl [1, 2, 0, 3] rfl) h
def f_J7_fill_53178_14 (x : PD) (p1 : Int32) : Option (PD) :=
  (f_J7_fill_53178_14_b5 FU x p1 ((0 : Int32)) ((20 : Int32)))
set_option maxHeartbeats 4000000 in
set_option maxRecDepth 100000 in
theorem c_J7_fill_53178_14 (l : Launch) (D : va_G) (y : CY) (a : Nat → Nat) {x : PD} {x' : PD} {p1 : Int32} (h : f_J7_fill_53178_14 x p1 = some x') : mpM l D y yJ7_fill_53178 cJ7_fill_53178 4 none { frames := 0, cells := 0, slots := 0, locals := 0 } (pw y a x) (pw y a x') [.ref (a 14), .int p1] none := by
  refine mpM.mk (own := RJ7) (by decide) rfl (Nat.le_of_ble_eq_true rfl) ?_
  intro p e s m below meth c A ls X hK hA hP hD hl
  have hS : va_S A s.heap s.heap [] := va_S.rf
  obtain ⟨⟨hx, hb, hml, hown, hts⟩, hr, hlk⟩ := id X
  have hl : lv_has ls 4 [(0, .ref (a 14)), (1, .int p1)] := hl
  unfold f_J7_fill_53178_14 at h
  refine lv_iconst (v := 0) hx hb dJ7_fill_53178_0 (by decide) ?_
  refine lv_istore_n (lv' := [(2, .int ((0 : Int32))), (0, .ref (a 14)), (1, .int p1)]) hx hb dJ7_fill_53178_1 rfl hl (by decide) rfl (fun ls hl => ?_)
  refine lv_aload_n hx hb dJ7_fill_53178_2 rfl (lv_at hl 1 rfl) ?_
  refine pwN_14 X hK hP dJ7_fill_53178_3 ?_
  refine lv_istore_n (lv' := [(3, .int ((20 : Int32))), (2, .int ((0 : Int32))), (0, .ref (a 14)), (1, .int p1)]) hx hb dJ7_fill_53178_4 rfl hl (by decide) rfl (fun ls hl => ?_)
  exact w_J7_fill_53178_14_b5 X hK hA FU x p1 ((0 : Int32)) ((20 : Int32)) _ _ _ hP hD hS (lv_sub hl [2, 3, 1, 0] rfl) h
def f_X5_moveLayers_b33 : Nat → PD → Int32 → Int32 → Option (PD)
  | 0, _, _, _ => none
  | n + 1, x, v1, v2 =>
    if (rI x 37) ≤ v2 then
  (some x)
  else
  gd (inR v2 20) (if (rA x 2 (Int32.toNatClampNeg v2)) = ((2 : Int32)) then
  bn1 (f_X2_isMultiple x (rI x 387) v2) fun r2 =>
  if r2 = 0 then
  (((f_X5_moveLayers_b33 n) x v1 (v2 + 1)))
  else
  bn2 (f_X3_moveLevel x v2 v1) fun r3 x4 =>
  ((f_X5_moveLayers_b33 n) x4 (v1 + r3) (v2 + 1))
  else
  ((f_X5_moveLayers_b33 n) x v1 (v2 + 1)))
set_option maxHeartbeats 4000000 in
set_option maxRecDepth 100000 in
theorem w_X5_moveLayers_b33 {p : Program} {l : Launch} {e : Env} {s : State} {m : MethodId} {args : Array Value} {below : List Frame} {meth : Method} {c : Code} {D : va_G} {y : CY} {a : Nat → Nat} {A : Nat → Prop} {x' : PD} (X : mpX p s m args meth c cX5_moveLayers 3 none RX5) (hK : va_K D vwCl (mpT y) s) (hA : ∀ q, s.heap.size ≤ q → A q) : ∀ (n : Nat), ∀ (x : PD) (v1 : Int32) (v2 : Int32) (H : Heap) (locs : List Loc) (ls : Array Slot), va_P D vwCl (pw y a x) H → va_D A (pw y a x) → va_S A s.heap H locs → lv_has ls 3 [(0, .ref (a 0)), (1, .int v1), (2, .int v2)] → f_X5_moveLayers_b33 n x v1 v2 = some x' → W p l e { frames := 1, cells := 0, slots := 0, locals := 23 } s m args below meth c H locs 0 0 (MQ below (mpC D y A (pw y a x') none) args s 0 0 A) (F0 m 33 ls []) := by
  obtain ⟨⟨hx, hb, hml, hown, hts⟩, hr, hlk⟩ := id X
  intro n
  induction n with
  | zero =>
    intro x v1 v2 H locs ls hP hD hS hl h
    rw [f_X5_moveLayers_b33] at h
    exact nons h
  | succ n ih =>
    intro x v1 v2 H locs ls hP hD hS hl h
    rw [f_X5_moveLayers_b33] at h
    refine lv_iload_n hx hb dX5_moveLayers_33 rfl (lv_at hl 2 rfl) ?_
    refine lv_aload_n hx hb dX5_moveLayers_34 rfl (lv_at hl 0 rfl) ?_
    refine pwG_0_0 X hK hP mF_X5_12 dX5_moveLayers_35 ?_
    refine pwG_1_5 X hK hP mF_X5_199 dX5_moveLayers_38 ?_
    refine lv_icmp_ge (tgt := 93) hx hb dX5_moveLayers_41 (by decide) (fun hc => ?_) (fun hc => ?_)
    · replace h := ift hc h
      cases h
      exact mpr_v X hK hP hD hS dX5_moveLayers_93
    · replace h := iff_ hc h
      refine lv_aload_n hx hb dX5_moveLayers_44 rfl (lv_at hl 0 rfl) ?_
      refine pwG_0_0 X hK hP mF_X5_12 dX5_moveLayers_45 ?_
      refine pwG_1_0 X hK hP mF_X5_145 dX5_moveLayers_48 ?_
      refine lv_iload_n hx hb dX5_moveLayers_51 rfl (lv_at hl 2 rfl) ?_
      obtain ⟨hg, h⟩ := gd_elim h
      refine pwL_2 X hK hP hg dX5_moveLayers_52 ?_
      refine lv_iconst (v := 2) hx hb dX5_moveLayers_53 (by decide) ?_
      refine lv_icmp_ne (tgt := 87) hx hb dX5_moveLayers_54 (by decide) (fun hc => ?_) (fun hc => ?_)
      · replace h := iff_ hc h
        refine lv_iinc (v := v2 + 1) (lv' := [(2, .int (v2 + 1)), (0, .ref (a 0)), (1, .int v1)]) hx hb dX5_moveLayers_87 hl (k := 2) rfl rfl (by decide) rfl (fun ls hl => ?_)
        refine lv_goto (tgt := 33) hx hb dX5_moveLayers_90 (by decide) ?_
        exact ih x v1 (v2 + 1) _ _ _ hP hD hS (lv_sub hl [1, 2, 0] rfl) h
      · replace h := ift hc h
        refine lv_aload_n hx hb dX5_moveLayers_57 rfl (lv_at hl 0 rfl) ?_
        refine pwG_0_0 X hK hP mF_X5_12 dX5_moveLayers_58 ?_
        refine lv_aload_n hx hb dX5_moveLayers_61 rfl (lv_at hl 0 rfl) ?_
        refine pwG_0_1 X hK hP mF_X5_19 dX5_moveLayers_62 ?_
        refine pwG_12_3 X hK hP mF_X5_184 dX5_moveLayers_65 ?_
        refine lv_iload_n hx hb dX5_moveLayers_68 rfl (lv_at hl 2 rfl) ?_
        obtain ⟨r2, hr0, h⟩ := bn1_elim h
        refine mp_call1 (As := [.int (rI x 387), .int v2]) (rest := []) X (c_X2_isMultiple l D y a hr0) (mp_cw (k := 2) hts mM_X5_301 mI_X2_isMultiple mS_X2_isMultiple mN_X2 mC_X2_isMultiple rfl rfl (by decide +kernel) ⟨Nat.le_of_ble_eq_true rfl, Nat.le_of_ble_eq_true rfl⟩) hK hP hD hS hA 1 pwC_1 rfl rfl hl.1 rfl (Nat.le_of_ble_eq_true rfl) dX5_moveLayers_69 ⟨Nat.zero_le _, Nat.zero_le _⟩ (fun H locs hP hD hS => ?_)
        refine lv_if_eq (tgt := 87) hx hb dX5_moveLayers_72 (by decide) (fun hc => ?_) (fun hc => ?_)
        · replace h := ift hc h
          refine lv_iinc (v := v2 + 1) (lv' := [(2, .int (v2 + 1)), (0, .ref (a 0)), (1, .int v1)]) hx hb dX5_moveLayers_87 hl (k := 2) rfl rfl (by decide) rfl (fun ls hl => ?_)
          refine lv_goto (tgt := 33) hx hb dX5_moveLayers_90 (by decide) ?_
          exact ih x v1 (v2 + 1) _ _ _ hP hD hS (lv_sub hl [1, 2, 0] rfl) h
        · replace h := iff_ hc h
          refine lv_iload_n hx hb dX5_moveLayers_75 rfl (lv_at hl 1 rfl) ?_
          refine lv_aload_n hx hb dX5_moveLayers_76 rfl (lv_at hl 0 rfl) ?_
          refine pwG_0_1 X hK hP mF_X5_19 dX5_moveLayers_77 ?_
          refine lv_iload_n hx hb dX5_moveLayers_80 rfl (lv_at hl 2 rfl) ?_
          refine lv_iload_n hx hb dX5_moveLayers_81 rfl (lv_at hl 1 rfl) ?_
          obtain ⟨r3, x4, hr0, h⟩ := bn2_elim h
          refine mp_call1 (As := [.int v2, .int v1]) (rest := [.int v1]) X (c_X3_moveLevel l D y a hr0) (mp_cw (k := 2) hts mM_X5_304 mI_X3_moveLevel mS_X3_moveLevel mN_X3 mC_X3_moveLevel rfl rfl (by decide +kernel) ⟨Nat.le_of_ble_eq_true rfl, Nat.le_of_ble_eq_true rfl⟩) hK hP hD hS hA 12 pwC_12 rfl rfl hl.1 rfl (Nat.le_of_ble_eq_true rfl) dX5_moveLayers_82 ⟨Nat.zero_le _, Nat.zero_le _⟩ (fun H locs hP hD hS => ?_)
          refine lv_iadd hx hb dX5_moveLayers_85 ?_
          refine lv_istore_n (lv' := [(1, .int (v1 + r3)), (0, .ref (a 0)), (2, .int v2)]) hx hb dX5_moveLayers_86 rfl hl (by decide) rfl (fun ls hl => ?_)
          refine lv_iinc (v := v2 + 1) (lv' := [(2, .int (v2 + 1)), (1, .int (v1 + r3)), (0, .ref (a 0))]) hx hb dX5_moveLayers_87 hl (k := 2) rfl rfl (by decide) rfl (fun ls hl => ?_)
          refine lv_goto (tgt := 33) hx hb dX5_moveLayers_90 (by decide) ?_
          exact ih x4 (v1 + r3) (v2 + 1) _ _ _ hP hD hS (lv_sub hl [2, 1, 0] rfl) h
def f_X5_moveLayers (x : PD) : Option (PD) :=
  if (rI x 386) = ((-1 : Int32)) then
  bn1 (f_J7_fill_53178_14 x ((0 : Int32))) fun x5 =>
  some x5
  else
  bn1 (f_X3_levelsTogether x) fun r1 =>
  (f_X5_moveLayers_b33 FU x r1 ((0 : Int32)))
set_option maxHeartbeats 4000000 in
set_option maxRecDepth 100000 in
theorem c_X5_moveLayers (l : Launch) (D : va_G) (y : CY) (a : Nat → Nat) {x : PD} {x' : PD} (h : f_X5_moveLayers x = some x') : mpM l D y yX5_moveLayers cX5_moveLayers 3 none { frames := 1, cells := 0, slots := 0, locals := 23 } (pw y a x) (pw y a x') [.ref (a 0)] none := by
  refine mpM.mk (own := RX5) (by decide) rfl (Nat.le_of_ble_eq_true rfl) ?_
  intro p e s m below meth c A ls X hK hA hP hD hl
  have hS : va_S A s.heap s.heap [] := va_S.rf
  obtain ⟨⟨hx, hb, hml, hown, hts⟩, hr, hlk⟩ := id X
  have hl : lv_has ls 3 [(0, .ref (a 0))] := hl
  unfold f_X5_moveLayers at h
  refine lv_aload_n hx hb dX5_moveLayers_0 rfl (lv_at hl 0 rfl) ?_
  refine pwG_0_1 X hK hP mF_X5_19 dX5_moveLayers_1 ?_
  refine pwG_12_2 X hK hP mF_X5_175 dX5_moveLayers_4 ?_
  refine lv_iconst (v := -1) hx hb dX5_moveLayers_7 (by decide) ?_
  refine lv_icmp_ne (tgt := 23) hx hb dX5_moveLayers_8 (by decide) (fun hc => ?_) (fun hc => ?_)
  · replace h := iff_ hc h
    refine lv_aload_n hx hb dX5_moveLayers_23 rfl (lv_at hl 0 rfl) ?_
    refine pwG_0_1 X hK hP mF_X5_19 dX5_moveLayers_24 ?_
    obtain ⟨r1, hr0, h⟩ := bn1_elim h
    refine mp_call1 (As := []) (rest := []) X (c_X3_levelsTogether l D y a hr0) (mp_cw (k := 0) hts mM_X5_193 mI_X3_levelsTogether mS_X3_levelsTogether mN_X3 mC_X3_levelsTogether rfl rfl (by decide +kernel) ⟨Nat.le_of_ble_eq_true rfl, Nat.le_of_ble_eq_true rfl⟩) hK hP hD hS hA 12 pwC_12 rfl rfl hl.1 rfl (Nat.le_of_ble_eq_true rfl) dX5_moveLayers_27 ⟨Nat.zero_le _, Nat.zero_le _⟩ (fun H locs hP hD hS => ?_)
    refine lv_istore_n (lv' := [(1, .int r1), (0, .ref (a 0))]) hx hb dX5_moveLayers_30 rfl hl (by decide) rfl (fun ls hl => ?_)
    refine lv_iconst (v := 0) hx hb dX5_moveLayers_31 (by decide) ?_
    refine lv_istore_n (lv' := [(2, .int ((0 : Int32))), (1, .int r1), (0, .ref (a 0))]) hx hb dX5_moveLayers_32 rfl hl (by decide) rfl (fun ls hl => ?_)
    exact w_X5_moveLayers_b33 X hK hA FU x r1 ((0 : Int32)) _ _ _ hP hD hS (lv_sub hl [2, 1, 0] rfl) h
  · replace h := ift hc h
    refine lv_aload_n hx hb dX5_moveLayers_11 rfl (lv_at hl 0 rfl) ?_
    refine pwG_0_1 X hK hP mF_X5_19 dX5_moveLayers_12 ?_
    refine pwG_12_8 X hK hP mF_X5_207 dX5_moveLayers_15 ?_
    refine lv_iconst (v := 0) hx hb dX5_moveLayers_18 (by decide) ?_
    obtain ⟨x5, hr0, h⟩ := bn1_elim h
    refine mp_callSv (As := [.ref (a 14), .int ((0 : Int32))]) (rest := []) X (c_J7_fill_53178_14 l D y a hr0) (mp_cs (k := 2) hts mM_X5_296 mT_J7_fill_53178 mN_J7 mC_J7_fill_53178 rfl rfl (by decide +kernel) ⟨Nat.le_of_ble_eq_true rfl, Nat.le_of_ble_eq_true rfl⟩) hK hP hD hS hA rfl hl.1 rfl (Nat.le_of_ble_eq_true rfl) dX5_moveLayers_19 ⟨Nat.zero_le _, Nat.zero_le _⟩ (fun H locs hP hD hS => ?_)
    cases h
    exact mpr_v X hK hP hD hS dX5_moveLayers_22
def f_X3_shiftWaiting_b12 : Nat → PD → Int32 → Option (PD)
  | 0, _, _ => none
  | n + 1, x, v1 =>
    if (rI x 394) ≤ v1 then
  (some x)
  else
  gd (inR (v1 + ((1 : Int32))) 4) (gd (inR v1 4) (letv (wA x 15 (upd (rA x 15) (Int32.toNatClampNeg v1) (rA x 15 (Int32.toNatClampNeg (v1 + ((1 : Int32))))))) fun x2 =>
  ((f_X3_shiftWaiting_b12 n) x2 (v1 + 1))))
set_option maxHeartbeats 4000000 in
set_option maxRecDepth 100000 in
theorem w_X3_shiftWaiting_b12 {p : Program} {l : Launch} {e : Env} {s : State} {m : MethodId} {args : Array Value} {below : List Frame} {meth : Method} {c : Code} {D : va_G} {y : CY} {a : Nat → Nat} {A : Nat → Prop} {x' : PD} (X : mpX p s m args meth c cX3_shiftWaiting 2 none RX3) (hK : va_K D vwCl (mpT y) s) (hA : ∀ q, s.heap.size ≤ q → A q) : ∀ (n : Nat), ∀ (x : PD) (v1 : Int32) (H : Heap) (locs : List Loc) (ls : Array Slot), va_P D vwCl (pw y a x) H → va_D A (pw y a x) → va_S A s.heap H locs → lv_has ls 2 [(0, .ref (a 12)), (1, .int v1)] → f_X3_shiftWaiting_b12 n x v1 = some x' → W p l e { frames := 0, cells := 0, slots := 0, locals := 0 } s m args below meth c H locs 0 0 (MQ below (mpC D y A (pw y a x') none) args s 0 0 A) (F0 m 12 ls []) := by
  obtain ⟨⟨hx, hb, hml, hown, hts⟩, hr, hlk⟩ := id X
  intro n
  induction n with
  | zero =>
    intro x v1 H locs ls hP hD hS hl h
    rw [f_X3_shiftWaiting_b12] at h
    exact nons h
  | succ n ih =>
    intro x v1 H locs ls hP hD hS hl h
    rw [f_X3_shiftWaiting_b12] at h
    refine lv_iload_n hx hb dX3_shiftWaiting_12 rfl (lv_at hl 1 rfl) ?_
    refine lv_aload_n hx hb dX3_shiftWaiting_13 rfl (lv_at hl 0 rfl) ?_
    refine pwG_12_10 X hK hP mF_X3_50 dX3_shiftWaiting_14 ?_
    refine lv_icmp_ge (tgt := 40) hx hb dX3_shiftWaiting_17 (by decide) (fun hc => ?_) (fun hc => ?_)
    · replace h := ift hc h
      cases h
      exact mpr_v X hK hP hD hS dX3_shiftWaiting_40
    · replace h := iff_ hc h
      refine lv_aload_n hx hb dX3_shiftWaiting_20 rfl (lv_at hl 0 rfl) ?_
      refine pwG_12_9 X hK hP mF_X3_25 dX3_shiftWaiting_21 ?_
      refine lv_iload_n hx hb dX3_shiftWaiting_24 rfl (lv_at hl 1 rfl) ?_
      refine lv_aload_n hx hb dX3_shiftWaiting_25 rfl (lv_at hl 0 rfl) ?_
      refine pwG_12_9 X hK hP mF_X3_25 dX3_shiftWaiting_26 ?_
      refine lv_iload_n hx hb dX3_shiftWaiting_29 rfl (lv_at hl 1 rfl) ?_
      refine lv_iconst (v := 1) hx hb dX3_shiftWaiting_30 (by decide) ?_
      refine lv_iadd hx hb dX3_shiftWaiting_31 ?_
      obtain ⟨hg, h⟩ := gd_elim h
      refine pwL_15 X hK hP hg dX3_shiftWaiting_32 ?_
      obtain ⟨hg, h⟩ := gd_elim h
      obtain ⟨x2, e1, h⟩ := letv_elim h
      refine pwS_15 X hK hP hD hS hg e1 dX3_shiftWaiting_33 (fun H locs hP hD hS => ?_)
      refine lv_iinc (v := v1 + 1) (lv' := [(1, .int (v1 + 1)), (0, .ref (a 12))]) hx hb dX3_shiftWaiting_34 hl (k := 1) rfl rfl (by decide) rfl (fun ls hl => ?_)
      refine lv_goto (tgt := 12) hx hb dX3_shiftWaiting_37 (by decide) ?_
      exact ih x2 (v1 + 1) _ _ _ hP hD hS (lv_sub hl [1, 0] rfl) h
def f_X3_shiftWaiting (x : PD) : Option (PD) :=
  letv (wI x 394 ((rI x 394) - ((1 : Int32)))) fun x1 =>
  (f_X3_shiftWaiting_b12 FU x1 ((0 : Int32)))
set_option maxHeartbeats 4000000 in
set_option maxRecDepth 100000 in
theorem c_X3_shiftWaiting (l : Launch) (D : va_G) (y : CY) (a : Nat → Nat) {x : PD} {x' : PD} (h : f_X3_shiftWaiting x = some x') : mpM l D y yX3_shiftWaiting cX3_shiftWaiting 2 none { frames := 0, cells := 0, slots := 0, locals := 0 } (pw y a x) (pw y a x') [.ref (a 12)] none := by
  refine mpM.mk (own := RX3) (by decide) rfl (Nat.le_of_ble_eq_true rfl) ?_
  intro p e s m below meth c A ls X hK hA hP hD hl
  have hS : va_S A s.heap s.heap [] := va_S.rf
  obtain ⟨⟨hx, hb, hml, hown, hts⟩, hr, hlk⟩ := id X
  have hl : lv_has ls 2 [(0, .ref (a 12))] := hl
  unfold f_X3_shiftWaiting at h
  refine lv_aload_n hx hb dX3_shiftWaiting_0 rfl (lv_at hl 0 rfl) ?_
  refine lv_dup hx hb dX3_shiftWaiting_1 rfl ?_
  refine pwG_12_10 X hK hP mF_X3_50 dX3_shiftWaiting_2 ?_
  refine lv_iconst (v := 1) hx hb dX3_shiftWaiting_5 (by decide) ?_
  refine lv_isub hx hb dX3_shiftWaiting_6 ?_
  obtain ⟨x1, e1, h⟩ := letv_elim h
  refine pwP_12_10 X hK hP hD hS mF_X3_50 e1 dX3_shiftWaiting_7 (fun H locs hP hD hS => ?_)
  refine lv_iconst (v := 0) hx hb dX3_shiftWaiting_10 (by decide) ?_
  refine lv_istore_n (lv' := [(1, .int ((0 : Int32))), (0, .ref (a 12))]) hx hb dX3_shiftWaiting_11 rfl hl (by decide) rfl (fun ls hl => ?_)
  exact w_X3_shiftWaiting_b12 X hK hA FU x1 ((0 : Int32)) _ _ _ hP hD hS (lv_sub hl [1, 0] rfl) h
def f_X2_length (x : PD) (p1 : Int32) : Option (Int64) :=
  gd (inR p1 20) (gd (inR p1 20) (some ((Int32.toInt64 (rA x 3 (Int32.toNatClampNeg p1))) * (Int32.toInt64 (rA x 4 (Int32.toNatClampNeg p1))))))
set_option maxHeartbeats 4000000 in
set_option maxRecDepth 100000 in
theorem c_X2_length (l : Launch) (D : va_G) (y : CY) (a : Nat → Nat) {x : PD} {r : Int64} {p1 : Int32} (h : f_X2_length x p1 = some r) : mpM l D y yX2_length cX2_length 2 (some .long) { frames := 0, cells := 0, slots := 0, locals := 0 } (pw y a x) (pw y a x) [.ref (a 1), .int p1] (some (.long r)) := by
  refine mpM.mk (own := RX2) (by decide) rfl (Nat.le_of_ble_eq_true rfl) ?_
  intro p e s m below meth c A ls X hK hA hP hD hl
  have hS : va_S A s.heap s.heap [] := va_S.rf
  obtain ⟨⟨hx, hb, hml, hown, hts⟩, hr, hlk⟩ := id X
  have hl : lv_has ls 2 [(0, .ref (a 1)), (1, .int p1)] := hl
  unfold f_X2_length at h
  refine lv_aload_n hx hb dX2_length_0 rfl (lv_at hl 0 rfl) ?_
  refine pwG_1_1 X hK hP mF_X2_15 dX2_length_1 ?_
  refine lv_iload_n hx hb dX2_length_4 rfl (lv_at hl 1 rfl) ?_
  obtain ⟨hg, h⟩ := gd_elim h
  refine pwL_3 X hK hP hg dX2_length_5 ?_
  refine lv_i2l (v := Int32.toInt64 (rA x 3 (Int32.toNatClampNeg p1))) hx hb dX2_length_6 rfl ?_
  refine lv_aload_n hx hb dX2_length_7 rfl (lv_at hl 0 rfl) ?_
  refine pwG_1_2 X hK hP mF_X2_18 dX2_length_8 ?_
  refine lv_iload_n hx hb dX2_length_11 rfl (lv_at hl 1 rfl) ?_
  obtain ⟨hg, h⟩ := gd_elim h
  refine pwL_4 X hK hP hg dX2_length_12 ?_
  refine lv_i2l (v := Int32.toInt64 (rA x 4 (Int32.toNatClampNeg p1))) hx hb dX2_length_13 rfl ?_
  refine lv_lmul hx hb dX2_length_14 ?_
  cases h
  exact mpr_l X hK hP hD hS rfl dX2_length_15
