def f_X6_ask_b66 (x : PD) : Option (Int32 × PD) :=
  bn1 (f_X6_finds x) fun x6 =>
  if (rI x6 20) = 0 then
  (some ((-1 : Int32), x6))
  else
  some (rI x6 21, x6)
set_option maxHeartbeats 4000000 in
set_option maxRecDepth 100000 in
theorem w_X6_ask_b66 {p : Program} {l : Launch} {e : Env} {s : State} {m : MethodId} {args : Array Value} {below : List Frame} {meth : Method} {c : Code} {D : va_G} {y : CY} {a : Nat → Nat} {A : Nat → Prop} {x' : PD} {r : Int32} (X : mpX p s m args meth c cX6_ask 2 (some .int) RX6) (hK : va_K D vwCl (mpT y) s) (hA : ∀ q, s.heap.size ≤ q → A q) : ∀ (x : PD) (H : Heap) (locs : List Loc) (ls : Array Slot), va_P D vwCl (mw y a x) H → va_D A (mw y a x) → va_S A s.heap H locs → lv_has ls 2 [(0, .ref (a 0))] → f_X6_ask_b66 x = some (r, x') → W p l e { frames := 4, cells := 0, slots := 0, locals := 102 } s m args below meth c H locs 0 0 (MQ below (mpC D y A (mw y a x') (some (.int r))) args s 0 0 A) (F0 m 66 ls []) := by
  obtain ⟨⟨hx, hb, hml, hown, hts⟩, hr, hlk⟩ := id X
  intro x H locs ls hP hD hS hl h
  unfold f_X6_ask_b66 at h
  refine lv_aload_n hx hb dX6_ask_66 rfl (lv_at hl 0 rfl) ?_
  obtain ⟨x6, hr0, h⟩ := bn1_elim h
  refine mp_callv (As := []) (rest := []) X (c_X6_finds l D y a hr0) (mp_cw (k := 0) hts mM_X6_91 mI_X6_finds mS_X6_finds mN_X6 mC_X6_finds rfl rfl (by decide +kernel) ⟨Nat.le_of_ble_eq_true rfl, Nat.le_of_ble_eq_true rfl⟩) hK hP hD hS hA 0 mwC_0 rfl rfl hl.1 rfl (Nat.le_of_ble_eq_true rfl) dX6_ask_67 ⟨Nat.zero_le _, Nat.zero_le _⟩ (fun H locs hP hD hS => ?_)
  refine lv_aload_n hx hb dX6_ask_70 rfl (lv_at hl 0 rfl) ?_
  refine mwG_0_20 X hK hP mF_X6_116 dX6_ask_71 ?_
  refine lv_if_eq (tgt := 84) hx hb dX6_ask_74 (by decide) (fun hc => ?_) (fun hc => ?_)
  · replace h := ift hc h
    refine lv_iconst (v := -1) hx hb dX6_ask_84 (by decide) ?_
    cases h
    exact mpr_i X hK hP hD hS rfl dX6_ask_85
  · replace h := iff_ hc h
    refine lv_aload_n hx hb dX6_ask_77 rfl (lv_at hl 0 rfl) ?_
    refine mwG_0_21 X hK hP mF_X6_120 dX6_ask_78 ?_
    refine lv_goto (tgt := 85) hx hb dX6_ask_81 (by decide) ?_
    cases h
    exact mpr_i X hK hP hD hS rfl dX6_ask_85
def f_X6_ask_b21 (x : PD) (v1 : Int32) (t0 : Int32) : Option (Int32 × PD) :=
  bn2 (f_X6_right x t0 ((1 : Int32))) fun r2 x3 =>
  if r2 = 0 then
  some ((0 : Int32), x3)
  else
  letv (wB x3 11 (vp_updL (rB x3 11) (Int32.toNatClampNeg ((4 : Int32))) (Int32.toInt64 v1))) fun x4 =>
  bn1 (f_X6_get x4 ((0 : Int32))) fun r5 =>
  if r5 = ((-1 : Int32)) then
  ((f_X6_ask_b66 x4))
  else
  bn1 (f_X6_get x4 ((0 : Int32))) fun r7 =>
  bn1 (f_X6_has x4 r7 v1) fun r8 =>
  if r8 = 0 then
  ((f_X6_ask_b66 x4))
  else
  bn1 (f_X6_met x4) fun x9 =>
  some ((0 : Int32), x9)
set_option maxHeartbeats 4000000 in
set_option maxRecDepth 100000 in
theorem w_X6_ask_b21 {p : Program} {l : Launch} {e : Env} {s : State} {m : MethodId} {args : Array Value} {below : List Frame} {meth : Method} {c : Code} {D : va_G} {y : CY} {a : Nat → Nat} {A : Nat → Prop} {x' : PD} {r : Int32} (X : mpX p s m args meth c cX6_ask 2 (some .int) RX6) (hK : va_K D vwCl (mpT y) s) (hA : ∀ q, s.heap.size ≤ q → A q) : ∀ (x : PD) (v1 : Int32) (t0 : Int32) (H : Heap) (locs : List Loc) (ls : Array Slot), va_P D vwCl (mw y a x) H → va_D A (mw y a x) → va_S A s.heap H locs → lv_has ls 2 [(0, .ref (a 0)), (1, .int v1)] → f_X6_ask_b21 x v1 t0 = some (r, x') → W p l e { frames := 4, cells := 0, slots := 0, locals := 102 } s m args below meth c H locs 0 0 (MQ below (mpC D y A (mw y a x') (some (.int r))) args s 0 0 A) (F0 m 21 ls [.int t0, .ref (a 0)]) := by
  obtain ⟨⟨hx, hb, hml, hown, hts⟩, hr, hlk⟩ := id X
  intro x v1 t0 H locs ls hP hD hS hl h
  unfold f_X6_ask_b21 at h
  refine lv_iconst (v := 1) hx hb dX6_ask_21 (by decide) ?_
  obtain ⟨r2, x3, hr0, h⟩ := bn2_elim h
  refine mp_call1 (As := [.int t0, .int ((1 : Int32))]) (rest := []) X (c_X6_right l D y a hr0) (mp_cw (k := 2) hts mM_X6_87 mI_X6_right mS_X6_right mN_X6 mC_X6_right rfl rfl (by decide +kernel) ⟨Nat.le_of_ble_eq_true rfl, Nat.le_of_ble_eq_true rfl⟩) hK hP hD hS hA 0 mwC_0 rfl rfl hl.1 rfl (Nat.le_of_ble_eq_true rfl) dX6_ask_22 ⟨Nat.zero_le _, Nat.zero_le _⟩ (fun H locs hP hD hS => ?_)
  refine lv_if_ne (tgt := 30) hx hb dX6_ask_25 (by decide) (fun hc => ?_) (fun hc => ?_)
  · replace h := iff_ hc h
    refine lv_aload_n hx hb dX6_ask_30 rfl (lv_at hl 0 rfl) ?_
    refine mwG_0_13 X hK hP mF_X6_40 dX6_ask_31 ?_
    refine lv_iconst (v := 4) hx hb dX6_ask_34 (by decide) ?_
    refine lv_iload_n hx hb dX6_ask_35 rfl (lv_at hl 1 rfl) ?_
    refine lv_i2l (v := Int32.toInt64 v1) hx hb dX6_ask_36 rfl ?_
    obtain ⟨x4, e1, h⟩ := letv_elim h
    refine mwS_11 X hK hP hD hS (by decide) e1 dX6_ask_37 (fun H locs hP hD hS => ?_)
    refine lv_aload_n hx hb dX6_ask_38 rfl (lv_at hl 0 rfl) ?_
    refine lv_iconst (v := 0) hx hb dX6_ask_39 (by decide) ?_
    obtain ⟨r5, hr0, h⟩ := bn1_elim h
    refine mp_call1 (As := [.int ((0 : Int32))]) (rest := []) X (c_X6_get l D y a hr0) (mp_cw (k := 1) hts mM_X6_126 mI_X6_get mS_X6_get mN_X6 mC_X6_get rfl rfl (by decide +kernel) ⟨Nat.le_of_ble_eq_true rfl, Nat.le_of_ble_eq_true rfl⟩) hK hP hD hS hA 0 mwC_0 rfl rfl hl.1 rfl (Nat.le_of_ble_eq_true rfl) dX6_ask_40 ⟨Nat.zero_le _, Nat.zero_le _⟩ (fun H locs hP hD hS => ?_)
    refine lv_iconst (v := -1) hx hb dX6_ask_43 (by decide) ?_
    refine lv_icmp_eq (tgt := 66) hx hb dX6_ask_44 (by decide) (fun hc => ?_) (fun hc => ?_)
    · replace h := ift hc h
      exact w_X6_ask_b66 X hK hA x4 _ _ _ hP hD hS (lv_sub hl [0] rfl) h
    · replace h := iff_ hc h
      refine lv_aload_n hx hb dX6_ask_47 rfl (lv_at hl 0 rfl) ?_
      refine lv_aload_n hx hb dX6_ask_48 rfl (lv_at hl 0 rfl) ?_
      refine lv_iconst (v := 0) hx hb dX6_ask_49 (by decide) ?_
      obtain ⟨r7, hr0, h⟩ := bn1_elim h
      refine mp_call1 (As := [.int ((0 : Int32))]) (rest := [.ref (a 0)]) X (c_X6_get l D y a hr0) (mp_cw (k := 1) hts mM_X6_126 mI_X6_get mS_X6_get mN_X6 mC_X6_get rfl rfl (by decide +kernel) ⟨Nat.le_of_ble_eq_true rfl, Nat.le_of_ble_eq_true rfl⟩) hK hP hD hS hA 0 mwC_0 rfl rfl hl.1 rfl (Nat.le_of_ble_eq_true rfl) dX6_ask_50 ⟨Nat.zero_le _, Nat.zero_le _⟩ (fun H locs hP hD hS => ?_)
      refine lv_iload_n hx hb dX6_ask_53 rfl (lv_at hl 1 rfl) ?_
      obtain ⟨r8, hr0, h⟩ := bn1_elim h
      refine mp_call1 (As := [.int r7, .int v1]) (rest := []) X (c_X6_has l D y a hr0) (mp_cw (k := 2) hts mM_X6_104 mI_X6_has mS_X6_has mN_X6 mC_X6_has rfl rfl (by decide +kernel) ⟨Nat.le_of_ble_eq_true rfl, Nat.le_of_ble_eq_true rfl⟩) hK hP hD hS hA 0 mwC_0 rfl rfl hl.1 rfl (Nat.le_of_ble_eq_true rfl) dX6_ask_54 ⟨Nat.zero_le _, Nat.zero_le _⟩ (fun H locs hP hD hS => ?_)
      refine lv_if_eq (tgt := 66) hx hb dX6_ask_57 (by decide) (fun hc => ?_) (fun hc => ?_)
      · replace h := ift hc h
        exact w_X6_ask_b66 X hK hA x4 _ _ _ hP hD hS (lv_sub hl [0] rfl) h
      · replace h := iff_ hc h
        refine lv_aload_n hx hb dX6_ask_60 rfl (lv_at hl 0 rfl) ?_
        obtain ⟨x9, hr0, h⟩ := bn1_elim h
        refine mp_callv (As := []) (rest := []) X (c_X6_met l D y a hr0) (mp_cw (k := 0) hts mM_X6_145 mI_X6_met mS_X6_met mN_X6 mC_X6_met rfl rfl (by decide +kernel) ⟨Nat.le_of_ble_eq_true rfl, Nat.le_of_ble_eq_true rfl⟩) hK hP hD hS hA 0 mwC_0 rfl rfl hl.1 rfl (Nat.le_of_ble_eq_true rfl) dX6_ask_61 ⟨Nat.zero_le _, Nat.zero_le _⟩ (fun H locs hP hD hS => ?_)
        refine lv_iconst (v := 0) hx hb dX6_ask_64 (by decide) ?_
        cases h
        exact mpr_i X hK hP hD hS rfl dX6_ask_65
  · replace h := ift hc h
    refine lv_iconst (v := 0) hx hb dX6_ask_28 (by decide) ?_
    cases h
    exact mpr_i X hK hP hD hS rfl dX6_ask_29
def f_X6_ask (x : PD) (p1 : Int32) : Option (Int32 × PD) :=
  letv (wI x 0 ((0 : Int32))) fun x1 =>
  if p1 < 0 then
  ((f_X6_ask_b21 x1 p1 ((0 : Int32))))
  else
  if ((7 : Int32)) < p1 then
  ((f_X6_ask_b21 x1 p1 ((0 : Int32))))
  else
  (f_X6_ask_b21 x1 p1 ((1 : Int32)))
set_option maxHeartbeats 4000000 in
set_option maxRecDepth 100000 in
theorem c_X6_ask (l : Launch) (D : va_G) (y : CY) (a : Nat → Nat) {x : PD} {x' : PD} {r : Int32} {p1 : Int32} (h : f_X6_ask x p1 = some (r, x')) : mpM l D y yX6_ask cX6_ask 2 (some .int) { frames := 4, cells := 0, slots := 0, locals := 102 } (mw y a x) (mw y a x') [.ref (a 0), .int p1] (some (.int r)) := by
  refine mpM.mk (own := RX6) (by decide) rfl (Nat.le_of_ble_eq_true rfl) ?_
  intro p e s m below meth c A ls X hK hA hP hD hl
  have hS : va_S A s.heap s.heap [] := va_S.rf
  obtain ⟨⟨hx, hb, hml, hown, hts⟩, hr, hlk⟩ := id X
  have hl : lv_has ls 2 [(0, .ref (a 0)), (1, .int p1)] := hl
  unfold f_X6_ask at h
  refine lv_aload_n hx hb dX6_ask_0 rfl (lv_at hl 0 rfl) ?_
  refine lv_iconst (v := 0) hx hb dX6_ask_1 (by decide) ?_
  obtain ⟨x1, e1, h⟩ := letv_elim h
  refine mwP_0_0 X hK hP hD hS mF_X6_80 e1 dX6_ask_2 (fun H locs hP hD hS => ?_)
  refine lv_aload_n hx hb dX6_ask_5 rfl (lv_at hl 0 rfl) ?_
  refine lv_iload_n hx hb dX6_ask_6 rfl (lv_at hl 1 rfl) ?_
  refine lv_if_lt (tgt := 20) hx hb dX6_ask_7 (by decide) (fun hc => ?_) (fun hc => ?_)
  · replace h := ift hc h
    refine lv_iconst (v := 0) hx hb dX6_ask_20 (by decide) ?_
    exact w_X6_ask_b21 X hK hA x1 p1 ((0 : Int32)) _ _ _ hP hD hS (lv_sub hl [0, 1] rfl) h
  · replace h := iff_ hc h
    refine lv_iload_n hx hb dX6_ask_10 rfl (lv_at hl 1 rfl) ?_
    refine lv_bipush (v := 7) hx hb dX6_ask_11 (by decide) ?_
    refine lv_icmp_gt (tgt := 20) hx hb dX6_ask_13 (by decide) (fun hc => ?_) (fun hc => ?_)
    · replace h := ift hc h
      refine lv_iconst (v := 0) hx hb dX6_ask_20 (by decide) ?_
      exact w_X6_ask_b21 X hK hA x1 p1 ((0 : Int32)) _ _ _ hP hD hS (lv_sub hl [0, 1] rfl) h
    · replace h := iff_ hc h
      refine lv_iconst (v := 1) hx hb dX6_ask_16 (by decide) ?_
      refine lv_goto (tgt := 21) hx hb dX6_ask_17 (by decide) ?_
      exact w_X6_ask_b21 X hK hA x1 p1 ((1 : Int32)) _ _ _ hP hD hS (lv_sub hl [0, 1] rfl) h
def f_X6_leave (x : PD) : Option (Int32 × PD) :=
  letv (wI x 0 ((0 : Int32))) fun x1 =>
  bn1 (f_X6_get x1 ((4 : Int32))) fun r2 =>
  letv (wB x1 11 (vp_updL (rB x1 11) (Int32.toNatClampNeg ((4 : Int32))) ((-1 : Int64)))) fun x3 =>
  bn1 (f_X6_finds x3) fun x4 =>
  some (r2, x4)
set_option maxHeartbeats 4000000 in
set_option maxRecDepth 100000 in
theorem c_X6_leave (l : Launch) (D : va_G) (y : CY) (a : Nat → Nat) {x : PD} {x' : PD} {r : Int32} (h : f_X6_leave x = some (r, x')) : mpM l D y yX6_leave cX6_leave 2 (some .int) { frames := 3, cells := 0, slots := 0, locals := 82 } (mw y a x) (mw y a x') [.ref (a 0)] (some (.int r)) := by
  refine mpM.mk (own := RX6) (by decide) rfl (Nat.le_of_ble_eq_true rfl) ?_
  intro p e s m below meth c A ls X hK hA hP hD hl
  have hS : va_S A s.heap s.heap [] := va_S.rf
  obtain ⟨⟨hx, hb, hml, hown, hts⟩, hr, hlk⟩ := id X
  have hl : lv_has ls 2 [(0, .ref (a 0))] := hl
  unfold f_X6_leave at h
  refine lv_aload_n hx hb dX6_leave_0 rfl (lv_at hl 0 rfl) ?_
  refine lv_iconst (v := 0) hx hb dX6_leave_1 (by decide) ?_
  obtain ⟨x1, e1, h⟩ := letv_elim h
  refine mwP_0_0 X hK hP hD hS mF_X6_80 e1 dX6_leave_2 (fun H locs hP hD hS => ?_)
  refine lv_aload_n hx hb dX6_leave_5 rfl (lv_at hl 0 rfl) ?_
  refine lv_iconst (v := 4) hx hb dX6_leave_6 (by decide) ?_
  obtain ⟨r2, hr0, h⟩ := bn1_elim h
  refine mp_call1 (As := [.int ((4 : Int32))]) (rest := []) X (c_X6_get l D y a hr0) (mp_cw (k := 1) hts mM_X6_126 mI_X6_get mS_X6_get mN_X6 mC_X6_get rfl rfl (by decide +kernel) ⟨Nat.le_of_ble_eq_true rfl, Nat.le_of_ble_eq_true rfl⟩) hK hP hD hS hA 0 mwC_0 rfl rfl hl.1 rfl (Nat.le_of_ble_eq_true rfl) dX6_leave_7 ⟨Nat.zero_le _, Nat.zero_le _⟩ (fun H locs hP hD hS => ?_)
  refine lv_istore_n (lv' := [(1, .int r2), (0, .ref (a 0))]) hx hb dX6_leave_10 rfl hl (by decide) rfl (fun ls hl => ?_)
  refine lv_aload_n hx hb dX6_leave_11 rfl (lv_at hl 1 rfl) ?_
  refine mwG_0_13 X hK hP mF_X6_40 dX6_leave_12 ?_
  refine lv_iconst (v := 4) hx hb dX6_leave_15 (by decide) ?_
  refine lv_ldc2 (v := (-1)) hx hb hown (hts _ mK_X6_78) dX6_leave_16 ?_
  obtain ⟨x3, e1, h⟩ := letv_elim h
  refine mwS_11 X hK hP hD hS (by decide) e1 dX6_leave_19 (fun H locs hP hD hS => ?_)
  refine lv_aload_n hx hb dX6_leave_20 rfl (lv_at hl 1 rfl) ?_
  obtain ⟨x4, hr0, h⟩ := bn1_elim h
  refine mp_callv (As := []) (rest := []) X (c_X6_finds l D y a hr0) (mp_cw (k := 0) hts mM_X6_91 mI_X6_finds mS_X6_finds mN_X6 mC_X6_finds rfl rfl (by decide +kernel) ⟨Nat.le_of_ble_eq_true rfl, Nat.le_of_ble_eq_true rfl⟩) hK hP hD hS hA 0 mwC_0 rfl rfl hl.1 rfl (Nat.le_of_ble_eq_true rfl) dX6_leave_21 ⟨Nat.zero_le _, Nat.zero_le _⟩ (fun H locs hP hD hS => ?_)
  refine lv_iload_n hx hb dX6_leave_24 rfl (lv_at hl 0 rfl) ?_
  cases h
  exact mpr_i X hK hP hD hS rfl dX6_leave_25
def f_X6_way_b46 (x : PD) (v1 : Int32) (v2 : Int32) (t0 : Int32) : Option (Int32 × PD) :=
  bn2 (f_X6_right x t0 ((1 : Int32))) fun r2 x3 =>
  if r2 = 0 then
  some ((0 : Int32), x3)
  else
  if v1 = ((-1 : Int32)) then
  (if (rI x3 20) = 0 then
  (some ((-1 : Int32), x3))
  else
  some (v2, x3))
  else
  gd (inR ((rI x3 22) + v1) 32) (some (rA x3 16 (Int32.toNatClampNeg ((rI x3 22) + v1)), x3))
set_option maxHeartbeats 4000000 in
set_option maxRecDepth 100000 in
theorem w_X6_way_b46 {p : Program} {l : Launch} {e : Env} {s : State} {m : MethodId} {args : Array Value} {below : List Frame} {meth : Method} {c : Code} {D : va_G} {y : CY} {a : Nat → Nat} {A : Nat → Prop} {x' : PD} {r : Int32} (X : mpX p s m args meth c cX6_way 3 (some .int) RX6) (hK : va_K D vwCl (mpT y) s) (hA : ∀ q, s.heap.size ≤ q → A q) : ∀ (x : PD) (v1 : Int32) (v2 : Int32) (t0 : Int32) (H : Heap) (locs : List Loc) (ls : Array Slot), va_P D vwCl (mw y a x) H → va_D A (mw y a x) → va_S A s.heap H locs → lv_has ls 3 [(0, .ref (a 0)), (1, .int v1), (2, .int v2)] → f_X6_way_b46 x v1 v2 t0 = some (r, x') → W p l e { frames := 1, cells := 0, slots := 0, locals := 22 } s m args below meth c H locs 0 0 (MQ below (mpC D y A (mw y a x') (some (.int r))) args s 0 0 A) (F0 m 46 ls [.int t0, .ref (a 0)]) := by
  obtain ⟨⟨hx, hb, hml, hown, hts⟩, hr, hlk⟩ := id X
  intro x v1 v2 t0 H locs ls hP hD hS hl h
  unfold f_X6_way_b46 at h
  refine lv_iconst (v := 1) hx hb dX6_way_46 (by decide) ?_
  obtain ⟨r2, x3, hr0, h⟩ := bn2_elim h
  refine mp_call1 (As := [.int t0, .int ((1 : Int32))]) (rest := []) X (c_X6_right l D y a hr0) (mp_cw (k := 2) hts mM_X6_87 mI_X6_right mS_X6_right mN_X6 mC_X6_right rfl rfl (by decide +kernel) ⟨Nat.le_of_ble_eq_true rfl, Nat.le_of_ble_eq_true rfl⟩) hK hP hD hS hA 0 mwC_0 rfl rfl hl.1 rfl (Nat.le_of_ble_eq_true rfl) dX6_way_47 ⟨Nat.zero_le _, Nat.zero_le _⟩ (fun H locs hP hD hS => ?_)
  refine lv_if_ne (tgt := 55) hx hb dX6_way_50 (by decide) (fun hc => ?_) (fun hc => ?_)
  · replace h := iff_ hc h
    refine lv_iload_n hx hb dX6_way_55 rfl (lv_at hl 1 rfl) ?_
    refine lv_iconst (v := -1) hx hb dX6_way_56 (by decide) ?_
    refine lv_icmp_ne (tgt := 73) hx hb dX6_way_57 (by decide) (fun hc => ?_) (fun hc => ?_)
    · replace h := iff_ hc h
      refine lv_aload_n hx hb dX6_way_73 rfl (lv_at hl 0 rfl) ?_
      refine mwG_0_23 X hK hP mF_X6_57 dX6_way_74 ?_
      refine lv_aload_n hx hb dX6_way_77 rfl (lv_at hl 0 rfl) ?_
      refine mwG_0_22 X hK hP mF_X6_123 dX6_way_78 ?_
      refine lv_iload_n hx hb dX6_way_81 rfl (lv_at hl 1 rfl) ?_
      refine lv_iadd hx hb dX6_way_82 ?_
      obtain ⟨hg, h⟩ := gd_elim h
      refine mwL_16 X hK hP hg dX6_way_83 ?_
      cases h
      exact mpr_i X hK hP hD hS rfl dX6_way_84
    · replace h := ift hc h
      refine lv_aload_n hx hb dX6_way_60 rfl (lv_at hl 0 rfl) ?_
      refine mwG_0_20 X hK hP mF_X6_116 dX6_way_61 ?_
      refine lv_if_eq (tgt := 71) hx hb dX6_way_64 (by decide) (fun hc => ?_) (fun hc => ?_)
      · replace h := ift hc h
        refine lv_iconst (v := -1) hx hb dX6_way_71 (by decide) ?_
        cases h
        exact mpr_i X hK hP hD hS rfl dX6_way_72
      · replace h := iff_ hc h
        refine lv_iload_n hx hb dX6_way_67 rfl (lv_at hl 2 rfl) ?_
        refine lv_goto (tgt := 72) hx hb dX6_way_68 (by decide) ?_
        cases h
        exact mpr_i X hK hP hD hS rfl dX6_way_72
  · replace h := ift hc h
    refine lv_iconst (v := 0) hx hb dX6_way_53 (by decide) ?_
    cases h
    exact mpr_i X hK hP hD hS rfl dX6_way_54
def f_X6_way_b25 (x : PD) (v1 : Int32) (t0 : Int32) : Option (Int32 × PD) :=
  if v1 = ((-1 : Int32)) then
  ((f_X6_way_b46 x v1 t0 ((1 : Int32))))
  else
  if v1 < 0 then
  ((f_X6_way_b46 x v1 t0 ((0 : Int32))))
  else
  if t0 ≤ v1 then
  ((f_X6_way_b46 x v1 t0 ((0 : Int32))))
  else
  (f_X6_way_b46 x v1 t0 ((1 : Int32)))
set_option maxHeartbeats 4000000 in
set_option maxRecDepth 100000 in
theorem w_X6_way_b25 {p : Program} {l : Launch} {e : Env} {s : State} {m : MethodId} {args : Array Value} {below : List Frame} {meth : Method} {c : Code} {D : va_G} {y : CY} {a : Nat → Nat} {A : Nat → Prop} {x' : PD} {r : Int32} (X : mpX p s m args meth c cX6_way 3 (some .int) RX6) (hK : va_K D vwCl (mpT y) s) (hA : ∀ q, s.heap.size ≤ q → A q) : ∀ (x : PD) (v1 : Int32) (t0 : Int32) (H : Heap) (locs : List Loc) (ls : Array Slot), va_P D vwCl (mw y a x) H → va_D A (mw y a x) → va_S A s.heap H locs → lv_has ls 3 [(0, .ref (a 0)), (1, .int v1)] → f_X6_way_b25 x v1 t0 = some (r, x') → W p l e { frames := 1, cells := 0, slots := 0, locals := 22 } s m args below meth c H locs 0 0 (MQ below (mpC D y A (mw y a x') (some (.int r))) args s 0 0 A) (F0 m 25 ls [.int t0]) := by
  obtain ⟨⟨hx, hb, hml, hown, hts⟩, hr, hlk⟩ := id X
  intro x v1 t0 H locs ls hP hD hS hl h
  unfold f_X6_way_b25 at h
  refine lv_istore_n (lv' := [(2, .int t0), (0, .ref (a 0)), (1, .int v1)]) hx hb dX6_way_25 rfl hl (by decide) rfl (fun ls hl => ?_)
  refine lv_aload_n hx hb dX6_way_26 rfl (lv_at hl 1 rfl) ?_
  refine lv_iload_n hx hb dX6_way_27 rfl (lv_at hl 2 rfl) ?_
  refine lv_iconst (v := -1) hx hb dX6_way_28 (by decide) ?_
  refine lv_icmp_eq (tgt := 41) hx hb dX6_way_29 (by decide) (fun hc => ?_) (fun hc => ?_)
  · replace h := ift hc h
    refine lv_iconst (v := 1) hx hb dX6_way_41 (by decide) ?_
    refine lv_goto (tgt := 46) hx hb dX6_way_42 (by decide) ?_
    exact w_X6_way_b46 X hK hA x v1 t0 ((1 : Int32)) _ _ _ hP hD hS (lv_sub hl [1, 2, 0] rfl) h
  · replace h := iff_ hc h
    refine lv_iload_n hx hb dX6_way_32 rfl (lv_at hl 2 rfl) ?_
    refine lv_if_lt (tgt := 45) hx hb dX6_way_33 (by decide) (fun hc => ?_) (fun hc => ?_)
    · replace h := ift hc h
      refine lv_iconst (v := 0) hx hb dX6_way_45 (by decide) ?_
      exact w_X6_way_b46 X hK hA x v1 t0 ((0 : Int32)) _ _ _ hP hD hS (lv_sub hl [1, 2, 0] rfl) h
    · replace h := iff_ hc h
      refine lv_iload_n hx hb dX6_way_36 rfl (lv_at hl 2 rfl) ?_
      refine lv_iload_n hx hb dX6_way_37 rfl (lv_at hl 0 rfl) ?_
      refine lv_icmp_ge (tgt := 45) hx hb dX6_way_38 (by decide) (fun hc => ?_) (fun hc => ?_)
      · replace h := ift hc h
        refine lv_iconst (v := 0) hx hb dX6_way_45 (by decide) ?_
        exact w_X6_way_b46 X hK hA x v1 t0 ((0 : Int32)) _ _ _ hP hD hS (lv_sub hl [1, 2, 0] rfl) h
      · replace h := iff_ hc h
        refine lv_iconst (v := 1) hx hb dX6_way_41 (by decide) ?_
        refine lv_goto (tgt := 46) hx hb dX6_way_42 (by decide) ?_
        exact w_X6_way_b46 X hK hA x v1 t0 ((1 : Int32)) _ _ _ hP hD hS (lv_sub hl [1, 2, 0] rfl) h
def f_X6_way (x : PD) (p1 : Int32) : Option (Int32 × PD) :=
  letv (wI x 0 ((0 : Int32))) fun x1 =>
  if (rI x1 20) = 0 then
  ((f_X6_way_b25 x1 p1 ((0 : Int32))))
  else
  (f_X6_way_b25 x1 p1 ((rI x1 21) - (rI x1 22)))
set_option maxHeartbeats 4000000 in
set_option maxRecDepth 100000 in
theorem c_X6_way (l : Launch) (D : va_G) (y : CY) (a : Nat → Nat) {x : PD} {x' : PD} {r : Int32} {p1 : Int32} (h : f_X6_way x p1 = some (r, x')) : mpM l D y yX6_way cX6_way 3 (some .int) { frames := 1, cells := 0, slots := 0, locals := 22 } (mw y a x) (mw y a x') [.ref (a 0), .int p1] (some (.int r)) := by
  refine mpM.mk (own := RX6) (by decide) rfl (Nat.le_of_ble_eq_true rfl) ?_
  intro p e s m below meth c A ls X hK hA hP hD hl
  have hS : va_S A s.heap s.heap [] := va_S.rf
  obtain ⟨⟨hx, hb, hml, hown, hts⟩, hr, hlk⟩ := id X
  have hl : lv_has ls 3 [(0, .ref (a 0)), (1, .int p1)] := hl
  unfold f_X6_way at h
  refine lv_aload_n hx hb dX6_way_0 rfl (lv_at hl 0 rfl) ?_
  refine lv_iconst (v := 0) hx hb dX6_way_1 (by decide) ?_
  obtain ⟨x1, e1, h⟩ := letv_elim h
  refine mwP_0_0 X hK hP hD hS mF_X6_80 e1 dX6_way_2 (fun H locs hP hD hS => ?_)
  refine lv_aload_n hx hb dX6_way_5 rfl (lv_at hl 0 rfl) ?_
  refine mwG_0_20 X hK hP mF_X6_116 dX6_way_6 ?_
  refine lv_if_eq (tgt := 24) hx hb dX6_way_9 (by decide) (fun hc => ?_) (fun hc => ?_)
  · replace h := ift hc h
    refine lv_iconst (v := 0) hx hb dX6_way_24 (by decide) ?_
    exact w_X6_way_b25 X hK hA x1 p1 ((0 : Int32)) _ _ _ hP hD hS (lv_sub hl [0, 1] rfl) h
  · replace h := iff_ hc h
    refine lv_aload_n hx hb dX6_way_12 rfl (lv_at hl 0 rfl) ?_
    refine mwG_0_21 X hK hP mF_X6_120 dX6_way_13 ?_
    refine lv_aload_n hx hb dX6_way_16 rfl (lv_at hl 0 rfl) ?_
    refine mwG_0_22 X hK hP mF_X6_123 dX6_way_17 ?_
    refine lv_isub hx hb dX6_way_20 ?_
    refine lv_goto (tgt := 25) hx hb dX6_way_21 (by decide) ?_
    exact w_X6_way_b25 X hK hA x1 p1 ((rI x1 21) - (rI x1 22)) _ _ _ hP hD hS (lv_sub hl [0, 1] rfl) h
def f_X6_cost_b44 : Nat → PD → Int64 → Int32 → Int32 → Int32 → Int32 → Option (Int64 × PD)
  | 0, _, _, _, _, _, _ => none
  | n + 1, x, v1, v3, v4, v5, v6 =>
    if (rI x 21) ≤ v6 then
  (some (v1, x))
  else
  gd (inR v6 32) (bn1 (f_X6_stepCost x (rA x 16 (Int32.toNatClampNeg v6)) v3 v4 v5) fun r5 =>
  gd (inR v6 32) (bn1 (f_X6_leads x (rA x 16 (Int32.toNatClampNeg v6)) v3) fun r6 =>
  ((f_X6_cost_b44 n) x (v1 + r5) r6 ((0 : Int32)) ((0 : Int32)) (v6 + 1))))
set_option maxHeartbeats 4000000 in
set_option maxRecDepth 100000 in
theorem w_X6_cost_b44 {p : Program} {l : Launch} {e : Env} {s : State} {m : MethodId} {args : Array Value} {below : List Frame} {meth : Method} {c : Code} {D : va_G} {y : CY} {a : Nat → Nat} {A : Nat → Prop} {x' : PD} {r : Int64} (X : mpX p s m args meth c cX6_cost 7 (some .long) RX6) (hK : va_K D vwCl (mpT y) s) (hA : ∀ q, s.heap.size ≤ q → A q) : ∀ (n : Nat), ∀ (x : PD) (v1 : Int64) (v3 : Int32) (v4 : Int32) (v5 : Int32) (v6 : Int32) (H : Heap) (locs : List Loc) (ls : Array Slot), va_P D vwCl (mw y a x) H → va_D A (mw y a x) → va_S A s.heap H locs → lv_has ls 7 [(0, .ref (a 0)), (1, .long v1), (3, .int v3), (4, .int v4), (5, .int v5), (6, .int v6)] → f_X6_cost_b44 n x v1 v3 v4 v5 v6 = some (r, x') → W p l e { frames := 2, cells := 0, slots := 0, locals := 48 } s m args below meth c H locs 0 0 (MQ below (mpC D y A (mw y a x') (some (.long r))) args s 0 0 A) (F0 m 44 ls []) := by
  obtain ⟨⟨hx, hb, hml, hown, hts⟩, hr, hlk⟩ := id X
  intro n
  induction n with
  | zero =>
    intro x v1 v3 v4 v5 v6 H locs ls hP hD hS hl h
    rw [f_X6_cost_b44] at h
    exact nons h
  | succ n ih =>
    intro x v1 v3 v4 v5 v6 H locs ls hP hD hS hl h
    rw [f_X6_cost_b44] at h
    refine lv_iload hx hb dX6_cost_44 (lv_at hl 5 rfl) ?_
    refine lv_aload_n hx hb dX6_cost_46 rfl (lv_at hl 0 rfl) ?_
    refine mwG_0_21 X hK hP mF_X6_120 dX6_cost_47 ?_
    refine lv_icmp_ge (tgt := 97) hx hb dX6_cost_50 (by decide) (fun hc => ?_) (fun hc => ?_)
    · replace h := ift hc h
      refine lv_lload_n hx hb dX6_cost_97 rfl (lv_at hl 1 rfl) ?_
      cases h
      exact mpr_l X hK hP hD hS rfl dX6_cost_98
    · replace h := iff_ hc h
      refine lv_lload_n hx hb dX6_cost_53 rfl (lv_at hl 1 rfl) ?_
      refine lv_aload_n hx hb dX6_cost_54 rfl (lv_at hl 0 rfl) ?_
      refine lv_aload_n hx hb dX6_cost_55 rfl (lv_at hl 0 rfl) ?_
      refine mwG_0_23 X hK hP mF_X6_57 dX6_cost_56 ?_
      refine lv_iload hx hb dX6_cost_59 (lv_at hl 5 rfl) ?_
      obtain ⟨hg, h⟩ := gd_elim h
      refine mwL_16 X hK hP hg dX6_cost_61 ?_
      refine lv_iload_n hx hb dX6_cost_62 rfl (lv_at hl 2 rfl) ?_
      refine lv_iload hx hb dX6_cost_63 (lv_at hl 3 rfl) ?_
      refine lv_iload hx hb dX6_cost_65 (lv_at hl 4 rfl) ?_
      obtain ⟨r5, hr0, h⟩ := bn1_elim h
      refine mp_call1 (As := [.int (rA x 16 (Int32.toNatClampNeg v6)), .int v3, .int v4, .int v5]) (rest := [.long v1]) X (c_X6_stepCost l D y a hr0) (mp_cw (k := 4) hts mM_X6_142 mI_X6_stepCost mS_X6_stepCost mN_X6 mC_X6_stepCost rfl rfl (by decide +kernel) ⟨Nat.le_of_ble_eq_true rfl, Nat.le_of_ble_eq_true rfl⟩) hK hP hD hS hA 0 mwC_0 rfl rfl hl.1 rfl (Nat.le_of_ble_eq_true rfl) dX6_cost_67 ⟨Nat.zero_le _, Nat.zero_le _⟩ (fun H locs hP hD hS => ?_)
      refine lv_ladd hx hb dX6_cost_70 ?_
      refine lv_lstore_n (lv' := [(1, .long (v1 + r5)), (0, .ref (a 0)), (3, .int v3), (4, .int v4), (5, .int v5), (6, .int v6)]) hx hb dX6_cost_71 rfl hl (by decide) rfl (fun ls hl => ?_)
      refine lv_aload_n hx hb dX6_cost_72 rfl (lv_at hl 1 rfl) ?_
      refine lv_aload_n hx hb dX6_cost_73 rfl (lv_at hl 1 rfl) ?_
      refine mwG_0_23 X hK hP mF_X6_57 dX6_cost_74 ?_
      refine lv_iload hx hb dX6_cost_77 (lv_at hl 5 rfl) ?_
      obtain ⟨hg, h⟩ := gd_elim h
      refine mwL_16 X hK hP hg dX6_cost_79 ?_
      refine lv_iload_n hx hb dX6_cost_80 rfl (lv_at hl 2 rfl) ?_
      obtain ⟨r6, hr0, h⟩ := bn1_elim h
      refine mp_call1 (As := [.int (rA x 16 (Int32.toNatClampNeg v6)), .int v3]) (rest := []) X (c_X6_leads l D y a hr0) (mp_cw (k := 2) hts mM_X6_138 mI_X6_leads mS_X6_leads mN_X6 mC_X6_leads rfl rfl (by decide +kernel) ⟨Nat.le_of_ble_eq_true rfl, Nat.le_of_ble_eq_true rfl⟩) hK hP hD hS hA 0 mwC_0 rfl rfl hl.1 rfl (Nat.le_of_ble_eq_true rfl) dX6_cost_81 ⟨Nat.zero_le _, Nat.zero_le _⟩ (fun H locs hP hD hS => ?_)
      refine lv_istore_n (lv' := [(3, .int r6), (1, .long (v1 + r5)), (0, .ref (a 0)), (4, .int v4), (5, .int v5), (6, .int v6)]) hx hb dX6_cost_84 rfl hl (by decide) rfl (fun ls hl => ?_)
      refine lv_iconst (v := 0) hx hb dX6_cost_85 (by decide) ?_
      refine lv_istore (lv' := [(4, .int ((0 : Int32))), (3, .int r6), (1, .long (v1 + r5)), (0, .ref (a 0)), (5, .int v5), (6, .int v6)]) hx hb dX6_cost_86 hl (by decide) rfl (fun ls hl => ?_)
      refine lv_iconst (v := 0) hx hb dX6_cost_88 (by decide) ?_
      refine lv_istore (lv' := [(5, .int ((0 : Int32))), (4, .int ((0 : Int32))), (3, .int r6), (1, .long (v1 + r5)), (0, .ref (a 0)), (6, .int v6)]) hx hb dX6_cost_89 hl (by decide) rfl (fun ls hl => ?_)
      refine lv_iinc (v := v6 + 1) (lv' := [(6, .int (v6 + 1)), (5, .int ((0 : Int32))), (4, .int ((0 : Int32))), (3, .int r6), (1, .long (v1 + r5)), (0, .ref (a 0))]) hx hb dX6_cost_91 hl (k := 5) rfl rfl (by decide) rfl (fun ls hl => ?_)
      refine lv_goto (tgt := 44) hx hb dX6_cost_94 (by decide) ?_
      exact ih x (v1 + r5) r6 ((0 : Int32)) ((0 : Int32)) (v6 + 1) _ _ _ hP hD hS (lv_sub hl [5, 4, 3, 2, 1, 0] rfl) h
def f_X6_cost (x : PD) : Option (Int64 × PD) :=
  letv (wI x 0 ((0 : Int32))) fun x1 =>
  if (rI x1 20) = 0 then
  some ((-1 : Int64), x1)
  else
  bn1 (f_X6_get x1 ((0 : Int32))) fun r2 =>
  bn1 (f_X6_get x1 ((1 : Int32))) fun r3 =>
  bn1 (f_X6_get x1 ((3 : Int32))) fun r4 =>
  (f_X6_cost_b44 FU x1 ((0 : Int64)) r2 r3 r4 (rI x1 22))
set_option maxHeartbeats 4000000 in
set_option maxRecDepth 100000 in
theorem c_X6_cost (l : Launch) (D : va_G) (y : CY) (a : Nat → Nat) {x : PD} {x' : PD} {r : Int64} (h : f_X6_cost x = some (r, x')) : mpM l D y yX6_cost cX6_cost 7 (some .long) { frames := 2, cells := 0, slots := 0, locals := 48 } (mw y a x) (mw y a x') [.ref (a 0)] (some (.long r)) := by
  refine mpM.mk (own := RX6) (by decide) rfl (Nat.le_of_ble_eq_true rfl) ?_
  intro p e s m below meth c A ls X hK hA hP hD hl
  have hS : va_S A s.heap s.heap [] := va_S.rf
  obtain ⟨⟨hx, hb, hml, hown, hts⟩, hr, hlk⟩ := id X
  have hl : lv_has ls 7 [(0, .ref (a 0))] := hl
  unfold f_X6_cost at h
  refine lv_aload_n hx hb dX6_cost_0 rfl (lv_at hl 0 rfl) ?_
  refine lv_iconst (v := 0) hx hb dX6_cost_1 (by decide) ?_
  obtain ⟨x1, e1, h⟩ := letv_elim h
  refine mwP_0_0 X hK hP hD hS mF_X6_80 e1 dX6_cost_2 (fun H locs hP hD hS => ?_)
  refine lv_aload_n hx hb dX6_cost_5 rfl (lv_at hl 0 rfl) ?_
  refine mwG_0_20 X hK hP mF_X6_116 dX6_cost_6 ?_
  refine lv_if_ne (tgt := 16) hx hb dX6_cost_9 (by decide) (fun hc => ?_) (fun hc => ?_)
  · replace h := iff_ hc h
    refine lv_lconst (v := 0) hx hb dX6_cost_16 (by decide) ?_
    refine lv_lstore_n (lv' := [(1, .long ((0 : Int64))), (0, .ref (a 0))]) hx hb dX6_cost_17 rfl hl (by decide) rfl (fun ls hl => ?_)
    refine lv_aload_n hx hb dX6_cost_18 rfl (lv_at hl 1 rfl) ?_
    refine lv_iconst (v := 0) hx hb dX6_cost_19 (by decide) ?_
    obtain ⟨r2, hr0, h⟩ := bn1_elim h
    refine mp_call1 (As := [.int ((0 : Int32))]) (rest := []) X (c_X6_get l D y a hr0) (mp_cw (k := 1) hts mM_X6_126 mI_X6_get mS_X6_get mN_X6 mC_X6_get rfl rfl (by decide +kernel) ⟨Nat.le_of_ble_eq_true rfl, Nat.le_of_ble_eq_true rfl⟩) hK hP hD hS hA 0 mwC_0 rfl rfl hl.1 rfl (Nat.le_of_ble_eq_true rfl) dX6_cost_20 ⟨Nat.zero_le _, Nat.zero_le _⟩ (fun H locs hP hD hS => ?_)
    refine lv_istore_n (lv' := [(3, .int r2), (1, .long ((0 : Int64))), (0, .ref (a 0))]) hx hb dX6_cost_23 rfl hl (by decide) rfl (fun ls hl => ?_)
    refine lv_aload_n hx hb dX6_cost_24 rfl (lv_at hl 2 rfl) ?_
    refine lv_iconst (v := 1) hx hb dX6_cost_25 (by decide) ?_
    obtain ⟨r3, hr0, h⟩ := bn1_elim h
    refine mp_call1 (As := [.int ((1 : Int32))]) (rest := []) X (c_X6_get l D y a hr0) (mp_cw (k := 1) hts mM_X6_126 mI_X6_get mS_X6_get mN_X6 mC_X6_get rfl rfl (by decide +kernel) ⟨Nat.le_of_ble_eq_true rfl, Nat.le_of_ble_eq_true rfl⟩) hK hP hD hS hA 0 mwC_0 rfl rfl hl.1 rfl (Nat.le_of_ble_eq_true rfl) dX6_cost_26 ⟨Nat.zero_le _, Nat.zero_le _⟩ (fun H locs hP hD hS => ?_)
    refine lv_istore (lv' := [(4, .int r3), (3, .int r2), (1, .long ((0 : Int64))), (0, .ref (a 0))]) hx hb dX6_cost_29 hl (by decide) rfl (fun ls hl => ?_)
    refine lv_aload_n hx hb dX6_cost_31 rfl (lv_at hl 3 rfl) ?_
    refine lv_iconst (v := 3) hx hb dX6_cost_32 (by decide) ?_
    obtain ⟨r4, hr0, h⟩ := bn1_elim h
    refine mp_call1 (As := [.int ((3 : Int32))]) (rest := []) X (c_X6_get l D y a hr0) (mp_cw (k := 1) hts mM_X6_126 mI_X6_get mS_X6_get mN_X6 mC_X6_get rfl rfl (by decide +kernel) ⟨Nat.le_of_ble_eq_true rfl, Nat.le_of_ble_eq_true rfl⟩) hK hP hD hS hA 0 mwC_0 rfl rfl hl.1 rfl (Nat.le_of_ble_eq_true rfl) dX6_cost_33 ⟨Nat.zero_le _, Nat.zero_le _⟩ (fun H locs hP hD hS => ?_)
    refine lv_istore (lv' := [(5, .int r4), (4, .int r3), (3, .int r2), (1, .long ((0 : Int64))), (0, .ref (a 0))]) hx hb dX6_cost_36 hl (by decide) rfl (fun ls hl => ?_)
    refine lv_aload_n hx hb dX6_cost_38 rfl (lv_at hl 4 rfl) ?_
    refine mwG_0_22 X hK hP mF_X6_123 dX6_cost_39 ?_
    refine lv_istore (lv' := [(6, .int (rI x1 22)), (5, .int r4), (4, .int r3), (3, .int r2), (1, .long ((0 : Int64))), (0, .ref (a 0))]) hx hb dX6_cost_42 hl (by decide) rfl (fun ls hl => ?_)
    exact w_X6_cost_b44 X hK hA FU x1 ((0 : Int64)) r2 r3 r4 (rI x1 22) _ _ _ hP hD hS (lv_sub hl [5, 4, 3, 2, 1, 0] rfl) h
  · replace h := ift hc h
    refine lv_ldc2 (v := (-1)) hx hb hown (hts _ mK_X6_78) dX6_cost_12 ?_
    cases h
    exact mpr_l X hK hP hD hS rfl dX6_cost_15
def f_X6_isAsked_b42 (x : PD) (t0 : Int32) : Option (Int32 × PD) :=
  bn2 (f_X6_right x t0 ((2 : Int32))) fun r7 x8 =>
  if r7 = 0 then
  (some ((0 : Int32), x8))
  else
  some ((1 : Int32), x8)
set_option maxHeartbeats 4000000 in
set_option maxRecDepth 100000 in
theorem w_X6_isAsked_b42 {p : Program} {l : Launch} {e : Env} {s : State} {m : MethodId} {args : Array Value} {below : List Frame} {meth : Method} {c : Code} {D : va_G} {y : CY} {a : Nat → Nat} {A : Nat → Prop} {x' : PD} {r : Int32} (X : mpX p s m args meth c cX6_isAsked 3 (some .boolean) RX6) (hK : va_K D vwCl (mpT y) s) (hA : ∀ q, s.heap.size ≤ q → A q) : ∀ (x : PD) (t0 : Int32) (H : Heap) (locs : List Loc) (ls : Array Slot), va_P D vwCl (mw y a x) H → va_D A (mw y a x) → va_S A s.heap H locs → lv_has ls 3 [] → f_X6_isAsked_b42 x t0 = some (r, x') → W p l e { frames := 2, cells := 0, slots := 0, locals := 43 } s m args below meth c H locs 0 0 (MQ below (mpC D y A (mw y a x') (some (.int r))) args s 0 0 A) (F0 m 42 ls [.int t0, .ref (a 0)]) := by
  obtain ⟨⟨hx, hb, hml, hown, hts⟩, hr, hlk⟩ := id X
  intro x t0 H locs ls hP hD hS hl h
  unfold f_X6_isAsked_b42 at h
  refine lv_iconst (v := 2) hx hb dX6_isAsked_42 (by decide) ?_
  obtain ⟨r7, x8, hr0, h⟩ := bn2_elim h
  refine mp_call1 (As := [.int t0, .int ((2 : Int32))]) (rest := []) X (c_X6_right l D y a hr0) (mp_cw (k := 2) hts mM_X6_87 mI_X6_right mS_X6_right mN_X6 mC_X6_right rfl rfl (by decide +kernel) ⟨Nat.le_of_ble_eq_true rfl, Nat.le_of_ble_eq_true rfl⟩) hK hP hD hS hA 0 mwC_0 rfl rfl hl.1 rfl (Nat.le_of_ble_eq_true rfl) dX6_isAsked_43 ⟨Nat.zero_le _, Nat.zero_le _⟩ (fun H locs hP hD hS => ?_)
  refine lv_if_eq (tgt := 53) hx hb dX6_isAsked_46 (by decide) (fun hc => ?_) (fun hc => ?_)
  · replace h := ift hc h
    refine lv_iconst (v := 0) hx hb dX6_isAsked_53 (by decide) ?_
    cases h
    exact mpr_z X hK hP hD hS rfl rfl dX6_isAsked_54
  · replace h := iff_ hc h
    refine lv_iconst (v := 1) hx hb dX6_isAsked_49 (by decide) ?_
    refine lv_goto (tgt := 54) hx hb dX6_isAsked_50 (by decide) ?_
    cases h
    exact mpr_z X hK hP hD hS rfl rfl dX6_isAsked_54
def f_X6_isAsked (x : PD) (p1 : Int32) (p2 : Int32) : Option (Int32 × PD) :=
  letv (wI x 0 ((0 : Int32))) fun x1 =>
  bn2 (f_X6_isPiece x1 p1) fun r2 x3 =>
  if r2 = 0 then
  (some ((0 : Int32), x3))
  else
  bn1 (f_X6_isMain x3 p1) fun r4 =>
  bn2 (f_X6_right x3 r4 ((1 : Int32))) fun r5 x6 =>
  if r5 = 0 then
  (some ((0 : Int32), x6))
  else
  if p2 < 0 then
  ((f_X6_isAsked_b42 x6 ((0 : Int32))))
  else
  if ((7 : Int32)) < p2 then
  ((f_X6_isAsked_b42 x6 ((0 : Int32))))
  else
  (f_X6_isAsked_b42 x6 ((1 : Int32)))
set_option maxHeartbeats 4000000 in
set_option maxRecDepth 100000 in
theorem c_X6_isAsked (l : Launch) (D : va_G) (y : CY) (a : Nat → Nat) {x : PD} {x' : PD} {r : Int32} {p1 : Int32} {p2 : Int32} (h : f_X6_isAsked x p1 p2 = some (r, x')) : mpM l D y yX6_isAsked cX6_isAsked 3 (some .boolean) { frames := 2, cells := 0, slots := 0, locals := 43 } (mw y a x) (mw y a x') [.ref (a 0), .int p1, .int p2] (some (.int r)) := by
  refine mpM.mk (own := RX6) (by decide) rfl (Nat.le_of_ble_eq_true rfl) ?_
  intro p e s m below meth c A ls X hK hA hP hD hl
  have hS : va_S A s.heap s.heap [] := va_S.rf
  obtain ⟨⟨hx, hb, hml, hown, hts⟩, hr, hlk⟩ := id X
  have hl : lv_has ls 3 [(0, .ref (a 0)), (1, .int p1), (2, .int p2)] := hl
  unfold f_X6_isAsked at h
  refine lv_aload_n hx hb dX6_isAsked_0 rfl (lv_at hl 0 rfl) ?_
  refine lv_iconst (v := 0) hx hb dX6_isAsked_1 (by decide) ?_
  obtain ⟨x1, e1, h⟩ := letv_elim h
  refine mwP_0_0 X hK hP hD hS mF_X6_80 e1 dX6_isAsked_2 (fun H locs hP hD hS => ?_)
  refine lv_aload_n hx hb dX6_isAsked_5 rfl (lv_at hl 0 rfl) ?_
  refine lv_iload_n hx hb dX6_isAsked_6 rfl (lv_at hl 1 rfl) ?_
  obtain ⟨r2, x3, hr0, h⟩ := bn2_elim h
  refine mp_call1 (As := [.int p1]) (rest := []) X (c_X6_isPiece l D y a hr0) (mp_cw (k := 1) hts mM_X6_94 mI_X6_isPiece mS_X6_isPiece mN_X6 mC_X6_isPiece rfl rfl (by decide +kernel) ⟨Nat.le_of_ble_eq_true rfl, Nat.le_of_ble_eq_true rfl⟩) hK hP hD hS hA 0 mwC_0 rfl rfl hl.1 rfl (Nat.le_of_ble_eq_true rfl) dX6_isAsked_7 ⟨Nat.zero_le _, Nat.zero_le _⟩ (fun H locs hP hD hS => ?_)
  refine lv_if_eq (tgt := 53) hx hb dX6_isAsked_10 (by decide) (fun hc => ?_) (fun hc => ?_)
  · replace h := ift hc h
    refine lv_iconst (v := 0) hx hb dX6_isAsked_53 (by decide) ?_
    cases h
    exact mpr_z X hK hP hD hS rfl rfl dX6_isAsked_54
  · replace h := iff_ hc h
    refine lv_aload_n hx hb dX6_isAsked_13 rfl (lv_at hl 0 rfl) ?_
    refine lv_aload_n hx hb dX6_isAsked_14 rfl (lv_at hl 0 rfl) ?_
    refine lv_iload_n hx hb dX6_isAsked_15 rfl (lv_at hl 1 rfl) ?_
    obtain ⟨r4, hr0, h⟩ := bn1_elim h
    refine mp_call1 (As := [.int p1]) (rest := [.ref (a 0)]) X (c_X6_isMain l D y a hr0) (mp_cw (k := 1) hts mM_X6_101 mI_X6_isMain mS_X6_isMain mN_X6 mC_X6_isMain rfl rfl (by decide +kernel) ⟨Nat.le_of_ble_eq_true rfl, Nat.le_of_ble_eq_true rfl⟩) hK hP hD hS hA 0 mwC_0 rfl rfl hl.1 rfl (Nat.le_of_ble_eq_true rfl) dX6_isAsked_16 ⟨Nat.zero_le _, Nat.zero_le _⟩ (fun H locs hP hD hS => ?_)
    refine lv_iconst (v := 1) hx hb dX6_isAsked_19 (by decide) ?_
    obtain ⟨r5, x6, hr0, h⟩ := bn2_elim h
    refine mp_call1 (As := [.int r4, .int ((1 : Int32))]) (rest := []) X (c_X6_right l D y a hr0) (mp_cw (k := 2) hts mM_X6_87 mI_X6_right mS_X6_right mN_X6 mC_X6_right rfl rfl (by decide +kernel) ⟨Nat.le_of_ble_eq_true rfl, Nat.le_of_ble_eq_true rfl⟩) hK hP hD hS hA 0 mwC_0 rfl rfl hl.1 rfl (Nat.le_of_ble_eq_true rfl) dX6_isAsked_20 ⟨Nat.zero_le _, Nat.zero_le _⟩ (fun H locs hP hD hS => ?_)
    refine lv_if_eq (tgt := 53) hx hb dX6_isAsked_23 (by decide) (fun hc => ?_) (fun hc => ?_)
    · replace h := ift hc h
      refine lv_iconst (v := 0) hx hb dX6_isAsked_53 (by decide) ?_
      cases h
      exact mpr_z X hK hP hD hS rfl rfl dX6_isAsked_54
    · replace h := iff_ hc h
      refine lv_aload_n hx hb dX6_isAsked_26 rfl (lv_at hl 0 rfl) ?_
      refine lv_iload_n hx hb dX6_isAsked_27 rfl (lv_at hl 2 rfl) ?_
      refine lv_if_lt (tgt := 41) hx hb dX6_isAsked_28 (by decide) (fun hc => ?_) (fun hc => ?_)
      · replace h := ift hc h
        refine lv_iconst (v := 0) hx hb dX6_isAsked_41 (by decide) ?_
        exact w_X6_isAsked_b42 X hK hA x6 ((0 : Int32)) _ _ _ hP hD hS (lv_sub hl [] rfl) h
      · replace h := iff_ hc h
        refine lv_iload_n hx hb dX6_isAsked_31 rfl (lv_at hl 2 rfl) ?_
        refine lv_bipush (v := 7) hx hb dX6_isAsked_32 (by decide) ?_
        refine lv_icmp_gt (tgt := 41) hx hb dX6_isAsked_34 (by decide) (fun hc => ?_) (fun hc => ?_)
        · replace h := ift hc h
          refine lv_iconst (v := 0) hx hb dX6_isAsked_41 (by decide) ?_
          exact w_X6_isAsked_b42 X hK hA x6 ((0 : Int32)) _ _ _ hP hD hS (lv_sub hl [] rfl) h
        · replace h := iff_ hc h
          refine lv_iconst (v := 1) hx hb dX6_isAsked_37 (by decide) ?_
          refine lv_goto (tgt := 42) hx hb dX6_isAsked_38 (by decide) ?_
          exact w_X6_isAsked_b42 X hK hA x6 ((1 : Int32)) _ _ _ hP hD hS (lv_sub hl [] rfl) h
def f_X6_reach (x : PD) (p1 : Int32) (p2 : Int32) : Option (Int64 × PD) :=
  bn2 (f_X6_isAsked x p1 p2) fun r1 x2 =>
  if r1 = 0 then
  some ((0 : Int64), x2)
  else
  bn1 (f_X6_reckons x2 p2 ((1 : Int32))) fun x3 =>
  gd (inR p1 20) (if (lg_cmp (rB x3 20 (Int32.toNatClampNeg p1)) ((1000000000000 : Int64))) < 0 then
  (gd (inR p1 20) (some (rB x3 20 (Int32.toNatClampNeg p1), x3)))
  else
  some ((-1 : Int64), x3))
set_option maxHeartbeats 4000000 in
set_option maxRecDepth 100000 in
theorem c_X6_reach (l : Launch) (D : va_G) (y : CY) (a : Nat → Nat) {x : PD} {x' : PD} {r : Int64} {p1 : Int32} {p2 : Int32} (h : f_X6_reach x p1 p2 = some (r, x')) : mpM l D y yX6_reach cX6_reach 3 (some .long) { frames := 3, cells := 0, slots := 0, locals := 65 } (mw y a x) (mw y a x') [.ref (a 0), .int p1, .int p2] (some (.long r)) := by
  refine mpM.mk (own := RX6) (by decide) rfl (Nat.le_of_ble_eq_true rfl) ?_
  intro p e s m below meth c A ls X hK hA hP hD hl
  have hS : va_S A s.heap s.heap [] := va_S.rf
  obtain ⟨⟨hx, hb, hml, hown, hts⟩, hr, hlk⟩ := id X
  have hl : lv_has ls 3 [(0, .ref (a 0)), (1, .int p1), (2, .int p2)] := hl
  unfold f_X6_reach at h
  refine lv_aload_n hx hb dX6_reach_0 rfl (lv_at hl 0 rfl) ?_
  refine lv_iload_n hx hb dX6_reach_1 rfl (lv_at hl 1 rfl) ?_
  refine lv_iload_n hx hb dX6_reach_2 rfl (lv_at hl 2 rfl) ?_
  obtain ⟨r1, x2, hr0, h⟩ := bn2_elim h
  refine mp_call1 (As := [.int p1, .int p2]) (rest := []) X (c_X6_isAsked l D y a hr0) (mp_cw (k := 2) hts mM_X6_148 mI_X6_isAsked mS_X6_isAsked mN_X6 mC_X6_isAsked rfl rfl (by decide +kernel) ⟨Nat.le_of_ble_eq_true rfl, Nat.le_of_ble_eq_true rfl⟩) hK hP hD hS hA 0 mwC_0 rfl rfl hl.1 rfl (Nat.le_of_ble_eq_true rfl) dX6_reach_3 ⟨Nat.zero_le _, Nat.zero_le _⟩ (fun H locs hP hD hS => ?_)
  refine lv_if_ne (tgt := 11) hx hb dX6_reach_6 (by decide) (fun hc => ?_) (fun hc => ?_)
  · replace h := iff_ hc h
    refine lv_aload_n hx hb dX6_reach_11 rfl (lv_at hl 0 rfl) ?_
    refine lv_iload_n hx hb dX6_reach_12 rfl (lv_at hl 2 rfl) ?_
    refine lv_iconst (v := 1) hx hb dX6_reach_13 (by decide) ?_
    obtain ⟨x3, hr0, h⟩ := bn1_elim h
    refine mp_callv (As := [.int p2, .int ((1 : Int32))]) (rest := []) X (c_X6_reckons l D y a hr0) (mp_cw (k := 2) hts mM_X6_130 mI_X6_reckons mS_X6_reckons mN_X6 mC_X6_reckons rfl rfl (by decide +kernel) ⟨Nat.le_of_ble_eq_true rfl, Nat.le_of_ble_eq_true rfl⟩) hK hP hD hS hA 0 mwC_0 rfl rfl hl.1 rfl (Nat.le_of_ble_eq_true rfl) dX6_reach_14 ⟨Nat.zero_le _, Nat.zero_le _⟩ (fun H locs hP hD hS => ?_)
    refine lv_aload_n hx hb dX6_reach_17 rfl (lv_at hl 0 rfl) ?_
    refine mwG_0_28 X hK hP mF_X6_69 dX6_reach_18 ?_
    refine lv_iload_n hx hb dX6_reach_21 rfl (lv_at hl 1 rfl) ?_
    obtain ⟨hg, h⟩ := gd_elim h
    refine mwL_20 X hK hP hg dX6_reach_22 ?_
    refine lv_ldc2 (v := 1000000000000) hx hb hown (hts _ mK_X6_108) dX6_reach_23 ?_
    refine W.lcmp hx hb dX6_reach_26 ?_
    refine lv_if_lt (tgt := 36) hx hb dX6_reach_27 (by decide) (fun hc => ?_) (fun hc => ?_)
    · replace h := ift hc h
      refine lv_aload_n hx hb dX6_reach_36 rfl (lv_at hl 0 rfl) ?_
      refine mwG_0_28 X hK hP mF_X6_69 dX6_reach_37 ?_
      refine lv_iload_n hx hb dX6_reach_40 rfl (lv_at hl 1 rfl) ?_
      obtain ⟨hg, h⟩ := gd_elim h
      refine mwL_20 X hK hP hg dX6_reach_41 ?_
      cases h
      exact mpr_l X hK hP hD hS rfl dX6_reach_42
    · replace h := iff_ hc h
      refine lv_ldc2 (v := (-1)) hx hb hown (hts _ mK_X6_78) dX6_reach_30 ?_
      refine lv_goto (tgt := 42) hx hb dX6_reach_33 (by decide) ?_
      cases h
      exact mpr_l X hK hP hD hS rfl dX6_reach_42
  · replace h := ift hc h
    refine lv_lconst (v := 0) hx hb dX6_reach_9 (by decide) ?_
    cases h
    exact mpr_l X hK hP hD hS rfl dX6_reach_10
def f_X6_lacks_b188 (x : PD) (v4 : Int32) (v5 : Int32) : Option (Int32 × PD) :=
  if v5 = (rI x 1) then
  some ((-1 : Int32), x)
  else
  some ((((100 : Int32)) * v4) + v5, x)
set_option maxHeartbeats 4000000 in
set_option maxRecDepth 100000 in
theorem w_X6_lacks_b188 {p : Program} {l : Launch} {e : Env} {s : State} {m : MethodId} {args : Array Value} {below : List Frame} {meth : Method} {c : Code} {D : va_G} {y : CY} {a : Nat → Nat} {A : Nat → Prop} {x' : PD} {r : Int32} (X : mpX p s m args meth c cX6_lacks 6 (some .int) RX6) (hK : va_K D vwCl (mpT y) s) (hA : ∀ q, s.heap.size ≤ q → A q) : ∀ (x : PD) (v4 : Int32) (v5 : Int32) (H : Heap) (locs : List Loc) (ls : Array Slot), va_P D vwCl (mw y a x) H → va_D A (mw y a x) → va_S A s.heap H locs → lv_has ls 6 [(0, .ref (a 0)), (4, .int v4), (5, .int v5)] → f_X6_lacks_b188 x v4 v5 = some (r, x') → W p l e { frames := 3, cells := 0, slots := 0, locals := 65 } s m args below meth c H locs 0 0 (MQ below (mpC D y A (mw y a x') (some (.int r))) args s 0 0 A) (F0 m 188 ls []) := by
  obtain ⟨⟨hx, hb, hml, hown, hts⟩, hr, hlk⟩ := id X
  intro x v4 v5 H locs ls hP hD hS hl h
  unfold f_X6_lacks_b188 at h
  refine lv_iload hx hb dX6_lacks_188 (lv_at hl 2 rfl) ?_
  refine lv_aload_n hx hb dX6_lacks_190 rfl (lv_at hl 0 rfl) ?_
  refine mwG_0_1 X hK hP mF_X6_84 dX6_lacks_191 ?_
  refine lv_icmp_ne (tgt := 201) hx hb dX6_lacks_194 (by decide) (fun hc => ?_) (fun hc => ?_)
  · replace h := iff_ hc h
    refine lv_bipush (v := 100) hx hb dX6_lacks_201 (by decide) ?_
    refine lv_iload hx hb dX6_lacks_203 (lv_at hl 1 rfl) ?_
    refine lv_imul hx hb dX6_lacks_205 ?_
    refine lv_iload hx hb dX6_lacks_206 (lv_at hl 2 rfl) ?_
    refine lv_iadd hx hb dX6_lacks_208 ?_
    cases h
    exact mpr_i X hK hP hD hS rfl dX6_lacks_209
  · replace h := ift hc h
    refine lv_iconst (v := -1) hx hb dX6_lacks_197 (by decide) ?_
    refine lv_goto (tgt := 209) hx hb dX6_lacks_198 (by decide) ?_
    cases h
    exact mpr_i X hK hP hD hS rfl dX6_lacks_209
def f_X6_lacks_b163 : Nat → PD → Int32 → Int32 → Int32 → Option (Int32 × PD)
  | 0, _, _, _, _ => none
  | n + 1, x, v2, v4, v5 =>
    if (rI x 1) ≤ v5 then
  ((f_X6_lacks_b188 x v4 v5))
  else
  bn1 (f_X6_has x v5 v2) fun r4 =>
  if r4 = 0 then
  ((f_X6_lacks_b163 n) x v2 v4 (v5 + 1))
  else
  (f_X6_lacks_b188 x v4 v5)
set_option maxHeartbeats 4000000 in
set_option maxRecDepth 100000 in
theorem w_X6_lacks_b163 {p : Program} {l : Launch} {e : Env} {s : State} {m : MethodId} {args : Array Value} {below : List Frame} {meth : Method} {c : Code} {D : va_G} {y : CY} {a : Nat → Nat} {A : Nat → Prop} {x' : PD} {r : Int32} (X : mpX p s m args meth c cX6_lacks 6 (some .int) RX6) (hK : va_K D vwCl (mpT y) s) (hA : ∀ q, s.heap.size ≤ q → A q) : ∀ (n : Nat), ∀ (x : PD) (v2 : Int32) (v4 : Int32) (v5 : Int32) (H : Heap) (locs : List Loc) (ls : Array Slot), va_P D vwCl (mw y a x) H → va_D A (mw y a x) → va_S A s.heap H locs → lv_has ls 6 [(0, .ref (a 0)), (2, .int v2), (4, .int v4), (5, .int v5)] → f_X6_lacks_b163 n x v2 v4 v5 = some (r, x') → W p l e { frames := 3, cells := 0, slots := 0, locals := 65 } s m args below meth c H locs 0 0 (MQ below (mpC D y A (mw y a x') (some (.int r))) args s 0 0 A) (F0 m 163 ls []) := by
  obtain ⟨⟨hx, hb, hml, hown, hts⟩, hr, hlk⟩ := id X
  intro n
  induction n with
  | zero =>
    intro x v2 v4 v5 H locs ls hP hD hS hl h
    rw [f_X6_lacks_b163] at h
    exact nons h
  | succ n ih =>
    intro x v2 v4 v5 H locs ls hP hD hS hl h
    rw [f_X6_lacks_b163] at h
    refine lv_iload hx hb dX6_lacks_163 (lv_at hl 3 rfl) ?_
    refine lv_aload_n hx hb dX6_lacks_165 rfl (lv_at hl 0 rfl) ?_
    refine mwG_0_1 X hK hP mF_X6_84 dX6_lacks_166 ?_
    refine lv_icmp_ge (tgt := 188) hx hb dX6_lacks_169 (by decide) (fun hc => ?_) (fun hc => ?_)
    · replace h := ift hc h
      exact w_X6_lacks_b188 X hK hA x v4 v5 _ _ _ hP hD hS (lv_sub hl [0, 2, 3] rfl) h
    · replace h := iff_ hc h
      refine lv_aload_n hx hb dX6_lacks_172 rfl (lv_at hl 0 rfl) ?_
      refine lv_iload hx hb dX6_lacks_173 (lv_at hl 3 rfl) ?_
      refine lv_iload_n hx hb dX6_lacks_175 rfl (lv_at hl 1 rfl) ?_
      obtain ⟨r4, hr0, h⟩ := bn1_elim h
      refine mp_call1 (As := [.int v5, .int v2]) (rest := []) X (c_X6_has l D y a hr0) (mp_cw (k := 2) hts mM_X6_104 mI_X6_has mS_X6_has mN_X6 mC_X6_has rfl rfl (by decide +kernel) ⟨Nat.le_of_ble_eq_true rfl, Nat.le_of_ble_eq_true rfl⟩) hK hP hD hS hA 0 mwC_0 rfl rfl hl.1 rfl (Nat.le_of_ble_eq_true rfl) dX6_lacks_176 ⟨Nat.zero_le _, Nat.zero_le _⟩ (fun H locs hP hD hS => ?_)
      refine lv_if_ne (tgt := 188) hx hb dX6_lacks_179 (by decide) (fun hc => ?_) (fun hc => ?_)
      · replace h := iff_ hc h
        exact w_X6_lacks_b188 X hK hA x v4 v5 _ _ _ hP hD hS (lv_sub hl [0, 2, 3] rfl) h
      · replace h := ift hc h
        refine lv_iinc (v := v5 + 1) (lv' := [(5, .int (v5 + 1)), (0, .ref (a 0)), (2, .int v2), (4, .int v4)]) hx hb dX6_lacks_182 hl (k := 3) rfl rfl (by decide) rfl (fun ls hl => ?_)
        refine lv_goto (tgt := 163) hx hb dX6_lacks_185 (by decide) ?_
        exact ih x v2 v4 (v5 + 1) _ _ _ hP hD hS (lv_sub hl [1, 2, 3, 0] rfl) h
def f_X6_lacks_b144 : Nat → PD → Int32 → Int32 → Option (Int32 × PD)
  | 0, _, _, _ => none
  | n + 1, x, v2, v4 =>
    gd (inR v4 20) (if (rA x 22 (Int32.toNatClampNeg v4)) = 0 then
  ((f_X6_lacks_b144 n) x v2 (v4 + 1))
  else
  (f_X6_lacks_b163 FU x v2 v4 ((0 : Int32))))
set_option maxHeartbeats 4000000 in
set_option maxRecDepth 100000 in
theorem w_X6_lacks_b144 {p : Program} {l : Launch} {e : Env} {s : State} {m : MethodId} {args : Array Value} {below : List Frame} {meth : Method} {c : Code} {D : va_G} {y : CY} {a : Nat → Nat} {A : Nat → Prop} {x' : PD} {r : Int32} (X : mpX p s m args meth c cX6_lacks 6 (some .int) RX6) (hK : va_K D vwCl (mpT y) s) (hA : ∀ q, s.heap.size ≤ q → A q) : ∀ (n : Nat), ∀ (x : PD) (v2 : Int32) (v4 : Int32) (H : Heap) (locs : List Loc) (ls : Array Slot), va_P D vwCl (mw y a x) H → va_D A (mw y a x) → va_S A s.heap H locs → lv_has ls 6 [(0, .ref (a 0)), (2, .int v2), (4, .int v4)] → f_X6_lacks_b144 n x v2 v4 = some (r, x') → W p l e { frames := 3, cells := 0, slots := 0, locals := 65 } s m args below meth c H locs 0 0 (MQ below (mpC D y A (mw y a x') (some (.int r))) args s 0 0 A) (F0 m 144 ls []) := by
  obtain ⟨⟨hx, hb, hml, hown, hts⟩, hr, hlk⟩ := id X
  intro n
  induction n with
  | zero =>
    intro x v2 v4 H locs ls hP hD hS hl h
    rw [f_X6_lacks_b144] at h
    exact nons h
  | succ n ih =>
    intro x v2 v4 H locs ls hP hD hS hl h
    rw [f_X6_lacks_b144] at h
    refine lv_aload_n hx hb dX6_lacks_144 rfl (lv_at hl 0 rfl) ?_
    refine mwG_0_30 X hK hP mF_X6_75 dX6_lacks_145 ?_
    refine lv_iload hx hb dX6_lacks_148 (lv_at hl 2 rfl) ?_
    obtain ⟨hg, h⟩ := gd_elim h
    refine mwL_22 X hK hP hg dX6_lacks_150 ?_
    refine lv_if_ne (tgt := 160) hx hb dX6_lacks_151 (by decide) (fun hc => ?_) (fun hc => ?_)
    · replace h := iff_ hc h
      refine lv_iconst (v := 0) hx hb dX6_lacks_160 (by decide) ?_
      refine lv_istore (lv' := [(5, .int ((0 : Int32))), (0, .ref (a 0)), (2, .int v2), (4, .int v4)]) hx hb dX6_lacks_161 hl (by decide) rfl (fun ls hl => ?_)
      exact w_X6_lacks_b163 X hK hA FU x v2 v4 ((0 : Int32)) _ _ _ hP hD hS (lv_sub hl [1, 2, 3, 0] rfl) h
    · replace h := ift hc h
      refine lv_iinc (v := v4 + 1) (lv' := [(4, .int (v4 + 1)), (0, .ref (a 0)), (2, .int v2)]) hx hb dX6_lacks_154 hl (k := 2) rfl rfl (by decide) rfl (fun ls hl => ?_)
      refine lv_goto (tgt := 144) hx hb dX6_lacks_157 (by decide) ?_
      exact ih x v2 (v4 + 1) _ _ _ hP hD hS (lv_sub hl [1, 2, 0] rfl) h
def f_X6_lacks_b75 (k66 : PD → Int32 → Int32 → Option (Int32 × PD)) : Nat → PD → Int32 → Int32 → Int32 → Option (Int32 × PD)
  | 0, _, _, _, _ => none
  | n + 1, x, v2, v3, v4 =>
    if (rI x 2) ≤ v4 then
  ((k66 x v2 v3))
  else
  gd (inR v4 100) (gd (inR (rA x 6 (Int32.toNatClampNeg v4)) 20) (if (rA x 22 (Int32.toNatClampNeg (rA x 6 (Int32.toNatClampNeg v4)))) = 0 then
  (((f_X6_lacks_b75 k66 n) x v2 v3 (v4 + 1)))
  else
  gd (inR v4 100) (gd (inR (rA x 8 (Int32.toNatClampNeg v4)) 20) (if (rA x 22 (Int32.toNatClampNeg (rA x 8 (Int32.toNatClampNeg v4)))) = 0 then
  (gd (inR v4 100) (gd (inR (rA x 8 (Int32.toNatClampNeg v4)) 20) (letv (wA x 22 (upd (rA x 22) (Int32.toNatClampNeg (rA x 8 (Int32.toNatClampNeg v4))) (vp_nar .boolean ((1 : Int32))))) fun x5 =>
  ((f_X6_lacks_b75 k66 n) x5 v2 ((1 : Int32)) (v4 + 1)))))
  else
  ((f_X6_lacks_b75 k66 n) x v2 v3 (v4 + 1))))))
set_option maxHeartbeats 4000000 in
set_option maxRecDepth 100000 in
theorem w_X6_lacks_b75 {p : Program} {l : Launch} {e : Env} {s : State} {m : MethodId} {args : Array Value} {below : List Frame} {meth : Method} {c : Code} {D : va_G} {y : CY} {a : Nat → Nat} {A : Nat → Prop} {x' : PD} {r : Int32} {k66 : PD → Int32 → Int32 → Option (Int32 × PD)} (X : mpX p s m args meth c cX6_lacks 6 (some .int) RX6) (hK : va_K D vwCl (mpT y) s) (hA : ∀ q, s.heap.size ≤ q → A q) (hk66 : ∀ (x : PD) (v2 : Int32) (v3 : Int32) (H : Heap) (locs : List Loc) (ls : Array Slot), va_P D vwCl (mw y a x) H → va_D A (mw y a x) → va_S A s.heap H locs → lv_has ls 6 [(0, .ref (a 0)), (2, .int v2), (3, .int v3)] → k66 x v2 v3 = some (r, x') → W p l e { frames := 3, cells := 0, slots := 0, locals := 65 } s m args below meth c H locs 0 0 (MQ below (mpC D y A (mw y a x') (some (.int r))) args s 0 0 A) (F0 m 66 ls [])) : ∀ (n : Nat), ∀ (x : PD) (v2 : Int32) (v3 : Int32) (v4 : Int32) (H : Heap) (locs : List Loc) (ls : Array Slot), va_P D vwCl (mw y a x) H → va_D A (mw y a x) → va_S A s.heap H locs → lv_has ls 6 [(0, .ref (a 0)), (2, .int v2), (3, .int v3), (4, .int v4)] → f_X6_lacks_b75 k66 n x v2 v3 v4 = some (r, x') → W p l e { frames := 3, cells := 0, slots := 0, locals := 65 } s m args below meth c H locs 0 0 (MQ below (mpC D y A (mw y a x') (some (.int r))) args s 0 0 A) (F0 m 75 ls []) := by
  obtain ⟨⟨hx, hb, hml, hown, hts⟩, hr, hlk⟩ := id X
  intro n
  induction n with
  | zero =>
    intro x v2 v3 v4 H locs ls hP hD hS hl h
    rw [f_X6_lacks_b75] at h
    exact nons h
  | succ n ih =>
    intro x v2 v3 v4 H locs ls hP hD hS hl h
    rw [f_X6_lacks_b75] at h
    refine lv_iload hx hb dX6_lacks_75 (lv_at hl 3 rfl) ?_
    refine lv_aload_n hx hb dX6_lacks_77 rfl (lv_at hl 0 rfl) ?_
    refine mwG_0_2 X hK hP mF_X6_98 dX6_lacks_78 ?_
    refine lv_icmp_ge (tgt := 138) hx hb dX6_lacks_81 (by decide) (fun hc => ?_) (fun hc => ?_)
    · replace h := ift hc h
      refine lv_goto (tgt := 66) hx hb dX6_lacks_138 (by decide) ?_
      exact hk66 x v2 v3 _ _ _ hP hD hS (lv_sub hl [0, 1, 2] rfl) h
    · replace h := iff_ hc h
      refine lv_aload_n hx hb dX6_lacks_84 rfl (lv_at hl 0 rfl) ?_
      refine mwG_0_30 X hK hP mF_X6_75 dX6_lacks_85 ?_
      refine lv_aload_n hx hb dX6_lacks_88 rfl (lv_at hl 0 rfl) ?_
      refine mwG_0_8 X hK hP mF_X6_25 dX6_lacks_89 ?_
      refine lv_iload hx hb dX6_lacks_92 (lv_at hl 3 rfl) ?_
      obtain ⟨hg, h⟩ := gd_elim h
      refine mwL_6 X hK hP hg dX6_lacks_94 ?_
      obtain ⟨hg, h⟩ := gd_elim h
      refine mwL_22 X hK hP hg dX6_lacks_95 ?_
      refine lv_if_eq (tgt := 132) hx hb dX6_lacks_96 (by decide) (fun hc => ?_) (fun hc => ?_)
      · replace h := ift hc h
        refine lv_iinc (v := v4 + 1) (lv' := [(4, .int (v4 + 1)), (0, .ref (a 0)), (2, .int v2), (3, .int v3)]) hx hb dX6_lacks_132 hl (k := 3) rfl rfl (by decide) rfl (fun ls hl => ?_)
        refine lv_goto (tgt := 75) hx hb dX6_lacks_135 (by decide) ?_
        exact ih x v2 v3 (v4 + 1) _ _ _ hP hD hS (lv_sub hl [1, 2, 3, 0] rfl) h
      · replace h := iff_ hc h
        refine lv_aload_n hx hb dX6_lacks_99 rfl (lv_at hl 0 rfl) ?_
        refine mwG_0_30 X hK hP mF_X6_75 dX6_lacks_100 ?_
        refine lv_aload_n hx hb dX6_lacks_103 rfl (lv_at hl 0 rfl) ?_
        refine mwG_0_10 X hK hP mF_X6_31 dX6_lacks_104 ?_
        refine lv_iload hx hb dX6_lacks_107 (lv_at hl 3 rfl) ?_
        obtain ⟨hg, h⟩ := gd_elim h
        refine mwL_8 X hK hP hg dX6_lacks_109 ?_
        obtain ⟨hg, h⟩ := gd_elim h
        refine mwL_22 X hK hP hg dX6_lacks_110 ?_
        refine lv_if_eq (tgt := 117) hx hb dX6_lacks_111 (by decide) (fun hc => ?_) (fun hc => ?_)
        · replace h := ift hc h
          refine lv_aload_n hx hb dX6_lacks_117 rfl (lv_at hl 0 rfl) ?_
          refine mwG_0_30 X hK hP mF_X6_75 dX6_lacks_118 ?_
          refine lv_aload_n hx hb dX6_lacks_121 rfl (lv_at hl 0 rfl) ?_
          refine mwG_0_10 X hK hP mF_X6_31 dX6_lacks_122 ?_
          refine lv_iload hx hb dX6_lacks_125 (lv_at hl 3 rfl) ?_
          obtain ⟨hg, h⟩ := gd_elim h
          refine mwL_8 X hK hP hg dX6_lacks_127 ?_
          refine lv_iconst (v := 1) hx hb dX6_lacks_128 (by decide) ?_
          obtain ⟨hg, h⟩ := gd_elim h
          obtain ⟨x5, e1, h⟩ := letv_elim h
          refine mwS_22 X hK hP hD hS hg e1 dX6_lacks_129 (fun H locs hP hD hS => ?_)
          refine lv_iconst (v := 1) hx hb dX6_lacks_130 (by decide) ?_
          refine lv_istore_n (lv' := [(3, .int ((1 : Int32))), (0, .ref (a 0)), (2, .int v2), (4, .int v4)]) hx hb dX6_lacks_131 rfl hl (by decide) rfl (fun ls hl => ?_)
          refine lv_iinc (v := v4 + 1) (lv' := [(4, .int (v4 + 1)), (3, .int ((1 : Int32))), (0, .ref (a 0)), (2, .int v2)]) hx hb dX6_lacks_132 hl (k := 3) rfl rfl (by decide) rfl (fun ls hl => ?_)
          refine lv_goto (tgt := 75) hx hb dX6_lacks_135 (by decide) ?_
          exact ih x5 v2 ((1 : Int32)) (v4 + 1) _ _ _ hP hD hS (lv_sub hl [2, 3, 1, 0] rfl) h
        · replace h := iff_ hc h
          refine lv_goto (tgt := 132) hx hb dX6_lacks_114 (by decide) ?_
          refine lv_iinc (v := v4 + 1) (lv' := [(4, .int (v4 + 1)), (0, .ref (a 0)), (2, .int v2), (3, .int v3)]) hx hb dX6_lacks_132 hl (k := 3) rfl rfl (by decide) rfl (fun ls hl => ?_)
          refine lv_goto (tgt := 75) hx hb dX6_lacks_135 (by decide) ?_
          exact ih x v2 v3 (v4 + 1) _ _ _ hP hD hS (lv_sub hl [1, 2, 3, 0] rfl) h
def f_X6_lacks_b66 : Nat → PD → Int32 → Int32 → Option (Int32 × PD)
  | 0, _, _, _ => none
  | n + 1, x, v2, v3 =>
    if v3 = 0 then
  ((f_X6_lacks_b144 FU x v2 ((0 : Int32))))
  else
  (f_X6_lacks_b75 (f_X6_lacks_b66 n) FU x v2 ((0 : Int32)) ((0 : Int32)))
set_option maxHeartbeats 4000000 in
set_option maxRecDepth 100000 in
theorem w_X6_lacks_b66 {p : Program} {l : Launch} {e : Env} {s : State} {m : MethodId} {args : Array Value} {below : List Frame} {meth : Method} {c : Code} {D : va_G} {y : CY} {a : Nat → Nat} {A : Nat → Prop} {x' : PD} {r : Int32} (X : mpX p s m args meth c cX6_lacks 6 (some .int) RX6) (hK : va_K D vwCl (mpT y) s) (hA : ∀ q, s.heap.size ≤ q → A q) : ∀ (n : Nat), ∀ (x : PD) (v2 : Int32) (v3 : Int32) (H : Heap) (locs : List Loc) (ls : Array Slot), va_P D vwCl (mw y a x) H → va_D A (mw y a x) → va_S A s.heap H locs → lv_has ls 6 [(0, .ref (a 0)), (2, .int v2), (3, .int v3)] → f_X6_lacks_b66 n x v2 v3 = some (r, x') → W p l e { frames := 3, cells := 0, slots := 0, locals := 65 } s m args below meth c H locs 0 0 (MQ below (mpC D y A (mw y a x') (some (.int r))) args s 0 0 A) (F0 m 66 ls []) := by
  obtain ⟨⟨hx, hb, hml, hown, hts⟩, hr, hlk⟩ := id X
  intro n
  induction n with
  | zero =>
    intro x v2 v3 H locs ls hP hD hS hl h
    rw [f_X6_lacks_b66] at h
    exact nons h
  | succ n ih =>
    intro x v2 v3 H locs ls hP hD hS hl h
    rw [f_X6_lacks_b66] at h
    refine lv_iload_n hx hb dX6_lacks_66 rfl (lv_at hl 2 rfl) ?_
    refine lv_if_eq (tgt := 141) hx hb dX6_lacks_67 (by decide) (fun hc => ?_) (fun hc => ?_)
    · replace h := ift hc h
      refine lv_iconst (v := 0) hx hb dX6_lacks_141 (by decide) ?_
      refine lv_istore (lv' := [(4, .int ((0 : Int32))), (0, .ref (a 0)), (2, .int v2), (3, .int v3)]) hx hb dX6_lacks_142 hl (by decide) rfl (fun ls hl => ?_)
      exact w_X6_lacks_b144 X hK hA FU x v2 ((0 : Int32)) _ _ _ hP hD hS (lv_sub hl [1, 2, 0] rfl) h
    · replace h := iff_ hc h
      refine lv_iconst (v := 0) hx hb dX6_lacks_70 (by decide) ?_
      refine lv_istore_n (lv' := [(3, .int ((0 : Int32))), (0, .ref (a 0)), (2, .int v2)]) hx hb dX6_lacks_71 rfl hl (by decide) rfl (fun ls hl => ?_)
      refine lv_iconst (v := 0) hx hb dX6_lacks_72 (by decide) ?_
      refine lv_istore (lv' := [(4, .int ((0 : Int32))), (3, .int ((0 : Int32))), (0, .ref (a 0)), (2, .int v2)]) hx hb dX6_lacks_73 hl (by decide) rfl (fun ls hl => ?_)
      exact w_X6_lacks_b75 X hK hA ih FU x v2 ((0 : Int32)) ((0 : Int32)) _ _ _ hP hD hS (lv_sub hl [2, 3, 1, 0] rfl) h
def f_X6_lacks_b34 : Nat → PD → Int32 → Int32 → Int32 → Option (Int32 × PD)
  | 0, _, _, _, _ => none
  | n + 1, x, v1, v2, v3 =>
    if (rI x 1) ≤ v3 then
  ((f_X6_lacks_b66 FU x v2 ((1 : Int32))))
  else
  if v3 = v1 then
  gd (inR v3 20) (letv (wA x 22 (upd (rA x 22) (Int32.toNatClampNeg v3) (vp_nar .boolean ((1 : Int32))))) fun x7 =>
  ((f_X6_lacks_b34 n) x7 v1 v2 (v3 + 1)))
  else
  gd (inR v3 20) (letv (wA x 22 (upd (rA x 22) (Int32.toNatClampNeg v3) (vp_nar .boolean ((0 : Int32))))) fun x6 =>
  ((f_X6_lacks_b34 n) x6 v1 v2 (v3 + 1)))
set_option maxHeartbeats 4000000 in
set_option maxRecDepth 100000 in
theorem w_X6_lacks_b34 {p : Program} {l : Launch} {e : Env} {s : State} {m : MethodId} {args : Array Value} {below : List Frame} {meth : Method} {c : Code} {D : va_G} {y : CY} {a : Nat → Nat} {A : Nat → Prop} {x' : PD} {r : Int32} (X : mpX p s m args meth c cX6_lacks 6 (some .int) RX6) (hK : va_K D vwCl (mpT y) s) (hA : ∀ q, s.heap.size ≤ q → A q) : ∀ (n : Nat), ∀ (x : PD) (v1 : Int32) (v2 : Int32) (v3 : Int32) (H : Heap) (locs : List Loc) (ls : Array Slot), va_P D vwCl (mw y a x) H → va_D A (mw y a x) → va_S A s.heap H locs → lv_has ls 6 [(0, .ref (a 0)), (1, .int v1), (2, .int v2), (3, .int v3)] → f_X6_lacks_b34 n x v1 v2 v3 = some (r, x') → W p l e { frames := 3, cells := 0, slots := 0, locals := 65 } s m args below meth c H locs 0 0 (MQ below (mpC D y A (mw y a x') (some (.int r))) args s 0 0 A) (F0 m 34 ls []) := by
  obtain ⟨⟨hx, hb, hml, hown, hts⟩, hr, hlk⟩ := id X
  intro n
  induction n with
  | zero =>
    intro x v1 v2 v3 H locs ls hP hD hS hl h
    rw [f_X6_lacks_b34] at h
    exact nons h
  | succ n ih =>
    intro x v1 v2 v3 H locs ls hP hD hS hl h
    rw [f_X6_lacks_b34] at h
    refine lv_iload_n hx hb dX6_lacks_34 rfl (lv_at hl 3 rfl) ?_
    refine lv_aload_n hx hb dX6_lacks_35 rfl (lv_at hl 0 rfl) ?_
    refine mwG_0_1 X hK hP mF_X6_84 dX6_lacks_36 ?_
    refine lv_icmp_ge (tgt := 64) hx hb dX6_lacks_39 (by decide) (fun hc => ?_) (fun hc => ?_)
    · replace h := ift hc h
      refine lv_iconst (v := 1) hx hb dX6_lacks_64 (by decide) ?_
      refine lv_istore_n (lv' := [(3, .int ((1 : Int32))), (0, .ref (a 0)), (1, .int v1), (2, .int v2)]) hx hb dX6_lacks_65 rfl hl (by decide) rfl (fun ls hl => ?_)
      exact w_X6_lacks_b66 X hK hA FU x v2 ((1 : Int32)) _ _ _ hP hD hS (lv_sub hl [1, 3, 0] rfl) h
    · replace h := iff_ hc h
      refine lv_aload_n hx hb dX6_lacks_42 rfl (lv_at hl 0 rfl) ?_
      refine mwG_0_30 X hK hP mF_X6_75 dX6_lacks_43 ?_
      refine lv_iload_n hx hb dX6_lacks_46 rfl (lv_at hl 3 rfl) ?_
      refine lv_iload_n hx hb dX6_lacks_47 rfl (lv_at hl 3 rfl) ?_
      refine lv_iload_n hx hb dX6_lacks_48 rfl (lv_at hl 1 rfl) ?_
      refine lv_icmp_ne (tgt := 56) hx hb dX6_lacks_49 (by decide) (fun hc => ?_) (fun hc => ?_)
      · replace h := iff_ hc h
        refine lv_iconst (v := 0) hx hb dX6_lacks_56 (by decide) ?_
        obtain ⟨hg, h⟩ := gd_elim h
        obtain ⟨x6, e1, h⟩ := letv_elim h
        refine mwS_22 X hK hP hD hS hg e1 dX6_lacks_57 (fun H locs hP hD hS => ?_)
        refine lv_iinc (v := v3 + 1) (lv' := [(3, .int (v3 + 1)), (0, .ref (a 0)), (1, .int v1), (2, .int v2)]) hx hb dX6_lacks_58 hl (k := 3) rfl rfl (by decide) rfl (fun ls hl => ?_)
        refine lv_goto (tgt := 34) hx hb dX6_lacks_61 (by decide) ?_
        exact ih x6 v1 v2 (v3 + 1) _ _ _ hP hD hS (lv_sub hl [1, 2, 3, 0] rfl) h
      · replace h := ift hc h
        refine lv_iconst (v := 1) hx hb dX6_lacks_52 (by decide) ?_
        refine lv_goto (tgt := 57) hx hb dX6_lacks_53 (by decide) ?_
        obtain ⟨hg, h⟩ := gd_elim h
        obtain ⟨x7, e1, h⟩ := letv_elim h
        refine mwS_22 X hK hP hD hS hg e1 dX6_lacks_57 (fun H locs hP hD hS => ?_)
        refine lv_iinc (v := v3 + 1) (lv' := [(3, .int (v3 + 1)), (0, .ref (a 0)), (1, .int v1), (2, .int v2)]) hx hb dX6_lacks_58 hl (k := 3) rfl rfl (by decide) rfl (fun ls hl => ?_)
        refine lv_goto (tgt := 34) hx hb dX6_lacks_61 (by decide) ?_
        exact ih x7 v1 v2 (v3 + 1) _ _ _ hP hD hS (lv_sub hl [1, 2, 3, 0] rfl) h
def f_X6_lacks (x : PD) (p1 : Int32) (p2 : Int32) : Option (Int32 × PD) :=
  bn2 (f_X6_isAsked x p1 p2) fun r1 x2 =>
  if r1 = 0 then
  some ((0 : Int32), x2)
  else
  bn1 (f_X6_reckons x2 p2 ((1 : Int32))) fun x3 =>
  gd (inR p1 20) (if 0 ≤ (lg_cmp (rB x3 20 (Int32.toNatClampNeg p1)) ((1000000000000 : Int64))) then
  ((f_X6_lacks_b34 FU x3 p1 p2 ((0 : Int32))))
  else
  some ((-1 : Int32), x3))
set_option maxHeartbeats 4000000 in
set_option maxRecDepth 100000 in
theorem c_X6_lacks (l : Launch) (D : va_G) (y : CY) (a : Nat → Nat) {x : PD} {x' : PD} {r : Int32} {p1 : Int32} {p2 : Int32} (h : f_X6_lacks x p1 p2 = some (r, x')) : mpM l D y yX6_lacks cX6_lacks 6 (some .int) { frames := 3, cells := 0, slots := 0, locals := 65 } (mw y a x) (mw y a x') [.ref (a 0), .int p1, .int p2] (some (.int r)) := by
  refine mpM.mk (own := RX6) (by decide) rfl (Nat.le_of_ble_eq_true rfl) ?_
  intro p e s m below meth c A ls X hK hA hP hD hl
  have hS : va_S A s.heap s.heap [] := va_S.rf
  obtain ⟨⟨hx, hb, hml, hown, hts⟩, hr, hlk⟩ := id X
  have hl : lv_has ls 6 [(0, .ref (a 0)), (1, .int p1), (2, .int p2)] := hl
  unfold f_X6_lacks at h
  refine lv_aload_n hx hb dX6_lacks_0 rfl (lv_at hl 0 rfl) ?_
  refine lv_iload_n hx hb dX6_lacks_1 rfl (lv_at hl 1 rfl) ?_
  refine lv_iload_n hx hb dX6_lacks_2 rfl (lv_at hl 2 rfl) ?_
  obtain ⟨r1, x2, hr0, h⟩ := bn2_elim h
  refine mp_call1 (As := [.int p1, .int p2]) (rest := []) X (c_X6_isAsked l D y a hr0) (mp_cw (k := 2) hts mM_X6_148 mI_X6_isAsked mS_X6_isAsked mN_X6 mC_X6_isAsked rfl rfl (by decide +kernel) ⟨Nat.le_of_ble_eq_true rfl, Nat.le_of_ble_eq_true rfl⟩) hK hP hD hS hA 0 mwC_0 rfl rfl hl.1 rfl (Nat.le_of_ble_eq_true rfl) dX6_lacks_3 ⟨Nat.zero_le _, Nat.zero_le _⟩ (fun H locs hP hD hS => ?_)
  refine lv_if_ne (tgt := 11) hx hb dX6_lacks_6 (by decide) (fun hc => ?_) (fun hc => ?_)
  · replace h := iff_ hc h
    refine lv_aload_n hx hb dX6_lacks_11 rfl (lv_at hl 0 rfl) ?_
    refine lv_iload_n hx hb dX6_lacks_12 rfl (lv_at hl 2 rfl) ?_
    refine lv_iconst (v := 1) hx hb dX6_lacks_13 (by decide) ?_
    obtain ⟨x3, hr0, h⟩ := bn1_elim h
    refine mp_callv (As := [.int p2, .int ((1 : Int32))]) (rest := []) X (c_X6_reckons l D y a hr0) (mp_cw (k := 2) hts mM_X6_130 mI_X6_reckons mS_X6_reckons mN_X6 mC_X6_reckons rfl rfl (by decide +kernel) ⟨Nat.le_of_ble_eq_true rfl, Nat.le_of_ble_eq_true rfl⟩) hK hP hD hS hA 0 mwC_0 rfl rfl hl.1 rfl (Nat.le_of_ble_eq_true rfl) dX6_lacks_14 ⟨Nat.zero_le _, Nat.zero_le _⟩ (fun H locs hP hD hS => ?_)
    refine lv_aload_n hx hb dX6_lacks_17 rfl (lv_at hl 0 rfl) ?_
    refine mwG_0_28 X hK hP mF_X6_69 dX6_lacks_18 ?_
    refine lv_iload_n hx hb dX6_lacks_21 rfl (lv_at hl 1 rfl) ?_
    obtain ⟨hg, h⟩ := gd_elim h
    refine mwL_20 X hK hP hg dX6_lacks_22 ?_
    refine lv_ldc2 (v := 1000000000000) hx hb hown (hts _ mK_X6_108) dX6_lacks_23 ?_
    refine W.lcmp hx hb dX6_lacks_26 ?_
    refine lv_if_ge (tgt := 32) hx hb dX6_lacks_27 (by decide) (fun hc => ?_) (fun hc => ?_)
    · replace h := ift hc h
      refine lv_iconst (v := 0) hx hb dX6_lacks_32 (by decide) ?_
      refine lv_istore_n (lv' := [(3, .int ((0 : Int32))), (0, .ref (a 0)), (1, .int p1), (2, .int p2)]) hx hb dX6_lacks_33 rfl hl (by decide) rfl (fun ls hl => ?_)
      exact w_X6_lacks_b34 X hK hA FU x3 p1 p2 ((0 : Int32)) _ _ _ hP hD hS (lv_sub hl [1, 2, 3, 0] rfl) h
    · replace h := iff_ hc h
      refine lv_iconst (v := -1) hx hb dX6_lacks_30 (by decide) ?_
      cases h
      exact mpr_i X hK hP hD hS rfl dX6_lacks_31
  · replace h := ift hc h
    refine lv_iconst (v := 0) hx hb dX6_lacks_9 (by decide) ?_
    cases h
    exact mpr_i X hK hP hD hS rfl dX6_lacks_10
def f_X6_layer (x : PD) (p1 : Int32) (p2 : Int32) : Option (Int32 × PD) :=
  letv (wI x 0 ((0 : Int32))) fun x1 =>
  bn2 (f_X6_isPiece x1 p1) fun r2 x3 =>
  if r2 = 0 then
  some ((0 : Int32), x3)
  else
  gd (inR p1 20) (if (rA x3 1 (Int32.toNatClampNeg p1)) = ((2 : Int32)) then
  (if p2 < 0 then
  (some ((-1 : Int32), x3))
  else
  if p2 ≤ ((8 : Int32)) then
  (bn1 (f_X6_get x3 (((16 : Int32)) + p1)) fun r4 =>
  gd (inR (((16 : Int32)) + p1) 56) (letv (wB x3 11 (vp_updL (rB x3 11) (Int32.toNatClampNeg (((16 : Int32)) + p1)) (Int32.toInt64 p2))) fun x5 =>
  some (r4, x5)))
  else
  some ((-1 : Int32), x3))
  else
  some ((-1 : Int32), x3))
set_option maxHeartbeats 4000000 in
set_option maxRecDepth 100000 in
theorem c_X6_layer (l : Launch) (D : va_G) (y : CY) (a : Nat → Nat) {x : PD} {x' : PD} {r : Int32} {p1 : Int32} {p2 : Int32} (h : f_X6_layer x p1 p2 = some (r, x')) : mpM l D y yX6_layer cX6_layer 4 (some .int) { frames := 2, cells := 0, slots := 0, locals := 43 } (mw y a x) (mw y a x') [.ref (a 0), .int p1, .int p2] (some (.int r)) := by
  refine mpM.mk (own := RX6) (by decide) rfl (Nat.le_of_ble_eq_true rfl) ?_
  intro p e s m below meth c A ls X hK hA hP hD hl
  have hS : va_S A s.heap s.heap [] := va_S.rf
  obtain ⟨⟨hx, hb, hml, hown, hts⟩, hr, hlk⟩ := id X
  have hl : lv_has ls 4 [(0, .ref (a 0)), (1, .int p1), (2, .int p2)] := hl
  unfold f_X6_layer at h
  refine lv_aload_n hx hb dX6_layer_0 rfl (lv_at hl 0 rfl) ?_
  refine lv_iconst (v := 0) hx hb dX6_layer_1 (by decide) ?_
  obtain ⟨x1, e1, h⟩ := letv_elim h
  refine mwP_0_0 X hK hP hD hS mF_X6_80 e1 dX6_layer_2 (fun H locs hP hD hS => ?_)
  refine lv_aload_n hx hb dX6_layer_5 rfl (lv_at hl 0 rfl) ?_
  refine lv_iload_n hx hb dX6_layer_6 rfl (lv_at hl 1 rfl) ?_
  obtain ⟨r2, x3, hr0, h⟩ := bn2_elim h
  refine mp_call1 (As := [.int p1]) (rest := []) X (c_X6_isPiece l D y a hr0) (mp_cw (k := 1) hts mM_X6_94 mI_X6_isPiece mS_X6_isPiece mN_X6 mC_X6_isPiece rfl rfl (by decide +kernel) ⟨Nat.le_of_ble_eq_true rfl, Nat.le_of_ble_eq_true rfl⟩) hK hP hD hS hA 0 mwC_0 rfl rfl hl.1 rfl (Nat.le_of_ble_eq_true rfl) dX6_layer_7 ⟨Nat.zero_le _, Nat.zero_le _⟩ (fun H locs hP hD hS => ?_)
  refine lv_if_ne (tgt := 15) hx hb dX6_layer_10 (by decide) (fun hc => ?_) (fun hc => ?_)
  · replace h := iff_ hc h
    refine lv_aload_n hx hb dX6_layer_15 rfl (lv_at hl 0 rfl) ?_
    refine mwG_0_3 X hK hP mF_X6_7 dX6_layer_16 ?_
    refine lv_iload_n hx hb dX6_layer_19 rfl (lv_at hl 1 rfl) ?_
    obtain ⟨hg, h⟩ := gd_elim h
    refine mwL_1 X hK hP hg dX6_layer_20 ?_
    refine lv_iconst (v := 2) hx hb dX6_layer_21 (by decide) ?_
    refine lv_icmp_ne (tgt := 35) hx hb dX6_layer_22 (by decide) (fun hc => ?_) (fun hc => ?_)
    · replace h := iff_ hc h
      refine lv_iconst (v := -1) hx hb dX6_layer_35 (by decide) ?_
      cases h
      exact mpr_i X hK hP hD hS rfl dX6_layer_36
    · replace h := ift hc h
      refine lv_iload_n hx hb dX6_layer_25 rfl (lv_at hl 2 rfl) ?_
      refine lv_if_lt (tgt := 35) hx hb dX6_layer_26 (by decide) (fun hc => ?_) (fun hc => ?_)
      · replace h := ift hc h
        refine lv_iconst (v := -1) hx hb dX6_layer_35 (by decide) ?_
        cases h
        exact mpr_i X hK hP hD hS rfl dX6_layer_36
      · replace h := iff_ hc h
        refine lv_iload_n hx hb dX6_layer_29 rfl (lv_at hl 2 rfl) ?_
        refine lv_bipush (v := 8) hx hb dX6_layer_30 (by decide) ?_
        refine lv_icmp_le (tgt := 37) hx hb dX6_layer_32 (by decide) (fun hc => ?_) (fun hc => ?_)
        · replace h := ift hc h
          refine lv_aload_n hx hb dX6_layer_37 rfl (lv_at hl 0 rfl) ?_
          refine lv_bipush (v := 16) hx hb dX6_layer_38 (by decide) ?_
          refine lv_iload_n hx hb dX6_layer_40 rfl (lv_at hl 1 rfl) ?_
          refine lv_iadd hx hb dX6_layer_41 ?_
          obtain ⟨r4, hr0, h⟩ := bn1_elim h
          refine mp_call1 (As := [.int (((16 : Int32)) + p1)]) (rest := []) X (c_X6_get l D y a hr0) (mp_cw (k := 1) hts mM_X6_126 mI_X6_get mS_X6_get mN_X6 mC_X6_get rfl rfl (by decide +kernel) ⟨Nat.le_of_ble_eq_true rfl, Nat.le_of_ble_eq_true rfl⟩) hK hP hD hS hA 0 mwC_0 rfl rfl hl.1 rfl (Nat.le_of_ble_eq_true rfl) dX6_layer_42 ⟨Nat.zero_le _, Nat.zero_le _⟩ (fun H locs hP hD hS => ?_)
          refine lv_istore_n (lv' := [(3, .int r4), (0, .ref (a 0)), (1, .int p1), (2, .int p2)]) hx hb dX6_layer_45 rfl hl (by decide) rfl (fun ls hl => ?_)
          refine lv_aload_n hx hb dX6_layer_46 rfl (lv_at hl 1 rfl) ?_
          refine mwG_0_13 X hK hP mF_X6_40 dX6_layer_47 ?_
          refine lv_bipush (v := 16) hx hb dX6_layer_50 (by decide) ?_
          refine lv_iload_n hx hb dX6_layer_52 rfl (lv_at hl 2 rfl) ?_
          refine lv_iadd hx hb dX6_layer_53 ?_
          refine lv_iload_n hx hb dX6_layer_54 rfl (lv_at hl 3 rfl) ?_
          refine lv_i2l (v := Int32.toInt64 p2) hx hb dX6_layer_55 rfl ?_
          obtain ⟨hg, h⟩ := gd_elim h
          obtain ⟨x5, e1, h⟩ := letv_elim h
          refine mwS_11 X hK hP hD hS hg e1 dX6_layer_56 (fun H locs hP hD hS => ?_)
          refine lv_iload_n hx hb dX6_layer_57 rfl (lv_at hl 0 rfl) ?_
          cases h
          exact mpr_i X hK hP hD hS rfl dX6_layer_58
        · replace h := iff_ hc h
          refine lv_iconst (v := -1) hx hb dX6_layer_35 (by decide) ?_
          cases h
          exact mpr_i X hK hP hD hS rfl dX6_layer_36
  · replace h := ift hc h
    refine lv_iconst (v := 0) hx hb dX6_layer_13 (by decide) ?_
    cases h
    exact mpr_i X hK hP hD hS rfl dX6_layer_14
def f_X6_sting (x : PD) (p1 : Int32) : Option (Int32 × PD) :=
  letv (wI x 0 ((0 : Int32))) fun x1 =>
  bn2 (f_X6_isPiece x1 p1) fun r2 x3 =>
  if r2 = 0 then
  some ((0 : Int32), x3)
  else
  gd (inR p1 20) (if (rA x3 1 (Int32.toNatClampNeg p1)) = ((3 : Int32)) then
  bn1 (f_X6_get x3 ((6 : Int32))) fun r4 =>
  if r4 = ((4 : Int32)) then
  some ((-1 : Int32), x3)
  else
  bn1 (f_X6_get x3 ((6 : Int32))) fun r5 =>
  gd (inR (((7 : Int32)) + r5) 56) (letv (wB x3 11 (vp_updL (rB x3 11) (Int32.toNatClampNeg (((7 : Int32)) + r5)) (Int32.toInt64 p1))) fun x6 =>
  letv (wB x6 11 (vp_updL (rB x6 11) (Int32.toNatClampNeg ((6 : Int32))) ((rB x6 11 (Int32.toNatClampNeg ((6 : Int32)))) + ((1 : Int64))))) fun x7 =>
  bn1 (f_X6_get x7 ((6 : Int32))) fun r8 =>
  some (r8, x7))
  else
  some ((-1 : Int32), x3))
set_option maxHeartbeats 4000000 in
set_option maxRecDepth 100000 in
theorem c_X6_sting (l : Launch) (D : va_G) (y : CY) (a : Nat → Nat) {x : PD} {x' : PD} {r : Int32} {p1 : Int32} (h : f_X6_sting x p1 = some (r, x')) : mpM l D y yX6_sting cX6_sting 2 (some .int) { frames := 2, cells := 0, slots := 0, locals := 43 } (mw y a x) (mw y a x') [.ref (a 0), .int p1] (some (.int r)) := by
  refine mpM.mk (own := RX6) (by decide) rfl (Nat.le_of_ble_eq_true rfl) ?_
  intro p e s m below meth c A ls X hK hA hP hD hl
  have hS : va_S A s.heap s.heap [] := va_S.rf
  obtain ⟨⟨hx, hb, hml, hown, hts⟩, hr, hlk⟩ := id X
  have hl : lv_has ls 2 [(0, .ref (a 0)), (1, .int p1)] := hl
  unfold f_X6_sting at h
  refine lv_aload_n hx hb dX6_sting_0 rfl (lv_at hl 0 rfl) ?_
  refine lv_iconst (v := 0) hx hb dX6_sting_1 (by decide) ?_
  obtain ⟨x1, e1, h⟩ := letv_elim h
  refine mwP_0_0 X hK hP hD hS mF_X6_80 e1 dX6_sting_2 (fun H locs hP hD hS => ?_)
  refine lv_aload_n hx hb dX6_sting_5 rfl (lv_at hl 0 rfl) ?_
  refine lv_iload_n hx hb dX6_sting_6 rfl (lv_at hl 1 rfl) ?_
  obtain ⟨r2, x3, hr0, h⟩ := bn2_elim h
  refine mp_call1 (As := [.int p1]) (rest := []) X (c_X6_isPiece l D y a hr0) (mp_cw (k := 1) hts mM_X6_94 mI_X6_isPiece mS_X6_isPiece mN_X6 mC_X6_isPiece rfl rfl (by decide +kernel) ⟨Nat.le_of_ble_eq_true rfl, Nat.le_of_ble_eq_true rfl⟩) hK hP hD hS hA 0 mwC_0 rfl rfl hl.1 rfl (Nat.le_of_ble_eq_true rfl) dX6_sting_7 ⟨Nat.zero_le _, Nat.zero_le _⟩ (fun H locs hP hD hS => ?_)
  refine lv_if_ne (tgt := 15) hx hb dX6_sting_10 (by decide) (fun hc => ?_) (fun hc => ?_)
  · replace h := iff_ hc h
    refine lv_aload_n hx hb dX6_sting_15 rfl (lv_at hl 0 rfl) ?_
    refine mwG_0_3 X hK hP mF_X6_7 dX6_sting_16 ?_
    refine lv_iload_n hx hb dX6_sting_19 rfl (lv_at hl 1 rfl) ?_
    obtain ⟨hg, h⟩ := gd_elim h
    refine mwL_1 X hK hP hg dX6_sting_20 ?_
    refine lv_iconst (v := 3) hx hb dX6_sting_21 (by decide) ?_
    refine lv_icmp_ne (tgt := 35) hx hb dX6_sting_22 (by decide) (fun hc => ?_) (fun hc => ?_)
    · replace h := iff_ hc h
      refine lv_iconst (v := -1) hx hb dX6_sting_35 (by decide) ?_
      cases h
      exact mpr_i X hK hP hD hS rfl dX6_sting_36
    · replace h := ift hc h
      refine lv_aload_n hx hb dX6_sting_25 rfl (lv_at hl 0 rfl) ?_
      refine lv_bipush (v := 6) hx hb dX6_sting_26 (by decide) ?_
      obtain ⟨r4, hr0, h⟩ := bn1_elim h
      refine mp_call1 (As := [.int ((6 : Int32))]) (rest := []) X (c_X6_get l D y a hr0) (mp_cw (k := 1) hts mM_X6_126 mI_X6_get mS_X6_get mN_X6 mC_X6_get rfl rfl (by decide +kernel) ⟨Nat.le_of_ble_eq_true rfl, Nat.le_of_ble_eq_true rfl⟩) hK hP hD hS hA 0 mwC_0 rfl rfl hl.1 rfl (Nat.le_of_ble_eq_true rfl) dX6_sting_28 ⟨Nat.zero_le _, Nat.zero_le _⟩ (fun H locs hP hD hS => ?_)
      refine lv_iconst (v := 4) hx hb dX6_sting_31 (by decide) ?_
      refine lv_icmp_ne (tgt := 37) hx hb dX6_sting_32 (by decide) (fun hc => ?_) (fun hc => ?_)
      · replace h := iff_ hc h
        refine lv_aload_n hx hb dX6_sting_37 rfl (lv_at hl 0 rfl) ?_
        refine mwG_0_13 X hK hP mF_X6_40 dX6_sting_38 ?_
        refine lv_bipush (v := 7) hx hb dX6_sting_41 (by decide) ?_
        refine lv_aload_n hx hb dX6_sting_43 rfl (lv_at hl 0 rfl) ?_
        refine lv_bipush (v := 6) hx hb dX6_sting_44 (by decide) ?_
        obtain ⟨r5, hr0, h⟩ := bn1_elim h
        refine mp_call1 (As := [.int ((6 : Int32))]) (rest := [.int ((7 : Int32)), .ref (a 11)]) X (c_X6_get l D y a hr0) (mp_cw (k := 1) hts mM_X6_126 mI_X6_get mS_X6_get mN_X6 mC_X6_get rfl rfl (by decide +kernel) ⟨Nat.le_of_ble_eq_true rfl, Nat.le_of_ble_eq_true rfl⟩) hK hP hD hS hA 0 mwC_0 rfl rfl hl.1 rfl (Nat.le_of_ble_eq_true rfl) dX6_sting_46 ⟨Nat.zero_le _, Nat.zero_le _⟩ (fun H locs hP hD hS => ?_)
        refine lv_iadd hx hb dX6_sting_49 ?_
        refine lv_iload_n hx hb dX6_sting_50 rfl (lv_at hl 1 rfl) ?_
        refine lv_i2l (v := Int32.toInt64 p1) hx hb dX6_sting_51 rfl ?_
        obtain ⟨hg, h⟩ := gd_elim h
        obtain ⟨x6, e1, h⟩ := letv_elim h
        refine mwS_11 X hK hP hD hS hg e1 dX6_sting_52 (fun H locs hP hD hS => ?_)
        refine lv_aload_n hx hb dX6_sting_53 rfl (lv_at hl 0 rfl) ?_
        refine mwG_0_13 X hK hP mF_X6_40 dX6_sting_54 ?_
        refine lv_bipush (v := 6) hx hb dX6_sting_57 (by decide) ?_
        refine lv_dup2_11 hx hb dX6_sting_59 rfl rfl ?_
        refine mwL_11 X hK hP (by decide) dX6_sting_60 ?_
        refine lv_lconst (v := 1) hx hb dX6_sting_61 (by decide) ?_
        refine lv_ladd hx hb dX6_sting_62 ?_
        obtain ⟨x7, e1, h⟩ := letv_elim h
        refine mwS_11 X hK hP hD hS (by decide) e1 dX6_sting_63 (fun H locs hP hD hS => ?_)
        refine lv_aload_n hx hb dX6_sting_64 rfl (lv_at hl 0 rfl) ?_
        refine lv_bipush (v := 6) hx hb dX6_sting_65 (by decide) ?_
        obtain ⟨r8, hr0, h⟩ := bn1_elim h
        refine mp_call1 (As := [.int ((6 : Int32))]) (rest := []) X (c_X6_get l D y a hr0) (mp_cw (k := 1) hts mM_X6_126 mI_X6_get mS_X6_get mN_X6 mC_X6_get rfl rfl (by decide +kernel) ⟨Nat.le_of_ble_eq_true rfl, Nat.le_of_ble_eq_true rfl⟩) hK hP hD hS hA 0 mwC_0 rfl rfl hl.1 rfl (Nat.le_of_ble_eq_true rfl) dX6_sting_67 ⟨Nat.zero_le _, Nat.zero_le _⟩ (fun H locs hP hD hS => ?_)
        cases h
        exact mpr_i X hK hP hD hS rfl dX6_sting_70
      · replace h := ift hc h
        refine lv_iconst (v := -1) hx hb dX6_sting_35 (by decide) ?_
        cases h
        exact mpr_i X hK hP hD hS rfl dX6_sting_36
  · replace h := ift hc h
    refine lv_iconst (v := 0) hx hb dX6_sting_13 (by decide) ?_
    cases h
    exact mpr_i X hK hP hD hS rfl dX6_sting_14
def f_X6_levels_b4 (x : PD) : Nat → Int32 → Int32 → Option (Int32)
  | 0, _, _ => none
  | n + 1, v1, v2 =>
    if (rI x 1) ≤ v2 then
  (some v1)
  else
  bn1 (f_X6_get x (((36 : Int32)) + v2)) fun r1 =>
  ((f_X6_levels_b4 x n) (v1 + r1) (v2 + 1))
set_option maxHeartbeats 4000000 in
set_option maxRecDepth 100000 in
theorem w_X6_levels_b4 {p : Program} {l : Launch} {e : Env} {s : State} {m : MethodId} {args : Array Value} {below : List Frame} {meth : Method} {c : Code} {D : va_G} {y : CY} {a : Nat → Nat} {A : Nat → Prop} {x : PD} {r : Int32} (X : mpX p s m args meth c cX6_levels 3 (some .int) RX6) (hK : va_K D vwCl (mpT y) s) (hA : ∀ q, s.heap.size ≤ q → A q) : ∀ (n : Nat), ∀ (v1 : Int32) (v2 : Int32) (H : Heap) (locs : List Loc) (ls : Array Slot), va_P D vwCl (mw y a x) H → va_D A (mw y a x) → va_S A s.heap H locs → lv_has ls 3 [(0, .ref (a 0)), (1, .int v1), (2, .int v2)] → f_X6_levels_b4 x n v1 v2 = some r → W p l e { frames := 1, cells := 0, slots := 0, locals := 21 } s m args below meth c H locs 0 0 (MQ below (mpC D y A (mw y a x) (some (.int r))) args s 0 0 A) (F0 m 4 ls []) := by
  obtain ⟨⟨hx, hb, hml, hown, hts⟩, hr, hlk⟩ := id X
  intro n
  induction n with
  | zero =>
    intro v1 v2 H locs ls hP hD hS hl h
    rw [f_X6_levels_b4] at h
    exact nons h
  | succ n ih =>
    intro v1 v2 H locs ls hP hD hS hl h
    rw [f_X6_levels_b4] at h
    refine lv_iload_n hx hb dX6_levels_4 rfl (lv_at hl 2 rfl) ?_
    refine lv_aload_n hx hb dX6_levels_5 rfl (lv_at hl 0 rfl) ?_
    refine mwG_0_1 X hK hP mF_X6_84 dX6_levels_6 ?_
    refine lv_icmp_ge (tgt := 29) hx hb dX6_levels_9 (by decide) (fun hc => ?_) (fun hc => ?_)
    · replace h := ift hc h
      refine lv_iload_n hx hb dX6_levels_29 rfl (lv_at hl 1 rfl) ?_
      cases h
      exact mpr_i X hK hP hD hS rfl dX6_levels_30
    · replace h := iff_ hc h
      refine lv_iload_n hx hb dX6_levels_12 rfl (lv_at hl 1 rfl) ?_
      refine lv_aload_n hx hb dX6_levels_13 rfl (lv_at hl 0 rfl) ?_
      refine lv_bipush (v := 36) hx hb dX6_levels_14 (by decide) ?_
      refine lv_iload_n hx hb dX6_levels_16 rfl (lv_at hl 2 rfl) ?_
      refine lv_iadd hx hb dX6_levels_17 ?_
      obtain ⟨r1, hr0, h⟩ := bn1_elim h
      refine mp_call1 (As := [.int (((36 : Int32)) + v2)]) (rest := [.int v1]) X (c_X6_get l D y a hr0) (mp_cw (k := 1) hts mM_X6_126 mI_X6_get mS_X6_get mN_X6 mC_X6_get rfl rfl (by decide +kernel) ⟨Nat.le_of_ble_eq_true rfl, Nat.le_of_ble_eq_true rfl⟩) hK hP hD hS hA 0 mwC_0 rfl rfl hl.1 rfl (Nat.le_of_ble_eq_true rfl) dX6_levels_18 ⟨Nat.zero_le _, Nat.zero_le _⟩ (fun H locs hP hD hS => ?_)
      refine lv_iadd hx hb dX6_levels_21 ?_
      refine lv_istore_n (lv' := [(1, .int (v1 + r1)), (0, .ref (a 0)), (2, .int v2)]) hx hb dX6_levels_22 rfl hl (by decide) rfl (fun ls hl => ?_)
      refine lv_iinc (v := v2 + 1) (lv' := [(2, .int (v2 + 1)), (1, .int (v1 + r1)), (0, .ref (a 0))]) hx hb dX6_levels_23 hl (k := 2) rfl rfl (by decide) rfl (fun ls hl => ?_)
      refine lv_goto (tgt := 4) hx hb dX6_levels_26 (by decide) ?_
      exact ih (v1 + r1) (v2 + 1) _ _ _ hP hD hS (lv_sub hl [2, 1, 0] rfl) h
def f_X6_levels (x : PD) : Option (Int32) :=
  (f_X6_levels_b4 x FU ((0 : Int32)) ((0 : Int32)))
set_option maxHeartbeats 4000000 in
set_option maxRecDepth 100000 in
theorem c_X6_levels (l : Launch) (D : va_G) (y : CY) (a : Nat → Nat) {x : PD} {r : Int32} (h : f_X6_levels x = some r) : mpM l D y yX6_levels cX6_levels 3 (some .int) { frames := 1, cells := 0, slots := 0, locals := 21 } (mw y a x) (mw y a x) [.ref (a 0)] (some (.int r)) := by
  refine mpM.mk (own := RX6) (by decide) rfl (Nat.le_of_ble_eq_true rfl) ?_
  intro p e s m below meth c A ls X hK hA hP hD hl
  have hS : va_S A s.heap s.heap [] := va_S.rf
  obtain ⟨⟨hx, hb, hml, hown, hts⟩, hr, hlk⟩ := id X
  have hl : lv_has ls 3 [(0, .ref (a 0))] := hl
  unfold f_X6_levels at h
  refine lv_iconst (v := 0) hx hb dX6_levels_0 (by decide) ?_
  refine lv_istore_n (lv' := [(1, .int ((0 : Int32))), (0, .ref (a 0))]) hx hb dX6_levels_1 rfl hl (by decide) rfl (fun ls hl => ?_)
  refine lv_iconst (v := 0) hx hb dX6_levels_2 (by decide) ?_
  refine lv_istore_n (lv' := [(2, .int ((0 : Int32))), (1, .int ((0 : Int32))), (0, .ref (a 0))]) hx hb dX6_levels_3 rfl hl (by decide) rfl (fun ls hl => ?_)
  exact w_X6_levels_b4 X hK hA FU ((0 : Int32)) ((0 : Int32)) _ _ _ hP hD hS (lv_sub hl [2, 1, 0] rfl) h
def f_X6_layers_b87 (k2 : PD → Int32 → Option (PD)) (x : PD) (v1 : Int32) (v2 : Int32) (v3 : Int32) : Option (PD) :=
  if v2 = 0 then
  (if v3 ≤ 0 then
  ((k2 x (v1 + 1)))
  else
  gd (inR (((36 : Int32)) + v1) 56) (gd (inR (((36 : Int32)) + v1) 56) (letv (wB x 11 (vp_updL (rB x 11) (Int32.toNatClampNeg (((36 : Int32)) + v1)) ((rB x 11 (Int32.toNatClampNeg (((36 : Int32)) + v1))) - ((1 : Int64))))) fun x4 =>
  (k2 x4 (v1 + 1)))))
  else
  (k2 x (v1 + 1))
set_option maxHeartbeats 4000000 in
set_option maxRecDepth 100000 in
theorem w_X6_layers_b87 {p : Program} {l : Launch} {e : Env} {s : State} {m : MethodId} {args : Array Value} {below : List Frame} {meth : Method} {c : Code} {D : va_G} {y : CY} {a : Nat → Nat} {A : Nat → Prop} {x' : PD} {k2 : PD → Int32 → Option (PD)} (X : mpX p s m args meth c cX6_layers 4 none RX6) (hK : va_K D vwCl (mpT y) s) (hA : ∀ q, s.heap.size ≤ q → A q) (hk2 : ∀ (x : PD) (v1 : Int32) (H : Heap) (locs : List Loc) (ls : Array Slot), va_P D vwCl (mw y a x) H → va_D A (mw y a x) → va_S A s.heap H locs → lv_has ls 4 [(0, .ref (a 0)), (1, .int v1)] → k2 x v1 = some x' → W p l e { frames := 2, cells := 0, slots := 0, locals := 43 } s m args below meth c H locs 0 0 (MQ below (mpC D y A (mw y a x') none) args s 0 0 A) (F0 m 2 ls [])) : ∀ (x : PD) (v1 : Int32) (v2 : Int32) (v3 : Int32) (H : Heap) (locs : List Loc) (ls : Array Slot), va_P D vwCl (mw y a x) H → va_D A (mw y a x) → va_S A s.heap H locs → lv_has ls 4 [(0, .ref (a 0)), (1, .int v1), (2, .int v2), (3, .int v3)] → f_X6_layers_b87 k2 x v1 v2 v3 = some x' → W p l e { frames := 2, cells := 0, slots := 0, locals := 43 } s m args below meth c H locs 0 0 (MQ below (mpC D y A (mw y a x') none) args s 0 0 A) (F0 m 87 ls []) := by
  obtain ⟨⟨hx, hb, hml, hown, hts⟩, hr, hlk⟩ := id X
  intro x v1 v2 v3 H locs ls hP hD hS hl h
  unfold f_X6_layers_b87 at h
  refine lv_iload_n hx hb dX6_layers_87 rfl (lv_at hl 2 rfl) ?_
  refine lv_if_ne (tgt := 108) hx hb dX6_layers_88 (by decide) (fun hc => ?_) (fun hc => ?_)
  · replace h := iff_ hc h
    refine lv_iinc (v := v1 + 1) (lv' := [(1, .int (v1 + 1)), (0, .ref (a 0)), (2, .int v2), (3, .int v3)]) hx hb dX6_layers_108 hl (k := 1) rfl rfl (by decide) rfl (fun ls hl => ?_)
    refine lv_goto (tgt := 2) hx hb dX6_layers_111 (by decide) ?_
    exact hk2 x (v1 + 1) _ _ _ hP hD hS (lv_sub hl [1, 0] rfl) h
  · replace h := ift hc h
    refine lv_iload_n hx hb dX6_layers_91 rfl (lv_at hl 3 rfl) ?_
    refine lv_if_le (tgt := 108) hx hb dX6_layers_92 (by decide) (fun hc => ?_) (fun hc => ?_)
    · replace h := ift hc h
      refine lv_iinc (v := v1 + 1) (lv' := [(1, .int (v1 + 1)), (0, .ref (a 0)), (2, .int v2), (3, .int v3)]) hx hb dX6_layers_108 hl (k := 1) rfl rfl (by decide) rfl (fun ls hl => ?_)
      refine lv_goto (tgt := 2) hx hb dX6_layers_111 (by decide) ?_
      exact hk2 x (v1 + 1) _ _ _ hP hD hS (lv_sub hl [1, 0] rfl) h
    · replace h := iff_ hc h
      refine lv_aload_n hx hb dX6_layers_95 rfl (lv_at hl 0 rfl) ?_
      refine mwG_0_13 X hK hP mF_X6_40 dX6_layers_96 ?_
      refine lv_bipush (v := 36) hx hb dX6_layers_99 (by decide) ?_
      refine lv_iload_n hx hb dX6_layers_101 rfl (lv_at hl 1 rfl) ?_
      refine lv_iadd hx hb dX6_layers_102 ?_
      refine lv_dup2_11 hx hb dX6_layers_103 rfl rfl ?_
      obtain ⟨hg, h⟩ := gd_elim h
      refine mwL_11 X hK hP hg dX6_layers_104 ?_
      refine lv_lconst (v := 1) hx hb dX6_layers_105 (by decide) ?_
      refine lv_lsub hx hb dX6_layers_106 ?_
      obtain ⟨hg, h⟩ := gd_elim h
      obtain ⟨x4, e1, h⟩ := letv_elim h
      refine mwS_11 X hK hP hD hS hg e1 dX6_layers_107 (fun H locs hP hD hS => ?_)
      refine lv_iinc (v := v1 + 1) (lv' := [(1, .int (v1 + 1)), (0, .ref (a 0)), (2, .int v2), (3, .int v3)]) hx hb dX6_layers_108 hl (k := 1) rfl rfl (by decide) rfl (fun ls hl => ?_)
      refine lv_goto (tgt := 2) hx hb dX6_layers_111 (by decide) ?_
      exact hk2 x4 (v1 + 1) _ _ _ hP hD hS (lv_sub hl [1, 0] rfl) h
def f_X6_layers_b2 : Nat → PD → Int32 → Option (PD)
  | 0, _, _ => none
  | n + 1, x, v1 =>
    if (rI x 1) ≤ v1 then
  (some x)
  else
  gd (inR v1 20) (if (rA x 1 (Int32.toNatClampNeg v1)) = ((2 : Int32)) then
  bn1 (f_X6_get x ((1 : Int32))) fun r1 =>
  gd (inR v1 20) (gd (decide (¬ (rA x 2 (Int32.toNatClampNeg v1)) = 0)) (if (r1 - r1 / (rA x 2 (Int32.toNatClampNeg v1)) * (rA x 2 (Int32.toNatClampNeg v1))) = 0 then
  (bn1 (f_X6_get x (((16 : Int32)) + v1)) fun r2 =>
  bn1 (f_X6_get x (((36 : Int32)) + v1)) fun r3 =>
  if r2 ≤ 0 then
  ((f_X6_layers_b87 (f_X6_layers_b2 n) x v1 r2 r3))
  else
  if r2 ≤ r3 then
  ((f_X6_layers_b87 (f_X6_layers_b2 n) x v1 r2 r3))
  else
  bn1 (f_X6_levels x) fun r5 =>
  if ((16 : Int32)) ≤ r5 then
  ((f_X6_layers_b87 (f_X6_layers_b2 n) x v1 r2 r3))
  else
  gd (inR (((36 : Int32)) + v1) 56) (gd (inR (((36 : Int32)) + v1) 56) (letv (wB x 11 (vp_updL (rB x 11) (Int32.toNatClampNeg (((36 : Int32)) + v1)) ((rB x 11 (Int32.toNatClampNeg (((36 : Int32)) + v1))) + ((1 : Int64))))) fun x6 =>
  (f_X6_layers_b87 (f_X6_layers_b2 n) x6 v1 r2 r3))))
  else
  ((f_X6_layers_b2 n) x (v1 + 1))))
  else
  ((f_X6_layers_b2 n) x (v1 + 1)))
set_option maxHeartbeats 4000000 in
set_option maxRecDepth 100000 in
theorem w_X6_layers_b2 {p : Program} {l : Launch} {e : Env} {s : State} {m : MethodId} {args : Array Value} {below : List Frame} {meth : Method} {c : Code} {D : va_G} {y : CY} {a : Nat → Nat} {A : Nat → Prop} {x' : PD} (X : mpX p s m args meth c cX6_layers 4 none RX6) (hK : va_K D vwCl (mpT y) s) (hA : ∀ q, s.heap.size ≤ q → A q) : ∀ (n : Nat), ∀ (x : PD) (v1 : Int32) (H : Heap) (locs : List Loc) (ls : Array Slot), va_P D vwCl (mw y a x) H → va_D A (mw y a x) → va_S A s.heap H locs → lv_has ls 4 [(0, .ref (a 0)), (1, .int v1)] → f_X6_layers_b2 n x v1 = some x' → W p l e { frames := 2, cells := 0, slots := 0, locals := 43 } s m args below meth c H locs 0 0 (MQ below (mpC D y A (mw y a x') none) args s 0 0 A) (F0 m 2 ls []) := by
  obtain ⟨⟨hx, hb, hml, hown, hts⟩, hr, hlk⟩ := id X
  intro n
  induction n with
  | zero =>
    intro x v1 H locs ls hP hD hS hl h
    rw [f_X6_layers_b2] at h
    exact nons h
  | succ n ih =>
    intro x v1 H locs ls hP hD hS hl h
    rw [f_X6_layers_b2] at h
    refine lv_iload_n hx hb dX6_layers_2 rfl (lv_at hl 1 rfl) ?_
    refine lv_aload_n hx hb dX6_layers_3 rfl (lv_at hl 0 rfl) ?_
    refine mwG_0_1 X hK hP mF_X6_84 dX6_layers_4 ?_
    refine lv_icmp_ge (tgt := 114) hx hb dX6_layers_7 (by decide) (fun hc => ?_) (fun hc => ?_)
    · replace h := ift hc h
      cases h
      exact mpr_v X hK hP hD hS dX6_layers_114
    · replace h := iff_ hc h
      refine lv_aload_n hx hb dX6_layers_10 rfl (lv_at hl 0 rfl) ?_
      refine mwG_0_3 X hK hP mF_X6_7 dX6_layers_11 ?_
      refine lv_iload_n hx hb dX6_layers_14 rfl (lv_at hl 1 rfl) ?_
      obtain ⟨hg, h⟩ := gd_elim h
      refine mwL_1 X hK hP hg dX6_layers_15 ?_
      refine lv_iconst (v := 2) hx hb dX6_layers_16 (by decide) ?_
      refine lv_icmp_ne (tgt := 108) hx hb dX6_layers_17 (by decide) (fun hc => ?_) (fun hc => ?_)
      · replace h := iff_ hc h
        refine lv_iinc (v := v1 + 1) (lv' := [(1, .int (v1 + 1)), (0, .ref (a 0))]) hx hb dX6_layers_108 hl (k := 1) rfl rfl (by decide) rfl (fun ls hl => ?_)
        refine lv_goto (tgt := 2) hx hb dX6_layers_111 (by decide) ?_
        exact ih x (v1 + 1) _ _ _ hP hD hS (lv_sub hl [1, 0] rfl) h
      · replace h := ift hc h
        refine lv_aload_n hx hb dX6_layers_20 rfl (lv_at hl 0 rfl) ?_
        refine lv_iconst (v := 1) hx hb dX6_layers_21 (by decide) ?_
        obtain ⟨r1, hr0, h⟩ := bn1_elim h
        refine mp_call1 (As := [.int ((1 : Int32))]) (rest := []) X (c_X6_get l D y a hr0) (mp_cw (k := 1) hts mM_X6_126 mI_X6_get mS_X6_get mN_X6 mC_X6_get rfl rfl (by decide +kernel) ⟨Nat.le_of_ble_eq_true rfl, Nat.le_of_ble_eq_true rfl⟩) hK hP hD hS hA 0 mwC_0 rfl rfl hl.1 rfl (Nat.le_of_ble_eq_true rfl) dX6_layers_22 ⟨Nat.zero_le _, Nat.zero_le _⟩ (fun H locs hP hD hS => ?_)
        refine lv_aload_n hx hb dX6_layers_25 rfl (lv_at hl 0 rfl) ?_
        refine mwG_0_4 X hK hP mF_X6_13 dX6_layers_26 ?_
        refine lv_iload_n hx hb dX6_layers_29 rfl (lv_at hl 1 rfl) ?_
        obtain ⟨hg, h⟩ := gd_elim h
        refine mwL_2 X hK hP hg dX6_layers_30 ?_
        obtain ⟨hg, h⟩ := gd_elim h
        refine lv_irem hx hb dX6_layers_31 (of_decide_eq_true hg) ?_
        refine lv_if_eq (tgt := 38) hx hb dX6_layers_32 (by decide) (fun hc => ?_) (fun hc => ?_)
        · replace h := ift hc h
          refine lv_aload_n hx hb dX6_layers_38 rfl (lv_at hl 0 rfl) ?_
          refine lv_bipush (v := 16) hx hb dX6_layers_39 (by decide) ?_
          refine lv_iload_n hx hb dX6_layers_41 rfl (lv_at hl 1 rfl) ?_
          refine lv_iadd hx hb dX6_layers_42 ?_
          obtain ⟨r2, hr0, h⟩ := bn1_elim h
          refine mp_call1 (As := [.int (((16 : Int32)) + v1)]) (rest := []) X (c_X6_get l D y a hr0) (mp_cw (k := 1) hts mM_X6_126 mI_X6_get mS_X6_get mN_X6 mC_X6_get rfl rfl (by decide +kernel) ⟨Nat.le_of_ble_eq_true rfl, Nat.le_of_ble_eq_true rfl⟩) hK hP hD hS hA 0 mwC_0 rfl rfl hl.1 rfl (Nat.le_of_ble_eq_true rfl) dX6_layers_43 ⟨Nat.zero_le _, Nat.zero_le _⟩ (fun H locs hP hD hS => ?_)
          refine lv_istore_n (lv' := [(2, .int r2), (0, .ref (a 0)), (1, .int v1)]) hx hb dX6_layers_46 rfl hl (by decide) rfl (fun ls hl => ?_)
          refine lv_aload_n hx hb dX6_layers_47 rfl (lv_at hl 1 rfl) ?_
          refine lv_bipush (v := 36) hx hb dX6_layers_48 (by decide) ?_
          refine lv_iload_n hx hb dX6_layers_50 rfl (lv_at hl 2 rfl) ?_
          refine lv_iadd hx hb dX6_layers_51 ?_
          obtain ⟨r3, hr0, h⟩ := bn1_elim h
          refine mp_call1 (As := [.int (((36 : Int32)) + v1)]) (rest := []) X (c_X6_get l D y a hr0) (mp_cw (k := 1) hts mM_X6_126 mI_X6_get mS_X6_get mN_X6 mC_X6_get rfl rfl (by decide +kernel) ⟨Nat.le_of_ble_eq_true rfl, Nat.le_of_ble_eq_true rfl⟩) hK hP hD hS hA 0 mwC_0 rfl rfl hl.1 rfl (Nat.le_of_ble_eq_true rfl) dX6_layers_52 ⟨Nat.zero_le _, Nat.zero_le _⟩ (fun H locs hP hD hS => ?_)
          refine lv_istore_n (lv' := [(3, .int r3), (2, .int r2), (0, .ref (a 0)), (1, .int v1)]) hx hb dX6_layers_55 rfl hl (by decide) rfl (fun ls hl => ?_)
          refine lv_iload_n hx hb dX6_layers_56 rfl (lv_at hl 1 rfl) ?_
          refine lv_if_le (tgt := 87) hx hb dX6_layers_57 (by decide) (fun hc => ?_) (fun hc => ?_)
          · replace h := ift hc h
            exact w_X6_layers_b87 X hK hA ih x v1 r2 r3 _ _ _ hP hD hS (lv_sub hl [2, 3, 1, 0] rfl) h
          · replace h := iff_ hc h
            refine lv_iload_n hx hb dX6_layers_60 rfl (lv_at hl 0 rfl) ?_
            refine lv_iload_n hx hb dX6_layers_61 rfl (lv_at hl 1 rfl) ?_
            refine lv_icmp_ge (tgt := 87) hx hb dX6_layers_62 (by decide) (fun hc => ?_) (fun hc => ?_)
            · replace h := ift hc h
              exact w_X6_layers_b87 X hK hA ih x v1 r2 r3 _ _ _ hP hD hS (lv_sub hl [2, 3, 1, 0] rfl) h
            · replace h := iff_ hc h
              refine lv_aload_n hx hb dX6_layers_65 rfl (lv_at hl 2 rfl) ?_
              obtain ⟨r5, hr0, h⟩ := bn1_elim h
              refine mp_call1 (As := []) (rest := []) X (c_X6_levels l D y a hr0) (mp_cw (k := 0) hts mM_X6_184 mI_X6_levels mS_X6_levels mN_X6 mC_X6_levels rfl rfl (by decide +kernel) ⟨Nat.le_of_ble_eq_true rfl, Nat.le_of_ble_eq_true rfl⟩) hK hP hD hS hA 0 mwC_0 rfl rfl hl.1 rfl (Nat.le_of_ble_eq_true rfl) dX6_layers_66 ⟨Nat.zero_le _, Nat.zero_le _⟩ (fun H locs hP hD hS => ?_)
              refine lv_bipush (v := 16) hx hb dX6_layers_69 (by decide) ?_
              refine lv_icmp_ge (tgt := 87) hx hb dX6_layers_71 (by decide) (fun hc => ?_) (fun hc => ?_)
              · replace h := ift hc h
                exact w_X6_layers_b87 X hK hA ih x v1 r2 r3 _ _ _ hP hD hS (lv_sub hl [2, 3, 1, 0] rfl) h
              · replace h := iff_ hc h
                refine lv_aload_n hx hb dX6_layers_74 rfl (lv_at hl 2 rfl) ?_
                refine mwG_0_13 X hK hP mF_X6_40 dX6_layers_75 ?_
                refine lv_bipush (v := 36) hx hb dX6_layers_78 (by decide) ?_
                refine lv_iload_n hx hb dX6_layers_80 rfl (lv_at hl 3 rfl) ?_
                refine lv_iadd hx hb dX6_layers_81 ?_
                refine lv_dup2_11 hx hb dX6_layers_82 rfl rfl ?_
                obtain ⟨hg, h⟩ := gd_elim h
                refine mwL_11 X hK hP hg dX6_layers_83 ?_
                refine lv_lconst (v := 1) hx hb dX6_layers_84 (by decide) ?_
                refine lv_ladd hx hb dX6_layers_85 ?_
                obtain ⟨hg, h⟩ := gd_elim h
                obtain ⟨x6, e1, h⟩ := letv_elim h
                refine mwS_11 X hK hP hD hS hg e1 dX6_layers_86 (fun H locs hP hD hS => ?_)
                exact w_X6_layers_b87 X hK hA ih x6 v1 r2 r3 _ _ _ hP hD hS (lv_sub hl [2, 3, 1, 0] rfl) h
        · replace h := iff_ hc h
          refine lv_goto (tgt := 108) hx hb dX6_layers_35 (by decide) ?_
          refine lv_iinc (v := v1 + 1) (lv' := [(1, .int (v1 + 1)), (0, .ref (a 0))]) hx hb dX6_layers_108 hl (k := 1) rfl rfl (by decide) rfl (fun ls hl => ?_)
          refine lv_goto (tgt := 2) hx hb dX6_layers_111 (by decide) ?_
          exact ih x (v1 + 1) _ _ _ hP hD hS (lv_sub hl [1, 0] rfl) h
def f_X6_layers (x : PD) : Option (PD) :=
  (f_X6_layers_b2 FU x ((0 : Int32)))
set_option maxHeartbeats 4000000 in
set_option maxRecDepth 100000 in
theorem c_X6_layers (l : Launch) (D : va_G) (y : CY) (a : Nat → Nat) {x : PD} {x' : PD} (h : f_X6_layers x = some x') : mpM l D y yX6_layers cX6_layers 4 none { frames := 2, cells := 0, slots := 0, locals := 43 } (mw y a x) (mw y a x') [.ref (a 0)] none := by
  refine mpM.mk (own := RX6) (by decide) rfl (Nat.le_of_ble_eq_true rfl) ?_
  intro p e s m below meth c A ls X hK hA hP hD hl
  have hS : va_S A s.heap s.heap [] := va_S.rf
  obtain ⟨⟨hx, hb, hml, hown, hts⟩, hr, hlk⟩ := id X
  have hl : lv_has ls 4 [(0, .ref (a 0))] := hl
  unfold f_X6_layers at h
  refine lv_iconst (v := 0) hx hb dX6_layers_0 (by decide) ?_
  refine lv_istore_n (lv' := [(1, .int ((0 : Int32))), (0, .ref (a 0))]) hx hb dX6_layers_1 rfl hl (by decide) rfl (fun ls hl => ?_)
  exact w_X6_layers_b2 X hK hA FU x ((0 : Int32)) _ _ _ hP hD hS (lv_sub hl [1, 0] rfl) h
def f_X6_stings_b20 : Nat → PD → Int32 → Int32 → Option (PD)
  | 0, _, _, _ => none
  | n + 1, x, v1, v2 =>
    bn1 (f_X6_get x ((6 : Int32))) fun r3 =>
  if r3 ≤ v2 then
  (letv (wB x 11 (vp_updL (rB x 11) (Int32.toNatClampNeg ((5 : Int32))) (Int32.toInt64 v1))) fun x4 =>
  gd (inR v1 20) (gd (inR v1 20) (letv (wL x4 16 ((rL x4 15) + ((Int32.toInt64 (rA x4 2 (Int32.toNatClampNeg v1))) * (Int32.toInt64 (rA x4 3 (Int32.toNatClampNeg v1)))))) fun x5 =>
  bn1 (f_X6_logs x5 ((5 : Int32)) v1) fun x6 =>
  some x6)))
  else
  gd (inR ((((7 : Int32)) + v2) + ((1 : Int32))) 56) (gd (inR (((7 : Int32)) + v2) 56) (letv (wB x 11 (vp_updL (rB x 11) (Int32.toNatClampNeg (((7 : Int32)) + v2)) (rB x 11 (Int32.toNatClampNeg ((((7 : Int32)) + v2) + ((1 : Int32))))))) fun x7 =>
  ((f_X6_stings_b20 n) x7 v1 (v2 + 1))))
set_option maxHeartbeats 4000000 in
set_option maxRecDepth 100000 in
theorem w_X6_stings_b20 {p : Program} {l : Launch} {e : Env} {s : State} {m : MethodId} {args : Array Value} {below : List Frame} {meth : Method} {c : Code} {D : va_G} {y : CY} {a : Nat → Nat} {A : Nat → Prop} {x' : PD} (X : mpX p s m args meth c cX6_stings 3 none RX6) (hK : va_K D vwCl (mpT y) s) (hA : ∀ q, s.heap.size ≤ q → A q) : ∀ (n : Nat), ∀ (x : PD) (v1 : Int32) (v2 : Int32) (H : Heap) (locs : List Loc) (ls : Array Slot), va_P D vwCl (mw y a x) H → va_D A (mw y a x) → va_S A s.heap H locs → lv_has ls 3 [(0, .ref (a 0)), (1, .int v1), (2, .int v2)] → f_X6_stings_b20 n x v1 v2 = some x' → W p l e { frames := 1, cells := 0, slots := 0, locals := 23 } s m args below meth c H locs 0 0 (MQ below (mpC D y A (mw y a x') none) args s 0 0 A) (F0 m 20 ls []) := by
  obtain ⟨⟨hx, hb, hml, hown, hts⟩, hr, hlk⟩ := id X
  intro n
  induction n with
  | zero =>
    intro x v1 v2 H locs ls hP hD hS hl h
    rw [f_X6_stings_b20] at h
    exact nons h
  | succ n ih =>
    intro x v1 v2 H locs ls hP hD hS hl h
    rw [f_X6_stings_b20] at h
    refine lv_iload_n hx hb dX6_stings_20 rfl (lv_at hl 2 rfl) ?_
    refine lv_aload_n hx hb dX6_stings_21 rfl (lv_at hl 0 rfl) ?_
    refine lv_bipush (v := 6) hx hb dX6_stings_22 (by decide) ?_
    obtain ⟨r3, hr0, h⟩ := bn1_elim h
    refine mp_call1 (As := [.int ((6 : Int32))]) (rest := [.int v2]) X (c_X6_get l D y a hr0) (mp_cw (k := 1) hts mM_X6_126 mI_X6_get mS_X6_get mN_X6 mC_X6_get rfl rfl (by decide +kernel) ⟨Nat.le_of_ble_eq_true rfl, Nat.le_of_ble_eq_true rfl⟩) hK hP hD hS hA 0 mwC_0 rfl rfl hl.1 rfl (Nat.le_of_ble_eq_true rfl) dX6_stings_24 ⟨Nat.zero_le _, Nat.zero_le _⟩ (fun H locs hP hD hS => ?_)
    refine lv_icmp_ge (tgt := 56) hx hb dX6_stings_27 (by decide) (fun hc => ?_) (fun hc => ?_)
    · replace h := ift hc h
      refine lv_aload_n hx hb dX6_stings_56 rfl (lv_at hl 0 rfl) ?_
      refine mwG_0_13 X hK hP mF_X6_40 dX6_stings_57 ?_
      refine lv_iconst (v := 5) hx hb dX6_stings_60 (by decide) ?_
      refine lv_iload_n hx hb dX6_stings_61 rfl (lv_at hl 1 rfl) ?_
      refine lv_i2l (v := Int32.toInt64 v1) hx hb dX6_stings_62 rfl ?_
      obtain ⟨x4, e1, h⟩ := letv_elim h
      refine mwS_11 X hK hP hD hS (by decide) e1 dX6_stings_63 (fun H locs hP hD hS => ?_)
      refine lv_aload_n hx hb dX6_stings_64 rfl (lv_at hl 0 rfl) ?_
      refine lv_aload_n hx hb dX6_stings_65 rfl (lv_at hl 0 rfl) ?_
      refine mwG_0_15 X hK hP mF_X6_154 dX6_stings_66 ?_
      refine lv_aload_n hx hb dX6_stings_69 rfl (lv_at hl 0 rfl) ?_
      refine mwG_0_4 X hK hP mF_X6_13 dX6_stings_70 ?_
      refine lv_iload_n hx hb dX6_stings_73 rfl (lv_at hl 1 rfl) ?_
      obtain ⟨hg, h⟩ := gd_elim h
      refine mwL_2 X hK hP hg dX6_stings_74 ?_
      refine lv_i2l (v := Int32.toInt64 (rA x4 2 (Int32.toNatClampNeg v1))) hx hb dX6_stings_75 rfl ?_
      refine lv_aload_n hx hb dX6_stings_76 rfl (lv_at hl 0 rfl) ?_
      refine mwG_0_5 X hK hP mF_X6_16 dX6_stings_77 ?_
      refine lv_iload_n hx hb dX6_stings_80 rfl (lv_at hl 1 rfl) ?_
      obtain ⟨hg, h⟩ := gd_elim h
      refine mwL_3 X hK hP hg dX6_stings_81 ?_
      refine lv_i2l (v := Int32.toInt64 (rA x4 3 (Int32.toNatClampNeg v1))) hx hb dX6_stings_82 rfl ?_
      refine lv_lmul hx hb dX6_stings_83 ?_
      refine lv_ladd hx hb dX6_stings_84 ?_
      obtain ⟨x5, e1, h⟩ := letv_elim h
      refine mwP_0_16 X hK hP hD hS mF_X6_188 e1 dX6_stings_85 (fun H locs hP hD hS => ?_)
      refine lv_aload_n hx hb dX6_stings_88 rfl (lv_at hl 0 rfl) ?_
      refine lv_iconst (v := 5) hx hb dX6_stings_89 (by decide) ?_
      refine lv_iload_n hx hb dX6_stings_90 rfl (lv_at hl 1 rfl) ?_
      obtain ⟨x6, hr0, h⟩ := bn1_elim h
      refine mp_callv (As := [.int ((5 : Int32)), .int v1]) (rest := []) X (c_X6_logs l D y a hr0) (mp_cw (k := 2) hts mM_X6_158 mI_X6_logs mS_X6_logs mN_X6 mC_X6_logs rfl rfl (by decide +kernel) ⟨Nat.le_of_ble_eq_true rfl, Nat.le_of_ble_eq_true rfl⟩) hK hP hD hS hA 0 mwC_0 rfl rfl hl.1 rfl (Nat.le_of_ble_eq_true rfl) dX6_stings_91 ⟨Nat.zero_le _, Nat.zero_le _⟩ (fun H locs hP hD hS => ?_)
      cases h
      exact mpr_v X hK hP hD hS dX6_stings_94
    · replace h := iff_ hc h
      refine lv_aload_n hx hb dX6_stings_30 rfl (lv_at hl 0 rfl) ?_
      refine mwG_0_13 X hK hP mF_X6_40 dX6_stings_31 ?_
      refine lv_bipush (v := 7) hx hb dX6_stings_34 (by decide) ?_
      refine lv_iload_n hx hb dX6_stings_36 rfl (lv_at hl 2 rfl) ?_
      refine lv_iadd hx hb dX6_stings_37 ?_
      refine lv_aload_n hx hb dX6_stings_38 rfl (lv_at hl 0 rfl) ?_
      refine mwG_0_13 X hK hP mF_X6_40 dX6_stings_39 ?_
      refine lv_bipush (v := 7) hx hb dX6_stings_42 (by decide) ?_
      refine lv_iload_n hx hb dX6_stings_44 rfl (lv_at hl 2 rfl) ?_
      refine lv_iadd hx hb dX6_stings_45 ?_
      refine lv_iconst (v := 1) hx hb dX6_stings_46 (by decide) ?_
      refine lv_iadd hx hb dX6_stings_47 ?_
      obtain ⟨hg, h⟩ := gd_elim h
      refine mwL_11 X hK hP hg dX6_stings_48 ?_
      obtain ⟨hg, h⟩ := gd_elim h
      obtain ⟨x7, e1, h⟩ := letv_elim h
      refine mwS_11 X hK hP hD hS hg e1 dX6_stings_49 (fun H locs hP hD hS => ?_)
      refine lv_iinc (v := v2 + 1) (lv' := [(2, .int (v2 + 1)), (0, .ref (a 0)), (1, .int v1)]) hx hb dX6_stings_50 hl (k := 2) rfl rfl (by decide) rfl (fun ls hl => ?_)
      refine lv_goto (tgt := 20) hx hb dX6_stings_53 (by decide) ?_
      exact ih x7 v1 (v2 + 1) _ _ _ hP hD hS (lv_sub hl [1, 2, 0] rfl) h
def f_X6_stings (x : PD) : Option (PD) :=
  bn1 (f_X6_get x ((7 : Int32))) fun r1 =>
  letv (wB x 11 (vp_updL (rB x 11) (Int32.toNatClampNeg ((6 : Int32))) ((rB x 11 (Int32.toNatClampNeg ((6 : Int32)))) - ((1 : Int64))))) fun x2 =>
  (f_X6_stings_b20 FU x2 r1 ((0 : Int32)))
set_option maxHeartbeats 4000000 in
set_option maxRecDepth 100000 in
theorem c_X6_stings (l : Launch) (D : va_G) (y : CY) (a : Nat → Nat) {x : PD} {x' : PD} (h : f_X6_stings x = some x') : mpM l D y yX6_stings cX6_stings 3 none { frames := 1, cells := 0, slots := 0, locals := 23 } (mw y a x) (mw y a x') [.ref (a 0)] none := by
  refine mpM.mk (own := RX6) (by decide) rfl (Nat.le_of_ble_eq_true rfl) ?_
  intro p e s m below meth c A ls X hK hA hP hD hl
  have hS : va_S A s.heap s.heap [] := va_S.rf
  obtain ⟨⟨hx, hb, hml, hown, hts⟩, hr, hlk⟩ := id X
  have hl : lv_has ls 3 [(0, .ref (a 0))] := hl
  unfold f_X6_stings at h
  refine lv_aload_n hx hb dX6_stings_0 rfl (lv_at hl 0 rfl) ?_
  refine lv_bipush (v := 7) hx hb dX6_stings_1 (by decide) ?_
  obtain ⟨r1, hr0, h⟩ := bn1_elim h
  refine mp_call1 (As := [.int ((7 : Int32))]) (rest := []) X (c_X6_get l D y a hr0) (mp_cw (k := 1) hts mM_X6_126 mI_X6_get mS_X6_get mN_X6 mC_X6_get rfl rfl (by decide +kernel) ⟨Nat.le_of_ble_eq_true rfl, Nat.le_of_ble_eq_true rfl⟩) hK hP hD hS hA 0 mwC_0 rfl rfl hl.1 rfl (Nat.le_of_ble_eq_true rfl) dX6_stings_3 ⟨Nat.zero_le _, Nat.zero_le _⟩ (fun H locs hP hD hS => ?_)
  refine lv_istore_n (lv' := [(1, .int r1), (0, .ref (a 0))]) hx hb dX6_stings_6 rfl hl (by decide) rfl (fun ls hl => ?_)
  refine lv_aload_n hx hb dX6_stings_7 rfl (lv_at hl 1 rfl) ?_
  refine mwG_0_13 X hK hP mF_X6_40 dX6_stings_8 ?_
  refine lv_bipush (v := 6) hx hb dX6_stings_11 (by decide) ?_
  refine lv_dup2_11 hx hb dX6_stings_13 rfl rfl ?_
  refine mwL_11 X hK hP (by decide) dX6_stings_14 ?_
  refine lv_lconst (v := 1) hx hb dX6_stings_15 (by decide) ?_
  refine lv_lsub hx hb dX6_stings_16 ?_
  obtain ⟨x2, e1, h⟩ := letv_elim h
  refine mwS_11 X hK hP hD hS (by decide) e1 dX6_stings_17 (fun H locs hP hD hS => ?_)
  refine lv_iconst (v := 0) hx hb dX6_stings_18 (by decide) ?_
  refine lv_istore_n (lv' := [(2, .int ((0 : Int32))), (1, .int r1), (0, .ref (a 0))]) hx hb dX6_stings_19 rfl hl (by decide) rfl (fun ls hl => ?_)
  exact w_X6_stings_b20 X hK hA FU x2 r1 ((0 : Int32)) _ _ _ hP hD hS (lv_sub hl [2, 1, 0] rfl) h
def f_X6_cheapest_b4 (x : PD) : Nat → Int32 → Int32 → Int32 → Option (Int32)
  | 0, _, _, _ => none
  | n + 1, v1, v2, v3 =>
    if (rI x 2) ≤ v3 then
  (some v2)
  else
  gd (inR v3 100) (if (rA x 6 (Int32.toNatClampNeg v3)) = v1 then
  gd (inR v3 100) (gd (inR v1 20) (if (rA x 7 (Int32.toNatClampNeg v3)) = (rA x 2 (Int32.toNatClampNeg v1)) then
  (if v2 = ((-1 : Int32)) then
  (((f_X6_cheapest_b4 x n) v1 v3 (v3 + 1)))
  else
  gd (inR v3 100) (gd (inR v2 100) (if (rA x 9 (Int32.toNatClampNeg v2)) ≤ (rA x 9 (Int32.toNatClampNeg v3)) then
  (((f_X6_cheapest_b4 x n) v1 v2 (v3 + 1)))
  else
  ((f_X6_cheapest_b4 x n) v1 v3 (v3 + 1)))))
  else
  ((f_X6_cheapest_b4 x n) v1 v2 (v3 + 1))))
  else
  ((f_X6_cheapest_b4 x n) v1 v2 (v3 + 1)))
set_option maxHeartbeats 4000000 in
set_option maxRecDepth 100000 in
theorem w_X6_cheapest_b4 {p : Program} {l : Launch} {e : Env} {s : State} {m : MethodId} {args : Array Value} {below : List Frame} {meth : Method} {c : Code} {D : va_G} {y : CY} {a : Nat → Nat} {A : Nat → Prop} {x : PD} {r : Int32} (X : mpX p s m args meth c cX6_cheapest 4 (some .int) RX6) (hK : va_K D vwCl (mpT y) s) (hA : ∀ q, s.heap.size ≤ q → A q) : ∀ (n : Nat), ∀ (v1 : Int32) (v2 : Int32) (v3 : Int32) (H : Heap) (locs : List Loc) (ls : Array Slot), va_P D vwCl (mw y a x) H → va_D A (mw y a x) → va_S A s.heap H locs → lv_has ls 4 [(0, .ref (a 0)), (1, .int v1), (2, .int v2), (3, .int v3)] → f_X6_cheapest_b4 x n v1 v2 v3 = some r → W p l e { frames := 0, cells := 0, slots := 0, locals := 0 } s m args below meth c H locs 0 0 (MQ below (mpC D y A (mw y a x) (some (.int r))) args s 0 0 A) (F0 m 4 ls []) := by
  obtain ⟨⟨hx, hb, hml, hown, hts⟩, hr, hlk⟩ := id X
  intro n
  induction n with
  | zero =>
    intro v1 v2 v3 H locs ls hP hD hS hl h
    rw [f_X6_cheapest_b4] at h
    exact nons h
  | succ n ih =>
    intro v1 v2 v3 H locs ls hP hD hS hl h
    rw [f_X6_cheapest_b4] at h
    refine lv_iload_n hx hb dX6_cheapest_4 rfl (lv_at hl 3 rfl) ?_
    refine lv_aload_n hx hb dX6_cheapest_5 rfl (lv_at hl 0 rfl) ?_
    refine mwG_0_2 X hK hP mF_X6_98 dX6_cheapest_6 ?_
    refine lv_icmp_ge (tgt := 65) hx hb dX6_cheapest_9 (by decide) (fun hc => ?_) (fun hc => ?_)
    · replace h := ift hc h
      refine lv_iload_n hx hb dX6_cheapest_65 rfl (lv_at hl 2 rfl) ?_
      cases h
      exact mpr_i X hK hP hD hS rfl dX6_cheapest_66
    · replace h := iff_ hc h
      refine lv_aload_n hx hb dX6_cheapest_12 rfl (lv_at hl 0 rfl) ?_
      refine mwG_0_8 X hK hP mF_X6_25 dX6_cheapest_13 ?_
      refine lv_iload_n hx hb dX6_cheapest_16 rfl (lv_at hl 3 rfl) ?_
      obtain ⟨hg, h⟩ := gd_elim h
      refine mwL_6 X hK hP hg dX6_cheapest_17 ?_
      refine lv_iload_n hx hb dX6_cheapest_18 rfl (lv_at hl 1 rfl) ?_
      refine lv_icmp_ne (tgt := 59) hx hb dX6_cheapest_19 (by decide) (fun hc => ?_) (fun hc => ?_)
      · replace h := iff_ hc h
        refine lv_iinc (v := v3 + 1) (lv' := [(3, .int (v3 + 1)), (0, .ref (a 0)), (1, .int v1), (2, .int v2)]) hx hb dX6_cheapest_59 hl (k := 3) rfl rfl (by decide) rfl (fun ls hl => ?_)
        refine lv_goto (tgt := 4) hx hb dX6_cheapest_62 (by decide) ?_
        exact ih v1 v2 (v3 + 1) _ _ _ hP hD hS (lv_sub hl [1, 2, 3, 0] rfl) h
      · replace h := ift hc h
        refine lv_aload_n hx hb dX6_cheapest_22 rfl (lv_at hl 0 rfl) ?_
        refine mwG_0_9 X hK hP mF_X6_28 dX6_cheapest_23 ?_
        refine lv_iload_n hx hb dX6_cheapest_26 rfl (lv_at hl 3 rfl) ?_
        obtain ⟨hg, h⟩ := gd_elim h
        refine mwL_7 X hK hP hg dX6_cheapest_27 ?_
        refine lv_aload_n hx hb dX6_cheapest_28 rfl (lv_at hl 0 rfl) ?_
        refine mwG_0_4 X hK hP mF_X6_13 dX6_cheapest_29 ?_
        refine lv_iload_n hx hb dX6_cheapest_32 rfl (lv_at hl 1 rfl) ?_
        obtain ⟨hg, h⟩ := gd_elim h
        refine mwL_2 X hK hP hg dX6_cheapest_33 ?_
        refine lv_icmp_ne (tgt := 59) hx hb dX6_cheapest_34 (by decide) (fun hc => ?_) (fun hc => ?_)
        · replace h := iff_ hc h
          refine lv_iinc (v := v3 + 1) (lv' := [(3, .int (v3 + 1)), (0, .ref (a 0)), (1, .int v1), (2, .int v2)]) hx hb dX6_cheapest_59 hl (k := 3) rfl rfl (by decide) rfl (fun ls hl => ?_)
          refine lv_goto (tgt := 4) hx hb dX6_cheapest_62 (by decide) ?_
          exact ih v1 v2 (v3 + 1) _ _ _ hP hD hS (lv_sub hl [1, 2, 3, 0] rfl) h
        · replace h := ift hc h
          refine lv_iload_n hx hb dX6_cheapest_37 rfl (lv_at hl 2 rfl) ?_
          refine lv_iconst (v := -1) hx hb dX6_cheapest_38 (by decide) ?_
          refine lv_icmp_eq (tgt := 57) hx hb dX6_cheapest_39 (by decide) (fun hc => ?_) (fun hc => ?_)
          · replace h := ift hc h
            refine lv_iload_n hx hb dX6_cheapest_57 rfl (lv_at hl 3 rfl) ?_
            refine lv_istore_n (lv' := [(2, .int v3), (0, .ref (a 0)), (1, .int v1), (3, .int v3)]) hx hb dX6_cheapest_58 rfl hl (by decide) rfl (fun ls hl => ?_)
            refine lv_iinc (v := v3 + 1) (lv' := [(3, .int (v3 + 1)), (2, .int v3), (0, .ref (a 0)), (1, .int v1)]) hx hb dX6_cheapest_59 hl (k := 3) rfl rfl (by decide) rfl (fun ls hl => ?_)
            refine lv_goto (tgt := 4) hx hb dX6_cheapest_62 (by decide) ?_
            exact ih v1 v3 (v3 + 1) _ _ _ hP hD hS (lv_sub hl [2, 3, 1, 0] rfl) h
          · replace h := iff_ hc h
            refine lv_aload_n hx hb dX6_cheapest_42 rfl (lv_at hl 0 rfl) ?_
            refine mwG_0_11 X hK hP mF_X6_34 dX6_cheapest_43 ?_
            refine lv_iload_n hx hb dX6_cheapest_46 rfl (lv_at hl 3 rfl) ?_
            obtain ⟨hg, h⟩ := gd_elim h
            refine mwL_9 X hK hP hg dX6_cheapest_47 ?_
            refine lv_aload_n hx hb dX6_cheapest_48 rfl (lv_at hl 0 rfl) ?_
            refine mwG_0_11 X hK hP mF_X6_34 dX6_cheapest_49 ?_
            refine lv_iload_n hx hb dX6_cheapest_52 rfl (lv_at hl 2 rfl) ?_
            obtain ⟨hg, h⟩ := gd_elim h
            refine mwL_9 X hK hP hg dX6_cheapest_53 ?_
            refine lv_icmp_ge (tgt := 59) hx hb dX6_cheapest_54 (by decide) (fun hc => ?_) (fun hc => ?_)
            · replace h := ift hc h
              refine lv_iinc (v := v3 + 1) (lv' := [(3, .int (v3 + 1)), (0, .ref (a 0)), (1, .int v1), (2, .int v2)]) hx hb dX6_cheapest_59 hl (k := 3) rfl rfl (by decide) rfl (fun ls hl => ?_)
              refine lv_goto (tgt := 4) hx hb dX6_cheapest_62 (by decide) ?_
              exact ih v1 v2 (v3 + 1) _ _ _ hP hD hS (lv_sub hl [1, 2, 3, 0] rfl) h
            · replace h := iff_ hc h
              refine lv_iload_n hx hb dX6_cheapest_57 rfl (lv_at hl 3 rfl) ?_
              refine lv_istore_n (lv' := [(2, .int v3), (0, .ref (a 0)), (1, .int v1), (3, .int v3)]) hx hb dX6_cheapest_58 rfl hl (by decide) rfl (fun ls hl => ?_)
              refine lv_iinc (v := v3 + 1) (lv' := [(3, .int (v3 + 1)), (2, .int v3), (0, .ref (a 0)), (1, .int v1)]) hx hb dX6_cheapest_59 hl (k := 3) rfl rfl (by decide) rfl (fun ls hl => ?_)
              refine lv_goto (tgt := 4) hx hb dX6_cheapest_62 (by decide) ?_
              exact ih v1 v3 (v3 + 1) _ _ _ hP hD hS (lv_sub hl [2, 3, 1, 0] rfl) h
def f_X6_cheapest (x : PD) (p1 : Int32) : Option (Int32) :=
  (f_X6_cheapest_b4 x FU p1 ((-1 : Int32)) ((0 : Int32)))
set_option maxHeartbeats 4000000 in
set_option maxRecDepth 100000 in
theorem c_X6_cheapest (l : Launch) (D : va_G) (y : CY) (a : Nat → Nat) {x : PD} {r : Int32} {p1 : Int32} (h : f_X6_cheapest x p1 = some r) : mpM l D y yX6_cheapest cX6_cheapest 4 (some .int) { frames := 0, cells := 0, slots := 0, locals := 0 } (mw y a x) (mw y a x) [.ref (a 0), .int p1] (some (.int r)) := by
  refine mpM.mk (own := RX6) (by decide) rfl (Nat.le_of_ble_eq_true rfl) ?_
  intro p e s m below meth c A ls X hK hA hP hD hl
  have hS : va_S A s.heap s.heap [] := va_S.rf
  obtain ⟨⟨hx, hb, hml, hown, hts⟩, hr, hlk⟩ := id X
  have hl : lv_has ls 4 [(0, .ref (a 0)), (1, .int p1)] := hl
  unfold f_X6_cheapest at h
  refine lv_iconst (v := -1) hx hb dX6_cheapest_0 (by decide) ?_
  refine lv_istore_n (lv' := [(2, .int ((-1 : Int32))), (0, .ref (a 0)), (1, .int p1)]) hx hb dX6_cheapest_1 rfl hl (by decide) rfl (fun ls hl => ?_)
  refine lv_iconst (v := 0) hx hb dX6_cheapest_2 (by decide) ?_
  refine lv_istore_n (lv' := [(3, .int ((0 : Int32))), (2, .int ((-1 : Int32))), (0, .ref (a 0)), (1, .int p1)]) hx hb dX6_cheapest_3 rfl hl (by decide) rfl (fun ls hl => ?_)
  exact w_X6_cheapest_b4 X hK hA FU p1 ((-1 : Int32)) ((0 : Int32)) _ _ _ hP hD hS (lv_sub hl [2, 3, 1, 0] rfl) h
def f_X6_silence_b43 : Nat → PD → Int32 → Option (PD)
  | 0, _, _ => none
  | n + 1, x, v1 =>
    if ((20 : Int32)) ≤ v1 then
  (bn1 (f_X6_finds x) fun x7 =>
  some x7)
  else
  gd (inR (((36 : Int32)) + v1) 56) (letv (wB x 11 (vp_updL (rB x 11) (Int32.toNatClampNeg (((36 : Int32)) + v1)) ((0 : Int64)))) fun x8 =>
  ((f_X6_silence_b43 n) x8 (v1 + 1)))
set_option maxHeartbeats 4000000 in
set_option maxRecDepth 100000 in
theorem w_X6_silence_b43 {p : Program} {l : Launch} {e : Env} {s : State} {m : MethodId} {args : Array Value} {below : List Frame} {meth : Method} {c : Code} {D : va_G} {y : CY} {a : Nat → Nat} {A : Nat → Prop} {x' : PD} (X : mpX p s m args meth c cX6_silence 2 none RX6) (hK : va_K D vwCl (mpT y) s) (hA : ∀ q, s.heap.size ≤ q → A q) : ∀ (n : Nat), ∀ (x : PD) (v1 : Int32) (H : Heap) (locs : List Loc) (ls : Array Slot), va_P D vwCl (mw y a x) H → va_D A (mw y a x) → va_S A s.heap H locs → lv_has ls 2 [(0, .ref (a 0)), (1, .int v1)] → f_X6_silence_b43 n x v1 = some x' → W p l e { frames := 3, cells := 0, slots := 0, locals := 82 } s m args below meth c H locs 0 0 (MQ below (mpC D y A (mw y a x') none) args s 0 0 A) (F0 m 43 ls []) := by
  obtain ⟨⟨hx, hb, hml, hown, hts⟩, hr, hlk⟩ := id X
  intro n
  induction n with
  | zero =>
    intro x v1 H locs ls hP hD hS hl h
    rw [f_X6_silence_b43] at h
    exact nons h
  | succ n ih =>
    intro x v1 H locs ls hP hD hS hl h
    rw [f_X6_silence_b43] at h
    refine lv_iload_n hx hb dX6_silence_43 rfl (lv_at hl 1 rfl) ?_
    refine lv_bipush (v := 20) hx hb dX6_silence_44 (by decide) ?_
    refine lv_icmp_ge (tgt := 65) hx hb dX6_silence_46 (by decide) (fun hc => ?_) (fun hc => ?_)
    · replace h := ift hc h
      refine lv_aload_n hx hb dX6_silence_65 rfl (lv_at hl 0 rfl) ?_
      obtain ⟨x7, hr0, h⟩ := bn1_elim h
      refine mp_callv (As := []) (rest := []) X (c_X6_finds l D y a hr0) (mp_cw (k := 0) hts mM_X6_91 mI_X6_finds mS_X6_finds mN_X6 mC_X6_finds rfl rfl (by decide +kernel) ⟨Nat.le_of_ble_eq_true rfl, Nat.le_of_ble_eq_true rfl⟩) hK hP hD hS hA 0 mwC_0 rfl rfl hl.1 rfl (Nat.le_of_ble_eq_true rfl) dX6_silence_66 ⟨Nat.zero_le _, Nat.zero_le _⟩ (fun H locs hP hD hS => ?_)
      cases h
      exact mpr_v X hK hP hD hS dX6_silence_69
    · replace h := iff_ hc h
      refine lv_aload_n hx hb dX6_silence_49 rfl (lv_at hl 0 rfl) ?_
      refine mwG_0_13 X hK hP mF_X6_40 dX6_silence_50 ?_
      refine lv_bipush (v := 36) hx hb dX6_silence_53 (by decide) ?_
      refine lv_iload_n hx hb dX6_silence_55 rfl (lv_at hl 1 rfl) ?_
      refine lv_iadd hx hb dX6_silence_56 ?_
      refine lv_lconst (v := 0) hx hb dX6_silence_57 (by decide) ?_
      obtain ⟨hg, h⟩ := gd_elim h
      obtain ⟨x8, e1, h⟩ := letv_elim h
      refine mwS_11 X hK hP hD hS hg e1 dX6_silence_58 (fun H locs hP hD hS => ?_)
      refine lv_iinc (v := v1 + 1) (lv' := [(1, .int (v1 + 1)), (0, .ref (a 0))]) hx hb dX6_silence_59 hl (k := 1) rfl rfl (by decide) rfl (fun ls hl => ?_)
      refine lv_goto (tgt := 43) hx hb dX6_silence_62 (by decide) ?_
      exact ih x8 (v1 + 1) _ _ _ hP hD hS (lv_sub hl [1, 0] rfl) h
def f_X6_silence (x : PD) : Option (PD) :=
  bn1 (f_X6_get x ((0 : Int32))) fun r1 =>
  bn1 (f_X6_logs x ((7 : Int32)) r1) fun x2 =>
  letv (wB x2 11 (vp_updL (rB x2 11) (Int32.toNatClampNeg ((0 : Int32))) ((-1 : Int64)))) fun x3 =>
  letv (wB x3 11 (vp_updL (rB x3 11) (Int32.toNatClampNeg ((1 : Int32))) ((0 : Int64)))) fun x4 =>
  letv (wB x4 11 (vp_updL (rB x4 11) (Int32.toNatClampNeg ((3 : Int32))) ((0 : Int64)))) fun x5 =>
  letv (wB x5 11 (vp_updL (rB x5 11) (Int32.toNatClampNeg ((2 : Int32))) ((0 : Int64)))) fun x6 =>
  (f_X6_silence_b43 FU x6 ((0 : Int32)))
set_option maxHeartbeats 4000000 in
set_option maxRecDepth 100000 in
theorem c_X6_silence (l : Launch) (D : va_G) (y : CY) (a : Nat → Nat) {x : PD} {x' : PD} (h : f_X6_silence x = some x') : mpM l D y yX6_silence cX6_silence 2 none { frames := 3, cells := 0, slots := 0, locals := 82 } (mw y a x) (mw y a x') [.ref (a 0)] none := by
  refine mpM.mk (own := RX6) (by decide) rfl (Nat.le_of_ble_eq_true rfl) ?_
  intro p e s m below meth c A ls X hK hA hP hD hl
  have hS : va_S A s.heap s.heap [] := va_S.rf
  obtain ⟨⟨hx, hb, hml, hown, hts⟩, hr, hlk⟩ := id X
  have hl : lv_has ls 2 [(0, .ref (a 0))] := hl
  unfold f_X6_silence at h
  refine lv_aload_n hx hb dX6_silence_0 rfl (lv_at hl 0 rfl) ?_
  refine lv_bipush (v := 7) hx hb dX6_silence_1 (by decide) ?_
  refine lv_aload_n hx hb dX6_silence_3 rfl (lv_at hl 0 rfl) ?_
  refine lv_iconst (v := 0) hx hb dX6_silence_4 (by decide) ?_
  obtain ⟨r1, hr0, h⟩ := bn1_elim h
  refine mp_call1 (As := [.int ((0 : Int32))]) (rest := [.int ((7 : Int32)), .ref (a 0)]) X (c_X6_get l D y a hr0) (mp_cw (k := 1) hts mM_X6_126 mI_X6_get mS_X6_get mN_X6 mC_X6_get rfl rfl (by decide +kernel) ⟨Nat.le_of_ble_eq_true rfl, Nat.le_of_ble_eq_true rfl⟩) hK hP hD hS hA 0 mwC_0 rfl rfl hl.1 rfl (Nat.le_of_ble_eq_true rfl) dX6_silence_5 ⟨Nat.zero_le _, Nat.zero_le _⟩ (fun H locs hP hD hS => ?_)
  obtain ⟨x2, hr0, h⟩ := bn1_elim h
  refine mp_callv (As := [.int ((7 : Int32)), .int r1]) (rest := []) X (c_X6_logs l D y a hr0) (mp_cw (k := 2) hts mM_X6_158 mI_X6_logs mS_X6_logs mN_X6 mC_X6_logs rfl rfl (by decide +kernel) ⟨Nat.le_of_ble_eq_true rfl, Nat.le_of_ble_eq_true rfl⟩) hK hP hD hS hA 0 mwC_0 rfl rfl hl.1 rfl (Nat.le_of_ble_eq_true rfl) dX6_silence_8 ⟨Nat.zero_le _, Nat.zero_le _⟩ (fun H locs hP hD hS => ?_)
  refine lv_aload_n hx hb dX6_silence_11 rfl (lv_at hl 0 rfl) ?_
  refine mwG_0_13 X hK hP mF_X6_40 dX6_silence_12 ?_
  refine lv_iconst (v := 0) hx hb dX6_silence_15 (by decide) ?_
  refine lv_ldc2 (v := (-1)) hx hb hown (hts _ mK_X6_78) dX6_silence_16 ?_
  obtain ⟨x3, e1, h⟩ := letv_elim h
  refine mwS_11 X hK hP hD hS (by decide) e1 dX6_silence_19 (fun H locs hP hD hS => ?_)
  refine lv_aload_n hx hb dX6_silence_20 rfl (lv_at hl 0 rfl) ?_
  refine mwG_0_13 X hK hP mF_X6_40 dX6_silence_21 ?_
  refine lv_iconst (v := 1) hx hb dX6_silence_24 (by decide) ?_
  refine lv_lconst (v := 0) hx hb dX6_silence_25 (by decide) ?_
  obtain ⟨x4, e1, h⟩ := letv_elim h
  refine mwS_11 X hK hP hD hS (by decide) e1 dX6_silence_26 (fun H locs hP hD hS => ?_)
  refine lv_aload_n hx hb dX6_silence_27 rfl (lv_at hl 0 rfl) ?_
  refine mwG_0_13 X hK hP mF_X6_40 dX6_silence_28 ?_
  refine lv_iconst (v := 3) hx hb dX6_silence_31 (by decide) ?_
  refine lv_lconst (v := 0) hx hb dX6_silence_32 (by decide) ?_
  obtain ⟨x5, e1, h⟩ := letv_elim h
  refine mwS_11 X hK hP hD hS (by decide) e1 dX6_silence_33 (fun H locs hP hD hS => ?_)
  refine lv_aload_n hx hb dX6_silence_34 rfl (lv_at hl 0 rfl) ?_
  refine mwG_0_13 X hK hP mF_X6_40 dX6_silence_35 ?_
  refine lv_iconst (v := 2) hx hb dX6_silence_38 (by decide) ?_
  refine lv_lconst (v := 0) hx hb dX6_silence_39 (by decide) ?_
  obtain ⟨x6, e1, h⟩ := letv_elim h
  refine mwS_11 X hK hP hD hS (by decide) e1 dX6_silence_40 (fun H locs hP hD hS => ?_)
  refine lv_iconst (v := 0) hx hb dX6_silence_41 (by decide) ?_
  refine lv_istore_n (lv' := [(1, .int ((0 : Int32))), (0, .ref (a 0))]) hx hb dX6_silence_42 rfl hl (by decide) rfl (fun ls hl => ?_)
  exact w_X6_silence_b43 X hK hA FU x6 ((0 : Int32)) _ _ _ hP hD hS (lv_sub hl [1, 0] rfl) h
def f_X6_takes_b46 (x : PD) (v2 : Int32) (t0 : Int32) (t1 : Int32) : Option (PD) :=
  bn1 (f_X6_begins x t1 t0 v2) fun x3 =>
  some x3
set_option maxHeartbeats 4000000 in
set_option maxRecDepth 100000 in
theorem w_X6_takes_b46 {p : Program} {l : Launch} {e : Env} {s : State} {m : MethodId} {args : Array Value} {below : List Frame} {meth : Method} {c : Code} {D : va_G} {y : CY} {a : Nat → Nat} {A : Nat → Prop} {x' : PD} (X : mpX p s m args meth c cX6_takes 3 none RX6) (hK : va_K D vwCl (mpT y) s) (hA : ∀ q, s.heap.size ≤ q → A q) : ∀ (x : PD) (v2 : Int32) (t0 : Int32) (t1 : Int32) (H : Heap) (locs : List Loc) (ls : Array Slot), va_P D vwCl (mw y a x) H → va_D A (mw y a x) → va_S A s.heap H locs → lv_has ls 3 [(2, .int v2)] → f_X6_takes_b46 x v2 t0 t1 = some x' → W p l e { frames := 5, cells := 0, slots := 0, locals := 125 } s m args below meth c H locs 0 0 (MQ below (mpC D y A (mw y a x') none) args s 0 0 A) (F0 m 46 ls [.int t0, .int t1, .ref (a 0)]) := by
  obtain ⟨⟨hx, hb, hml, hown, hts⟩, hr, hlk⟩ := id X
  intro x v2 t0 t1 H locs ls hP hD hS hl h
  unfold f_X6_takes_b46 at h
  refine lv_iload_n hx hb dX6_takes_46 rfl (lv_at hl 0 rfl) ?_
  obtain ⟨x3, hr0, h⟩ := bn1_elim h
  refine mp_callv (As := [.int t1, .int t0, .int v2]) (rest := []) X (c_X6_begins l D y a hr0) (mp_cw (k := 3) hts mM_X6_161 mI_X6_begins mS_X6_begins mN_X6 mC_X6_begins rfl rfl (by decide +kernel) ⟨Nat.le_of_ble_eq_true rfl, Nat.le_of_ble_eq_true rfl⟩) hK hP hD hS hA 0 mwC_0 rfl rfl hl.1 rfl (Nat.le_of_ble_eq_true rfl) dX6_takes_47 ⟨Nat.zero_le _, Nat.zero_le _⟩ (fun H locs hP hD hS => ?_)
  cases h
  exact mpr_v X hK hP hD hS dX6_takes_50
def f_X6_takes_b10 (x : PD) (v1 : Int32) (v2 : Int32) (t0 : Int32) : Option (PD) :=
  bn1 (f_X6_logs x t0 v1) fun x1 =>
  gd (inR v1 100) (gd (inR v1 100) (bn1 (f_X6_get x1 ((0 : Int32))) fun r2 =>
  if (rA x1 8 (Int32.toNatClampNeg v1)) = r2 then
  bn1 (f_X6_get x1 ((2 : Int32))) fun r4 =>
  (f_X6_takes_b46 x1 v2 (r4 + ((1 : Int32))) (rA x1 8 (Int32.toNatClampNeg v1)))
  else
  (f_X6_takes_b46 x1 v2 ((1 : Int32)) (rA x1 8 (Int32.toNatClampNeg v1)))))
set_option maxHeartbeats 4000000 in
set_option maxRecDepth 100000 in
theorem w_X6_takes_b10 {p : Program} {l : Launch} {e : Env} {s : State} {m : MethodId} {args : Array Value} {below : List Frame} {meth : Method} {c : Code} {D : va_G} {y : CY} {a : Nat → Nat} {A : Nat → Prop} {x' : PD} (X : mpX p s m args meth c cX6_takes 3 none RX6) (hK : va_K D vwCl (mpT y) s) (hA : ∀ q, s.heap.size ≤ q → A q) : ∀ (x : PD) (v1 : Int32) (v2 : Int32) (t0 : Int32) (H : Heap) (locs : List Loc) (ls : Array Slot), va_P D vwCl (mw y a x) H → va_D A (mw y a x) → va_S A s.heap H locs → lv_has ls 3 [(0, .ref (a 0)), (1, .int v1), (2, .int v2)] → f_X6_takes_b10 x v1 v2 t0 = some x' → W p l e { frames := 5, cells := 0, slots := 0, locals := 125 } s m args below meth c H locs 0 0 (MQ below (mpC D y A (mw y a x') none) args s 0 0 A) (F0 m 10 ls [.int t0, .ref (a 0)]) := by
  obtain ⟨⟨hx, hb, hml, hown, hts⟩, hr, hlk⟩ := id X
  intro x v1 v2 t0 H locs ls hP hD hS hl h
  unfold f_X6_takes_b10 at h
  refine lv_iload_n hx hb dX6_takes_10 rfl (lv_at hl 1 rfl) ?_
  obtain ⟨x1, hr0, h⟩ := bn1_elim h
  refine mp_callv (As := [.int t0, .int v1]) (rest := []) X (c_X6_logs l D y a hr0) (mp_cw (k := 2) hts mM_X6_158 mI_X6_logs mS_X6_logs mN_X6 mC_X6_logs rfl rfl (by decide +kernel) ⟨Nat.le_of_ble_eq_true rfl, Nat.le_of_ble_eq_true rfl⟩) hK hP hD hS hA 0 mwC_0 rfl rfl hl.1 rfl (Nat.le_of_ble_eq_true rfl) dX6_takes_11 ⟨Nat.zero_le _, Nat.zero_le _⟩ (fun H locs hP hD hS => ?_)
  refine lv_aload_n hx hb dX6_takes_14 rfl (lv_at hl 0 rfl) ?_
  refine lv_aload_n hx hb dX6_takes_15 rfl (lv_at hl 0 rfl) ?_
  refine mwG_0_10 X hK hP mF_X6_31 dX6_takes_16 ?_
  refine lv_iload_n hx hb dX6_takes_19 rfl (lv_at hl 1 rfl) ?_
  obtain ⟨hg, h⟩ := gd_elim h
  refine mwL_8 X hK hP hg dX6_takes_20 ?_
  refine lv_aload_n hx hb dX6_takes_21 rfl (lv_at hl 0 rfl) ?_
  refine mwG_0_10 X hK hP mF_X6_31 dX6_takes_22 ?_
  refine lv_iload_n hx hb dX6_takes_25 rfl (lv_at hl 1 rfl) ?_
  obtain ⟨hg, h⟩ := gd_elim h
  refine mwL_8 X hK hP hg dX6_takes_26 ?_
  refine lv_aload_n hx hb dX6_takes_27 rfl (lv_at hl 0 rfl) ?_
  refine lv_iconst (v := 0) hx hb dX6_takes_28 (by decide) ?_
  obtain ⟨r2, hr0, h⟩ := bn1_elim h
  refine mp_call1 (As := [.int ((0 : Int32))]) (rest := [.int (rA x1 8 (Int32.toNatClampNeg v1)), .int (rA x1 8 (Int32.toNatClampNeg v1)), .ref (a 0)]) X (c_X6_get l D y a hr0) (mp_cw (k := 1) hts mM_X6_126 mI_X6_get mS_X6_get mN_X6 mC_X6_get rfl rfl (by decide +kernel) ⟨Nat.le_of_ble_eq_true rfl, Nat.le_of_ble_eq_true rfl⟩) hK hP hD hS hA 0 mwC_0 rfl rfl hl.1 rfl (Nat.le_of_ble_eq_true rfl) dX6_takes_29 ⟨Nat.zero_le _, Nat.zero_le _⟩ (fun H locs hP hD hS => ?_)
  refine lv_icmp_ne (tgt := 45) hx hb dX6_takes_32 (by decide) (fun hc => ?_) (fun hc => ?_)
  · replace h := iff_ hc h
    refine lv_iconst (v := 1) hx hb dX6_takes_45 (by decide) ?_
    exact w_X6_takes_b46 X hK hA x1 v2 ((1 : Int32)) (rA x1 8 (Int32.toNatClampNeg v1)) _ _ _ hP hD hS (lv_sub hl [2] rfl) h
  · replace h := ift hc h
    refine lv_aload_n hx hb dX6_takes_35 rfl (lv_at hl 0 rfl) ?_
    refine lv_iconst (v := 2) hx hb dX6_takes_36 (by decide) ?_
    obtain ⟨r4, hr0, h⟩ := bn1_elim h
    refine mp_call1 (As := [.int ((2 : Int32))]) (rest := [.int (rA x1 8 (Int32.toNatClampNeg v1)), .ref (a 0)]) X (c_X6_get l D y a hr0) (mp_cw (k := 1) hts mM_X6_126 mI_X6_get mS_X6_get mN_X6 mC_X6_get rfl rfl (by decide +kernel) ⟨Nat.le_of_ble_eq_true rfl, Nat.le_of_ble_eq_true rfl⟩) hK hP hD hS hA 0 mwC_0 rfl rfl hl.1 rfl (Nat.le_of_ble_eq_true rfl) dX6_takes_37 ⟨Nat.zero_le _, Nat.zero_le _⟩ (fun H locs hP hD hS => ?_)
    refine lv_iconst (v := 1) hx hb dX6_takes_40 (by decide) ?_
    refine lv_iadd hx hb dX6_takes_41 ?_
    refine lv_goto (tgt := 46) hx hb dX6_takes_42 (by decide) ?_
    exact w_X6_takes_b46 X hK hA x1 v2 (r4 + ((1 : Int32))) (rA x1 8 (Int32.toNatClampNeg v1)) _ _ _ hP hD hS (lv_sub hl [2] rfl) h
def f_X6_takes (x : PD) (p1 : Int32) (p2 : Int32) : Option (PD) :=
  if p2 = 0 then
  ((f_X6_takes_b10 x p1 p2 ((2 : Int32))))
  else
  (f_X6_takes_b10 x p1 p2 ((1 : Int32)))
set_option maxHeartbeats 4000000 in
set_option maxRecDepth 100000 in
theorem c_X6_takes (l : Launch) (D : va_G) (y : CY) (a : Nat → Nat) {x : PD} {x' : PD} {p1 : Int32} {p2 : Int32} (h : f_X6_takes x p1 p2 = some x') : mpM l D y yX6_takes cX6_takes 3 none { frames := 5, cells := 0, slots := 0, locals := 125 } (mw y a x) (mw y a x') [.ref (a 0), .int p1, .int p2] none := by
  refine mpM.mk (own := RX6) (by decide) rfl (Nat.le_of_ble_eq_true rfl) ?_
  intro p e s m below meth c A ls X hK hA hP hD hl
  have hS : va_S A s.heap s.heap [] := va_S.rf
  obtain ⟨⟨hx, hb, hml, hown, hts⟩, hr, hlk⟩ := id X
  have hl : lv_has ls 3 [(0, .ref (a 0)), (1, .int p1), (2, .int p2)] := hl
  unfold f_X6_takes at h
  refine lv_aload_n hx hb dX6_takes_0 rfl (lv_at hl 0 rfl) ?_
  refine lv_iload_n hx hb dX6_takes_1 rfl (lv_at hl 2 rfl) ?_
  refine lv_if_eq (tgt := 9) hx hb dX6_takes_2 (by decide) (fun hc => ?_) (fun hc => ?_)
  · replace h := ift hc h
    refine lv_iconst (v := 2) hx hb dX6_takes_9 (by decide) ?_
    exact w_X6_takes_b10 X hK hA x p1 p2 ((2 : Int32)) _ _ _ hP hD hS (lv_sub hl [0, 1, 2] rfl) h
  · replace h := iff_ hc h
    refine lv_iconst (v := 1) hx hb dX6_takes_5 (by decide) ?_
    refine lv_goto (tgt := 10) hx hb dX6_takes_6 (by decide) ?_
    exact w_X6_takes_b10 X hK hA x p1 p2 ((1 : Int32)) _ _ _ hP hD hS (lv_sub hl [0, 1, 2] rfl) h
def f_X6_goesAgain (x : PD) (p1 : Int32) : Option (PD) :=
  bn1 (f_X6_get x ((0 : Int32))) fun r1 =>
  bn1 (f_X6_logs x ((3 : Int32)) r1) fun x2 =>
  bn1 (f_X6_get x2 ((0 : Int32))) fun r3 =>
  bn1 (f_X6_get x2 ((2 : Int32))) fun r4 =>
  bn1 (f_X6_begins x2 r3 (r4 + ((1 : Int32))) p1) fun x5 =>
  some x5
set_option maxHeartbeats 4000000 in
set_option maxRecDepth 100000 in
theorem c_X6_goesAgain (l : Launch) (D : va_G) (y : CY) (a : Nat → Nat) {x : PD} {x' : PD} {p1 : Int32} (h : f_X6_goesAgain x p1 = some x') : mpM l D y yX6_goesAgain cX6_goesAgain 2 none { frames := 5, cells := 0, slots := 0, locals := 125 } (mw y a x) (mw y a x') [.ref (a 0), .int p1] none := by
  refine mpM.mk (own := RX6) (by decide) rfl (Nat.le_of_ble_eq_true rfl) ?_
  intro p e s m below meth c A ls X hK hA hP hD hl
  have hS : va_S A s.heap s.heap [] := va_S.rf
  obtain ⟨⟨hx, hb, hml, hown, hts⟩, hr, hlk⟩ := id X
  have hl : lv_has ls 2 [(0, .ref (a 0)), (1, .int p1)] := hl
  unfold f_X6_goesAgain at h
  refine lv_aload_n hx hb dX6_goesAgain_0 rfl (lv_at hl 0 rfl) ?_
  refine lv_iconst (v := 3) hx hb dX6_goesAgain_1 (by decide) ?_
  refine lv_aload_n hx hb dX6_goesAgain_2 rfl (lv_at hl 0 rfl) ?_
  refine lv_iconst (v := 0) hx hb dX6_goesAgain_3 (by decide) ?_
  obtain ⟨r1, hr0, h⟩ := bn1_elim h
  refine mp_call1 (As := [.int ((0 : Int32))]) (rest := [.int ((3 : Int32)), .ref (a 0)]) X (c_X6_get l D y a hr0) (mp_cw (k := 1) hts mM_X6_126 mI_X6_get mS_X6_get mN_X6 mC_X6_get rfl rfl (by decide +kernel) ⟨Nat.le_of_ble_eq_true rfl, Nat.le_of_ble_eq_true rfl⟩) hK hP hD hS hA 0 mwC_0 rfl rfl hl.1 rfl (Nat.le_of_ble_eq_true rfl) dX6_goesAgain_4 ⟨Nat.zero_le _, Nat.zero_le _⟩ (fun H locs hP hD hS => ?_)
  obtain ⟨x2, hr0, h⟩ := bn1_elim h
  refine mp_callv (As := [.int ((3 : Int32)), .int r1]) (rest := []) X (c_X6_logs l D y a hr0) (mp_cw (k := 2) hts mM_X6_158 mI_X6_logs mS_X6_logs mN_X6 mC_X6_logs rfl rfl (by decide +kernel) ⟨Nat.le_of_ble_eq_true rfl, Nat.le_of_ble_eq_true rfl⟩) hK hP hD hS hA 0 mwC_0 rfl rfl hl.1 rfl (Nat.le_of_ble_eq_true rfl) dX6_goesAgain_7 ⟨Nat.zero_le _, Nat.zero_le _⟩ (fun H locs hP hD hS => ?_)
  refine lv_aload_n hx hb dX6_goesAgain_10 rfl (lv_at hl 0 rfl) ?_
  refine lv_aload_n hx hb dX6_goesAgain_11 rfl (lv_at hl 0 rfl) ?_
  refine lv_iconst (v := 0) hx hb dX6_goesAgain_12 (by decide) ?_
  obtain ⟨r3, hr0, h⟩ := bn1_elim h
  refine mp_call1 (As := [.int ((0 : Int32))]) (rest := [.ref (a 0)]) X (c_X6_get l D y a hr0) (mp_cw (k := 1) hts mM_X6_126 mI_X6_get mS_X6_get mN_X6 mC_X6_get rfl rfl (by decide +kernel) ⟨Nat.le_of_ble_eq_true rfl, Nat.le_of_ble_eq_true rfl⟩) hK hP hD hS hA 0 mwC_0 rfl rfl hl.1 rfl (Nat.le_of_ble_eq_true rfl) dX6_goesAgain_13 ⟨Nat.zero_le _, Nat.zero_le _⟩ (fun H locs hP hD hS => ?_)
  refine lv_aload_n hx hb dX6_goesAgain_16 rfl (lv_at hl 0 rfl) ?_
  refine lv_iconst (v := 2) hx hb dX6_goesAgain_17 (by decide) ?_
  obtain ⟨r4, hr0, h⟩ := bn1_elim h
  refine mp_call1 (As := [.int ((2 : Int32))]) (rest := [.int r3, .ref (a 0)]) X (c_X6_get l D y a hr0) (mp_cw (k := 1) hts mM_X6_126 mI_X6_get mS_X6_get mN_X6 mC_X6_get rfl rfl (by decide +kernel) ⟨Nat.le_of_ble_eq_true rfl, Nat.le_of_ble_eq_true rfl⟩) hK hP hD hS hA 0 mwC_0 rfl rfl hl.1 rfl (Nat.le_of_ble_eq_true rfl) dX6_goesAgain_18 ⟨Nat.zero_le _, Nat.zero_le _⟩ (fun H locs hP hD hS => ?_)
  refine lv_iconst (v := 1) hx hb dX6_goesAgain_21 (by decide) ?_
  refine lv_iadd hx hb dX6_goesAgain_22 ?_
  refine lv_iload_n hx hb dX6_goesAgain_23 rfl (lv_at hl 1 rfl) ?_
  obtain ⟨x5, hr0, h⟩ := bn1_elim h
  refine mp_callv (As := [.int r3, .int (r4 + ((1 : Int32))), .int p1]) (rest := []) X (c_X6_begins l D y a hr0) (mp_cw (k := 3) hts mM_X6_161 mI_X6_begins mS_X6_begins mN_X6 mC_X6_begins rfl rfl (by decide +kernel) ⟨Nat.le_of_ble_eq_true rfl, Nat.le_of_ble_eq_true rfl⟩) hK hP hD hS hA 0 mwC_0 rfl rfl hl.1 rfl (Nat.le_of_ble_eq_true rfl) dX6_goesAgain_24 ⟨Nat.zero_le _, Nat.zero_le _⟩ (fun H locs hP hD hS => ?_)
  cases h
  exact mpr_v X hK hP hD hS dX6_goesAgain_27
def f_X6_isDone_b212 (x : PD) : Option (PD) :=
  bn1 (f_X6_get x ((0 : Int32))) fun r5 =>
  if r5 = ((-1 : Int32)) then
  some x
  else
  bn1 (f_X6_layers x) fun x6 =>
  bn1 (f_X6_get x6 ((5 : Int32))) fun r7 =>
  if r7 = ((-1 : Int32)) then
  bn1 (f_X6_get x6 ((6 : Int32))) fun r8 =>
  if r8 ≤ 0 then
  (some x6)
  else
  bn1 (f_X6_get x6 ((0 : Int32))) fun r9 =>
  gd (inR r9 20) (bn1 (f_X6_get x6 ((1 : Int32))) fun r10 =>
  bn1 (f_X6_get x6 ((7 : Int32))) fun r11 =>
  gd (inR r11 20) (if ((rA x6 2 (Int32.toNatClampNeg r9)) - r10) < (rA x6 2 (Int32.toNatClampNeg r11)) then
  (some x6)
  else
  bn1 (f_X6_stings x6) fun x12 =>
  some x12))
  else
  some x6
set_option maxHeartbeats 4000000 in
set_option maxRecDepth 100000 in
theorem w_X6_isDone_b212 {p : Program} {l : Launch} {e : Env} {s : State} {m : MethodId} {args : Array Value} {below : List Frame} {meth : Method} {c : Code} {D : va_G} {y : CY} {a : Nat → Nat} {A : Nat → Prop} {x' : PD} (X : mpX p s m args meth c cX6_isDone 6 none RX6) (hK : va_K D vwCl (mpT y) s) (hA : ∀ q, s.heap.size ≤ q → A q) : ∀ (x : PD) (H : Heap) (locs : List Loc) (ls : Array Slot), va_P D vwCl (mw y a x) H → va_D A (mw y a x) → va_S A s.heap H locs → lv_has ls 6 [(0, .ref (a 0))] → f_X6_isDone_b212 x = some x' → W p l e { frames := 6, cells := 0, slots := 0, locals := 147 } s m args below meth c H locs 0 0 (MQ below (mpC D y A (mw y a x') none) args s 0 0 A) (F0 m 212 ls []) := by
  obtain ⟨⟨hx, hb, hml, hown, hts⟩, hr, hlk⟩ := id X
  intro x H locs ls hP hD hS hl h
  unfold f_X6_isDone_b212 at h
  refine lv_aload_n hx hb dX6_isDone_212 rfl (lv_at hl 0 rfl) ?_
  refine lv_iconst (v := 0) hx hb dX6_isDone_213 (by decide) ?_
  obtain ⟨r5, hr0, h⟩ := bn1_elim h
  refine mp_call1 (As := [.int ((0 : Int32))]) (rest := []) X (c_X6_get l D y a hr0) (mp_cw (k := 1) hts mM_X6_126 mI_X6_get mS_X6_get mN_X6 mC_X6_get rfl rfl (by decide +kernel) ⟨Nat.le_of_ble_eq_true rfl, Nat.le_of_ble_eq_true rfl⟩) hK hP hD hS hA 0 mwC_0 rfl rfl hl.1 rfl (Nat.le_of_ble_eq_true rfl) dX6_isDone_214 ⟨Nat.zero_le _, Nat.zero_le _⟩ (fun H locs hP hD hS => ?_)
  refine lv_iconst (v := -1) hx hb dX6_isDone_217 (by decide) ?_
  refine lv_icmp_ne (tgt := 222) hx hb dX6_isDone_218 (by decide) (fun hc => ?_) (fun hc => ?_)
  · replace h := iff_ hc h
    refine lv_aload_n hx hb dX6_isDone_222 rfl (lv_at hl 0 rfl) ?_
    obtain ⟨x6, hr0, h⟩ := bn1_elim h
    refine mp_callv (As := []) (rest := []) X (c_X6_layers l D y a hr0) (mp_cw (k := 0) hts mM_X6_178 mI_X6_layers mS_X6_layers mN_X6 mC_X6_layers rfl rfl (by decide +kernel) ⟨Nat.le_of_ble_eq_true rfl, Nat.le_of_ble_eq_true rfl⟩) hK hP hD hS hA 0 mwC_0 rfl rfl hl.1 rfl (Nat.le_of_ble_eq_true rfl) dX6_isDone_223 ⟨Nat.zero_le _, Nat.zero_le _⟩ (fun H locs hP hD hS => ?_)
    refine lv_aload_n hx hb dX6_isDone_226 rfl (lv_at hl 0 rfl) ?_
    refine lv_iconst (v := 5) hx hb dX6_isDone_227 (by decide) ?_
    obtain ⟨r7, hr0, h⟩ := bn1_elim h
    refine mp_call1 (As := [.int ((5 : Int32))]) (rest := []) X (c_X6_get l D y a hr0) (mp_cw (k := 1) hts mM_X6_126 mI_X6_get mS_X6_get mN_X6 mC_X6_get rfl rfl (by decide +kernel) ⟨Nat.le_of_ble_eq_true rfl, Nat.le_of_ble_eq_true rfl⟩) hK hP hD hS hA 0 mwC_0 rfl rfl hl.1 rfl (Nat.le_of_ble_eq_true rfl) dX6_isDone_228 ⟨Nat.zero_le _, Nat.zero_le _⟩ (fun H locs hP hD hS => ?_)
    refine lv_iconst (v := -1) hx hb dX6_isDone_231 (by decide) ?_
    refine lv_icmp_ne (tgt := 278) hx hb dX6_isDone_232 (by decide) (fun hc => ?_) (fun hc => ?_)
    · replace h := iff_ hc h
      cases h
      exact mpr_v X hK hP hD hS dX6_isDone_278
    · replace h := ift hc h
      refine lv_aload_n hx hb dX6_isDone_235 rfl (lv_at hl 0 rfl) ?_
      refine lv_bipush (v := 6) hx hb dX6_isDone_236 (by decide) ?_
      obtain ⟨r8, hr0, h⟩ := bn1_elim h
      refine mp_call1 (As := [.int ((6 : Int32))]) (rest := []) X (c_X6_get l D y a hr0) (mp_cw (k := 1) hts mM_X6_126 mI_X6_get mS_X6_get mN_X6 mC_X6_get rfl rfl (by decide +kernel) ⟨Nat.le_of_ble_eq_true rfl, Nat.le_of_ble_eq_true rfl⟩) hK hP hD hS hA 0 mwC_0 rfl rfl hl.1 rfl (Nat.le_of_ble_eq_true rfl) dX6_isDone_238 ⟨Nat.zero_le _, Nat.zero_le _⟩ (fun H locs hP hD hS => ?_)
      refine lv_if_le (tgt := 278) hx hb dX6_isDone_241 (by decide) (fun hc => ?_) (fun hc => ?_)
      · replace h := ift hc h
        cases h
        exact mpr_v X hK hP hD hS dX6_isDone_278
      · replace h := iff_ hc h
        refine lv_aload_n hx hb dX6_isDone_244 rfl (lv_at hl 0 rfl) ?_
        refine mwG_0_4 X hK hP mF_X6_13 dX6_isDone_245 ?_
        refine lv_aload_n hx hb dX6_isDone_248 rfl (lv_at hl 0 rfl) ?_
        refine lv_iconst (v := 0) hx hb dX6_isDone_249 (by decide) ?_
        obtain ⟨r9, hr0, h⟩ := bn1_elim h
        refine mp_call1 (As := [.int ((0 : Int32))]) (rest := [.ref (a 2)]) X (c_X6_get l D y a hr0) (mp_cw (k := 1) hts mM_X6_126 mI_X6_get mS_X6_get mN_X6 mC_X6_get rfl rfl (by decide +kernel) ⟨Nat.le_of_ble_eq_true rfl, Nat.le_of_ble_eq_true rfl⟩) hK hP hD hS hA 0 mwC_0 rfl rfl hl.1 rfl (Nat.le_of_ble_eq_true rfl) dX6_isDone_250 ⟨Nat.zero_le _, Nat.zero_le _⟩ (fun H locs hP hD hS => ?_)
        obtain ⟨hg, h⟩ := gd_elim h
        refine mwL_2 X hK hP hg dX6_isDone_253 ?_
        refine lv_aload_n hx hb dX6_isDone_254 rfl (lv_at hl 0 rfl) ?_
        refine lv_iconst (v := 1) hx hb dX6_isDone_255 (by decide) ?_
        obtain ⟨r10, hr0, h⟩ := bn1_elim h
        refine mp_call1 (As := [.int ((1 : Int32))]) (rest := [.int (rA x6 2 (Int32.toNatClampNeg r9))]) X (c_X6_get l D y a hr0) (mp_cw (k := 1) hts mM_X6_126 mI_X6_get mS_X6_get mN_X6 mC_X6_get rfl rfl (by decide +kernel) ⟨Nat.le_of_ble_eq_true rfl, Nat.le_of_ble_eq_true rfl⟩) hK hP hD hS hA 0 mwC_0 rfl rfl hl.1 rfl (Nat.le_of_ble_eq_true rfl) dX6_isDone_256 ⟨Nat.zero_le _, Nat.zero_le _⟩ (fun H locs hP hD hS => ?_)
        refine lv_isub hx hb dX6_isDone_259 ?_
        refine lv_aload_n hx hb dX6_isDone_260 rfl (lv_at hl 0 rfl) ?_
        refine mwG_0_4 X hK hP mF_X6_13 dX6_isDone_261 ?_
        refine lv_aload_n hx hb dX6_isDone_264 rfl (lv_at hl 0 rfl) ?_
        refine lv_bipush (v := 7) hx hb dX6_isDone_265 (by decide) ?_
        obtain ⟨r11, hr0, h⟩ := bn1_elim h
        refine mp_call1 (As := [.int ((7 : Int32))]) (rest := [.ref (a 2), .int ((rA x6 2 (Int32.toNatClampNeg r9)) - r10)]) X (c_X6_get l D y a hr0) (mp_cw (k := 1) hts mM_X6_126 mI_X6_get mS_X6_get mN_X6 mC_X6_get rfl rfl (by decide +kernel) ⟨Nat.le_of_ble_eq_true rfl, Nat.le_of_ble_eq_true rfl⟩) hK hP hD hS hA 0 mwC_0 rfl rfl hl.1 rfl (Nat.le_of_ble_eq_true rfl) dX6_isDone_267 ⟨Nat.zero_le _, Nat.zero_le _⟩ (fun H locs hP hD hS => ?_)
        obtain ⟨hg, h⟩ := gd_elim h
        refine mwL_2 X hK hP hg dX6_isDone_270 ?_
        refine lv_icmp_lt (tgt := 278) hx hb dX6_isDone_271 (by decide) (fun hc => ?_) (fun hc => ?_)
        · replace h := ift hc h
          cases h
          exact mpr_v X hK hP hD hS dX6_isDone_278
        · replace h := iff_ hc h
          refine lv_aload_n hx hb dX6_isDone_274 rfl (lv_at hl 0 rfl) ?_
          obtain ⟨x12, hr0, h⟩ := bn1_elim h
          refine mp_callv (As := []) (rest := []) X (c_X6_stings l D y a hr0) (mp_cw (k := 0) hts mM_X6_181 mI_X6_stings mS_X6_stings mN_X6 mC_X6_stings rfl rfl (by decide +kernel) ⟨Nat.le_of_ble_eq_true rfl, Nat.le_of_ble_eq_true rfl⟩) hK hP hD hS hA 0 mwC_0 rfl rfl hl.1 rfl (Nat.le_of_ble_eq_true rfl) dX6_isDone_275 ⟨Nat.zero_le _, Nat.zero_le _⟩ (fun H locs hP hD hS => ?_)
          cases h
          exact mpr_v X hK hP hD hS dX6_isDone_278
  · replace h := ift hc h
    cases h
    exact mpr_v X hK hP hD hS dX6_isDone_221
def f_X6_isDone_b192 (x : PD) (v5 : Int32) : Option (PD) :=
  if v5 = ((-1 : Int32)) then
  (bn1 (f_X6_silence x) fun x14 =>
  (f_X6_isDone_b212 x14))
  else
  bn1 (f_X6_takes x v5 ((0 : Int32))) fun x15 =>
  (f_X6_isDone_b212 x15)
set_option maxHeartbeats 4000000 in
set_option maxRecDepth 100000 in
theorem w_X6_isDone_b192 {p : Program} {l : Launch} {e : Env} {s : State} {m : MethodId} {args : Array Value} {below : List Frame} {meth : Method} {c : Code} {D : va_G} {y : CY} {a : Nat → Nat} {A : Nat → Prop} {x' : PD} (X : mpX p s m args meth c cX6_isDone 6 none RX6) (hK : va_K D vwCl (mpT y) s) (hA : ∀ q, s.heap.size ≤ q → A q) : ∀ (x : PD) (v5 : Int32) (H : Heap) (locs : List Loc) (ls : Array Slot), va_P D vwCl (mw y a x) H → va_D A (mw y a x) → va_S A s.heap H locs → lv_has ls 6 [(0, .ref (a 0)), (5, .int v5)] → f_X6_isDone_b192 x v5 = some x' → W p l e { frames := 6, cells := 0, slots := 0, locals := 147 } s m args below meth c H locs 0 0 (MQ below (mpC D y A (mw y a x') none) args s 0 0 A) (F0 m 192 ls []) := by
  obtain ⟨⟨hx, hb, hml, hown, hts⟩, hr, hlk⟩ := id X
  intro x v5 H locs ls hP hD hS hl h
  unfold f_X6_isDone_b192 at h
  refine lv_iload hx hb dX6_isDone_192 (lv_at hl 1 rfl) ?_
  refine lv_iconst (v := -1) hx hb dX6_isDone_194 (by decide) ?_
  refine lv_icmp_eq (tgt := 208) hx hb dX6_isDone_195 (by decide) (fun hc => ?_) (fun hc => ?_)
  · replace h := ift hc h
    refine lv_aload_n hx hb dX6_isDone_208 rfl (lv_at hl 0 rfl) ?_
    obtain ⟨x14, hr0, h⟩ := bn1_elim h
    refine mp_callv (As := []) (rest := []) X (c_X6_silence l D y a hr0) (mp_cw (k := 0) hts mM_X6_175 mI_X6_silence mS_X6_silence mN_X6 mC_X6_silence rfl rfl (by decide +kernel) ⟨Nat.le_of_ble_eq_true rfl, Nat.le_of_ble_eq_true rfl⟩) hK hP hD hS hA 0 mwC_0 rfl rfl hl.1 rfl (Nat.le_of_ble_eq_true rfl) dX6_isDone_209 ⟨Nat.zero_le _, Nat.zero_le _⟩ (fun H locs hP hD hS => ?_)
    exact w_X6_isDone_b212 X hK hA x14 _ _ _ hP hD hS (lv_sub hl [0] rfl) h
  · replace h := iff_ hc h
    refine lv_aload_n hx hb dX6_isDone_198 rfl (lv_at hl 0 rfl) ?_
    refine lv_iload hx hb dX6_isDone_199 (lv_at hl 1 rfl) ?_
    refine lv_iconst (v := 0) hx hb dX6_isDone_201 (by decide) ?_
    obtain ⟨x15, hr0, h⟩ := bn1_elim h
    refine mp_callv (As := [.int v5, .int ((0 : Int32))]) (rest := []) X (c_X6_takes l D y a hr0) (mp_cw (k := 2) hts mM_X6_169 mI_X6_takes mS_X6_takes mN_X6 mC_X6_takes rfl rfl (by decide +kernel) ⟨Nat.le_of_ble_eq_true rfl, Nat.le_of_ble_eq_true rfl⟩) hK hP hD hS hA 0 mwC_0 rfl rfl hl.1 rfl (Nat.le_of_ble_eq_true rfl) dX6_isDone_202 ⟨Nat.zero_le _, Nat.zero_le _⟩ (fun H locs hP hD hS => ?_)
    refine lv_goto (tgt := 212) hx hb dX6_isDone_205 (by decide) ?_
    exact w_X6_isDone_b212 X hK hA x15 _ _ _ hP hD hS (lv_sub hl [0] rfl) h
def f_X6_isDone_b184 (x : PD) : Option (PD) :=
  bn1 (f_X6_goesAgain x ((0 : Int32))) fun x17 =>
  (f_X6_isDone_b212 x17)
set_option maxHeartbeats 4000000 in
set_option maxRecDepth 100000 in
theorem w_X6_isDone_b184 {p : Program} {l : Launch} {e : Env} {s : State} {m : MethodId} {args : Array Value} {below : List Frame} {meth : Method} {c : Code} {D : va_G} {y : CY} {a : Nat → Nat} {A : Nat → Prop} {x' : PD} (X : mpX p s m args meth c cX6_isDone 6 none RX6) (hK : va_K D vwCl (mpT y) s) (hA : ∀ q, s.heap.size ≤ q → A q) : ∀ (x : PD) (H : Heap) (locs : List Loc) (ls : Array Slot), va_P D vwCl (mw y a x) H → va_D A (mw y a x) → va_S A s.heap H locs → lv_has ls 6 [(0, .ref (a 0))] → f_X6_isDone_b184 x = some x' → W p l e { frames := 6, cells := 0, slots := 0, locals := 147 } s m args below meth c H locs 0 0 (MQ below (mpC D y A (mw y a x') none) args s 0 0 A) (F0 m 184 ls []) := by
  obtain ⟨⟨hx, hb, hml, hown, hts⟩, hr, hlk⟩ := id X
  intro x H locs ls hP hD hS hl h
  unfold f_X6_isDone_b184 at h
  refine lv_aload_n hx hb dX6_isDone_184 rfl (lv_at hl 0 rfl) ?_
  refine lv_iconst (v := 0) hx hb dX6_isDone_185 (by decide) ?_
  obtain ⟨x17, hr0, h⟩ := bn1_elim h
  refine mp_callv (As := [.int ((0 : Int32))]) (rest := []) X (c_X6_goesAgain l D y a hr0) (mp_cw (k := 1) hts mM_X6_165 mI_X6_goesAgain mS_X6_goesAgain mN_X6 mC_X6_goesAgain rfl rfl (by decide +kernel) ⟨Nat.le_of_ble_eq_true rfl, Nat.le_of_ble_eq_true rfl⟩) hK hP hD hS hA 0 mwC_0 rfl rfl hl.1 rfl (Nat.le_of_ble_eq_true rfl) dX6_isDone_186 ⟨Nat.zero_le _, Nat.zero_le _⟩ (fun H locs hP hD hS => ?_)
  refine lv_goto (tgt := 212) hx hb dX6_isDone_189 (by decide) ?_
  exact w_X6_isDone_b212 X hK hA x17 _ _ _ hP hD hS (lv_sub hl [0] rfl) h
def f_X6_isDone_b144 (x : PD) (v1 : Int32) (v3 : Int32) : Option (PD) :=
  if v3 = 0 then
  ((f_X6_isDone_b212 x))
  else
  bn1 (f_X6_cheapest x v1) fun r13 =>
  gd (inR v1 20) (if (rA x 1 (Int32.toNatClampNeg v1)) = 0 then
  bn1 (f_X6_get x ((2 : Int32))) fun r16 =>
  gd (inR v1 20) (if r16 < (rA x 5 (Int32.toNatClampNeg v1)) then
  ((f_X6_isDone_b184 x))
  else
  if r13 = ((-1 : Int32)) then
  (f_X6_isDone_b184 x)
  else
  (f_X6_isDone_b192 x r13))
  else
  (f_X6_isDone_b192 x r13))
set_option maxHeartbeats 4000000 in
set_option maxRecDepth 100000 in
theorem w_X6_isDone_b144 {p : Program} {l : Launch} {e : Env} {s : State} {m : MethodId} {args : Array Value} {below : List Frame} {meth : Method} {c : Code} {D : va_G} {y : CY} {a : Nat → Nat} {A : Nat → Prop} {x' : PD} (X : mpX p s m args meth c cX6_isDone 6 none RX6) (hK : va_K D vwCl (mpT y) s) (hA : ∀ q, s.heap.size ≤ q → A q) : ∀ (x : PD) (v1 : Int32) (v3 : Int32) (H : Heap) (locs : List Loc) (ls : Array Slot), va_P D vwCl (mw y a x) H → va_D A (mw y a x) → va_S A s.heap H locs → lv_has ls 6 [(0, .ref (a 0)), (1, .int v1), (3, .int v3)] → f_X6_isDone_b144 x v1 v3 = some x' → W p l e { frames := 6, cells := 0, slots := 0, locals := 147 } s m args below meth c H locs 0 0 (MQ below (mpC D y A (mw y a x') none) args s 0 0 A) (F0 m 144 ls []) := by
  obtain ⟨⟨hx, hb, hml, hown, hts⟩, hr, hlk⟩ := id X
  intro x v1 v3 H locs ls hP hD hS hl h
  unfold f_X6_isDone_b144 at h
  refine lv_iload_n hx hb dX6_isDone_144 rfl (lv_at hl 2 rfl) ?_
  refine lv_if_eq (tgt := 212) hx hb dX6_isDone_145 (by decide) (fun hc => ?_) (fun hc => ?_)
  · replace h := ift hc h
    exact w_X6_isDone_b212 X hK hA x _ _ _ hP hD hS (lv_sub hl [0] rfl) h
  · replace h := iff_ hc h
    refine lv_aload_n hx hb dX6_isDone_148 rfl (lv_at hl 0 rfl) ?_
    refine lv_iload_n hx hb dX6_isDone_149 rfl (lv_at hl 1 rfl) ?_
    obtain ⟨r13, hr0, h⟩ := bn1_elim h
    refine mp_call1 (As := [.int v1]) (rest := []) X (c_X6_cheapest l D y a hr0) (mp_cw (k := 1) hts mM_X6_172 mI_X6_cheapest mS_X6_cheapest mN_X6 mC_X6_cheapest rfl rfl (by decide +kernel) ⟨Nat.le_of_ble_eq_true rfl, Nat.le_of_ble_eq_true rfl⟩) hK hP hD hS hA 0 mwC_0 rfl rfl hl.1 rfl (Nat.le_of_ble_eq_true rfl) dX6_isDone_150 ⟨Nat.zero_le _, Nat.zero_le _⟩ (fun H locs hP hD hS => ?_)
    refine lv_istore (lv' := [(5, .int r13), (0, .ref (a 0)), (1, .int v1), (3, .int v3)]) hx hb dX6_isDone_153 hl (by decide) rfl (fun ls hl => ?_)
    refine lv_aload_n hx hb dX6_isDone_155 rfl (lv_at hl 1 rfl) ?_
    refine mwG_0_3 X hK hP mF_X6_7 dX6_isDone_156 ?_
    refine lv_iload_n hx hb dX6_isDone_159 rfl (lv_at hl 2 rfl) ?_
    obtain ⟨hg, h⟩ := gd_elim h
    refine mwL_1 X hK hP hg dX6_isDone_160 ?_
    refine lv_if_ne (tgt := 192) hx hb dX6_isDone_161 (by decide) (fun hc => ?_) (fun hc => ?_)
    · replace h := iff_ hc h
      exact w_X6_isDone_b192 X hK hA x r13 _ _ _ hP hD hS (lv_sub hl [1, 0] rfl) h
    · replace h := ift hc h
      refine lv_aload_n hx hb dX6_isDone_164 rfl (lv_at hl 1 rfl) ?_
      refine lv_iconst (v := 2) hx hb dX6_isDone_165 (by decide) ?_
      obtain ⟨r16, hr0, h⟩ := bn1_elim h
      refine mp_call1 (As := [.int ((2 : Int32))]) (rest := []) X (c_X6_get l D y a hr0) (mp_cw (k := 1) hts mM_X6_126 mI_X6_get mS_X6_get mN_X6 mC_X6_get rfl rfl (by decide +kernel) ⟨Nat.le_of_ble_eq_true rfl, Nat.le_of_ble_eq_true rfl⟩) hK hP hD hS hA 0 mwC_0 rfl rfl hl.1 rfl (Nat.le_of_ble_eq_true rfl) dX6_isDone_166 ⟨Nat.zero_le _, Nat.zero_le _⟩ (fun H locs hP hD hS => ?_)
      refine lv_aload_n hx hb dX6_isDone_169 rfl (lv_at hl 1 rfl) ?_
      refine mwG_0_7 X hK hP mF_X6_22 dX6_isDone_170 ?_
      refine lv_iload_n hx hb dX6_isDone_173 rfl (lv_at hl 2 rfl) ?_
      obtain ⟨hg, h⟩ := gd_elim h
      refine mwL_5 X hK hP hg dX6_isDone_174 ?_
      refine lv_icmp_lt (tgt := 184) hx hb dX6_isDone_175 (by decide) (fun hc => ?_) (fun hc => ?_)
      · replace h := ift hc h
        exact w_X6_isDone_b184 X hK hA x _ _ _ hP hD hS (lv_sub hl [1] rfl) h
      · replace h := iff_ hc h
        refine lv_iload hx hb dX6_isDone_178 (lv_at hl 0 rfl) ?_
        refine lv_iconst (v := -1) hx hb dX6_isDone_180 (by decide) ?_
        refine lv_icmp_ne (tgt := 192) hx hb dX6_isDone_181 (by decide) (fun hc => ?_) (fun hc => ?_)
        · replace h := iff_ hc h
          exact w_X6_isDone_b192 X hK hA x r13 _ _ _ hP hD hS (lv_sub hl [1, 0] rfl) h
        · replace h := ift hc h
          exact w_X6_isDone_b184 X hK hA x _ _ _ hP hD hS (lv_sub hl [1] rfl) h
def f_X6_isDone_b109 (x : PD) (v4 : Int32) : Option (PD) :=
  letv (wI x 22 ((rI x 22) + ((1 : Int32)))) fun x18 =>
  if v4 = ((100 : Int32)) then
  bn1 (f_X6_goesAgain x18 ((1 : Int32))) fun x20 =>
  (f_X6_isDone_b212 x20)
  else
  bn1 (f_X6_takes x18 v4 ((1 : Int32))) fun x19 =>
  (f_X6_isDone_b212 x19)
set_option maxHeartbeats 4000000 in
set_option maxRecDepth 100000 in
theorem w_X6_isDone_b109 {p : Program} {l : Launch} {e : Env} {s : State} {m : MethodId} {args : Array Value} {below : List Frame} {meth : Method} {c : Code} {D : va_G} {y : CY} {a : Nat → Nat} {A : Nat → Prop} {x' : PD} (X : mpX p s m args meth c cX6_isDone 6 none RX6) (hK : va_K D vwCl (mpT y) s) (hA : ∀ q, s.heap.size ≤ q → A q) : ∀ (x : PD) (v4 : Int32) (H : Heap) (locs : List Loc) (ls : Array Slot), va_P D vwCl (mw y a x) H → va_D A (mw y a x) → va_S A s.heap H locs → lv_has ls 6 [(0, .ref (a 0)), (4, .int v4)] → f_X6_isDone_b109 x v4 = some x' → W p l e { frames := 6, cells := 0, slots := 0, locals := 147 } s m args below meth c H locs 0 0 (MQ below (mpC D y A (mw y a x') none) args s 0 0 A) (F0 m 109 ls []) := by
  obtain ⟨⟨hx, hb, hml, hown, hts⟩, hr, hlk⟩ := id X
  intro x v4 H locs ls hP hD hS hl h
  unfold f_X6_isDone_b109 at h
  refine lv_aload_n hx hb dX6_isDone_109 rfl (lv_at hl 0 rfl) ?_
  refine lv_dup hx hb dX6_isDone_110 rfl ?_
  refine mwG_0_22 X hK hP mF_X6_123 dX6_isDone_111 ?_
  refine lv_iconst (v := 1) hx hb dX6_isDone_114 (by decide) ?_
  refine lv_iadd hx hb dX6_isDone_115 ?_
  obtain ⟨x18, e1, h⟩ := letv_elim h
  refine mwP_0_22 X hK hP hD hS mF_X6_123 e1 dX6_isDone_116 (fun H locs hP hD hS => ?_)
  refine lv_iload hx hb dX6_isDone_119 (lv_at hl 1 rfl) ?_
  refine lv_bipush (v := 100) hx hb dX6_isDone_121 (by decide) ?_
  refine lv_icmp_ne (tgt := 134) hx hb dX6_isDone_123 (by decide) (fun hc => ?_) (fun hc => ?_)
  · replace h := iff_ hc h
    refine lv_aload_n hx hb dX6_isDone_134 rfl (lv_at hl 0 rfl) ?_
    refine lv_iload hx hb dX6_isDone_135 (lv_at hl 1 rfl) ?_
    refine lv_iconst (v := 1) hx hb dX6_isDone_137 (by decide) ?_
    obtain ⟨x19, hr0, h⟩ := bn1_elim h
    refine mp_callv (As := [.int v4, .int ((1 : Int32))]) (rest := []) X (c_X6_takes l D y a hr0) (mp_cw (k := 2) hts mM_X6_169 mI_X6_takes mS_X6_takes mN_X6 mC_X6_takes rfl rfl (by decide +kernel) ⟨Nat.le_of_ble_eq_true rfl, Nat.le_of_ble_eq_true rfl⟩) hK hP hD hS hA 0 mwC_0 rfl rfl hl.1 rfl (Nat.le_of_ble_eq_true rfl) dX6_isDone_138 ⟨Nat.zero_le _, Nat.zero_le _⟩ (fun H locs hP hD hS => ?_)
    refine lv_goto (tgt := 212) hx hb dX6_isDone_141 (by decide) ?_
    exact w_X6_isDone_b212 X hK hA x19 _ _ _ hP hD hS (lv_sub hl [0] rfl) h
  · replace h := ift hc h
    refine lv_aload_n hx hb dX6_isDone_126 rfl (lv_at hl 0 rfl) ?_
    refine lv_iconst (v := 1) hx hb dX6_isDone_127 (by decide) ?_
    obtain ⟨x20, hr0, h⟩ := bn1_elim h
    refine mp_callv (As := [.int ((1 : Int32))]) (rest := []) X (c_X6_goesAgain l D y a hr0) (mp_cw (k := 1) hts mM_X6_165 mI_X6_goesAgain mS_X6_goesAgain mN_X6 mC_X6_goesAgain rfl rfl (by decide +kernel) ⟨Nat.le_of_ble_eq_true rfl, Nat.le_of_ble_eq_true rfl⟩) hK hP hD hS hA 0 mwC_0 rfl rfl hl.1 rfl (Nat.le_of_ble_eq_true rfl) dX6_isDone_128 ⟨Nat.zero_le _, Nat.zero_le _⟩ (fun H locs hP hD hS => ?_)
    refine lv_goto (tgt := 212) hx hb dX6_isDone_131 (by decide) ?_
    exact w_X6_isDone_b212 X hK hA x20 _ _ _ hP hD hS (lv_sub hl [0] rfl) h
def f_X6_isDone_b76 (x : PD) (v1 : Int32) (v2 : Int32) (v3 : Int32) (t0 : Int32) : Option (PD) :=
  if t0 = ((100 : Int32)) then
  (if v3 = 0 then
  ((f_X6_isDone_b144 x v1 v3))
  else
  (f_X6_isDone_b109 x t0))
  else
  if t0 = ((-1 : Int32)) then
  ((f_X6_isDone_b144 x v1 v3))
  else
  gd (inR t0 100) (if (rA x 7 (Int32.toNatClampNeg t0)) = v2 then
  (f_X6_isDone_b109 x t0)
  else
  (f_X6_isDone_b144 x v1 v3))
set_option maxHeartbeats 4000000 in
set_option maxRecDepth 100000 in
theorem w_X6_isDone_b76 {p : Program} {l : Launch} {e : Env} {s : State} {m : MethodId} {args : Array Value} {below : List Frame} {meth : Method} {c : Code} {D : va_G} {y : CY} {a : Nat → Nat} {A : Nat → Prop} {x' : PD} (X : mpX p s m args meth c cX6_isDone 6 none RX6) (hK : va_K D vwCl (mpT y) s) (hA : ∀ q, s.heap.size ≤ q → A q) : ∀ (x : PD) (v1 : Int32) (v2 : Int32) (v3 : Int32) (t0 : Int32) (H : Heap) (locs : List Loc) (ls : Array Slot), va_P D vwCl (mw y a x) H → va_D A (mw y a x) → va_S A s.heap H locs → lv_has ls 6 [(0, .ref (a 0)), (1, .int v1), (2, .int v2), (3, .int v3)] → f_X6_isDone_b76 x v1 v2 v3 t0 = some x' → W p l e { frames := 6, cells := 0, slots := 0, locals := 147 } s m args below meth c H locs 0 0 (MQ below (mpC D y A (mw y a x') none) args s 0 0 A) (F0 m 76 ls [.int t0]) := by
  obtain ⟨⟨hx, hb, hml, hown, hts⟩, hr, hlk⟩ := id X
  intro x v1 v2 v3 t0 H locs ls hP hD hS hl h
  unfold f_X6_isDone_b76 at h
  refine lv_istore (lv' := [(4, .int t0), (0, .ref (a 0)), (1, .int v1), (2, .int v2), (3, .int v3)]) hx hb dX6_isDone_76 hl (by decide) rfl (fun ls hl => ?_)
  refine lv_iload hx hb dX6_isDone_78 (lv_at hl 0 rfl) ?_
  refine lv_bipush (v := 100) hx hb dX6_isDone_80 (by decide) ?_
  refine lv_icmp_ne (tgt := 92) hx hb dX6_isDone_82 (by decide) (fun hc => ?_) (fun hc => ?_)
  · replace h := iff_ hc h
    refine lv_iload hx hb dX6_isDone_92 (lv_at hl 0 rfl) ?_
    refine lv_iconst (v := -1) hx hb dX6_isDone_94 (by decide) ?_
    refine lv_icmp_eq (tgt := 144) hx hb dX6_isDone_95 (by decide) (fun hc => ?_) (fun hc => ?_)
    · replace h := ift hc h
      exact w_X6_isDone_b144 X hK hA x v1 v3 _ _ _ hP hD hS (lv_sub hl [1, 2, 4] rfl) h
    · replace h := iff_ hc h
      refine lv_aload_n hx hb dX6_isDone_98 rfl (lv_at hl 1 rfl) ?_
      refine mwG_0_9 X hK hP mF_X6_28 dX6_isDone_99 ?_
      refine lv_iload hx hb dX6_isDone_102 (lv_at hl 0 rfl) ?_
      obtain ⟨hg, h⟩ := gd_elim h
      refine mwL_7 X hK hP hg dX6_isDone_104 ?_
      refine lv_iload_n hx hb dX6_isDone_105 rfl (lv_at hl 3 rfl) ?_
      refine lv_icmp_ne (tgt := 144) hx hb dX6_isDone_106 (by decide) (fun hc => ?_) (fun hc => ?_)
      · replace h := iff_ hc h
        exact w_X6_isDone_b144 X hK hA x v1 v3 _ _ _ hP hD hS (lv_sub hl [1, 2, 4] rfl) h
      · replace h := ift hc h
        exact w_X6_isDone_b109 X hK hA x t0 _ _ _ hP hD hS (lv_sub hl [1, 0] rfl) h
  · replace h := ift hc h
    refine lv_iload_n hx hb dX6_isDone_85 rfl (lv_at hl 4 rfl) ?_
    refine lv_if_eq (tgt := 144) hx hb dX6_isDone_86 (by decide) (fun hc => ?_) (fun hc => ?_)
    · replace h := ift hc h
      exact w_X6_isDone_b144 X hK hA x v1 v3 _ _ _ hP hD hS (lv_sub hl [1, 2, 4] rfl) h
    · replace h := iff_ hc h
      refine lv_goto (tgt := 109) hx hb dX6_isDone_89 (by decide) ?_
      exact w_X6_isDone_b109 X hK hA x t0 _ _ _ hP hD hS (lv_sub hl [1, 0] rfl) h
def f_X6_isDone_b44 (x : PD) (v1 : Int32) (v2 : Int32) (t0 : Int32) : Option (PD) :=
  if (rI x 20) = 0 then
  ((f_X6_isDone_b76 x v1 v2 t0 ((-1 : Int32))))
  else
  if (rI x 21) ≤ (rI x 22) then
  ((f_X6_isDone_b76 x v1 v2 t0 ((-1 : Int32))))
  else
  gd (inR (rI x 22) 32) ((f_X6_isDone_b76 x v1 v2 t0 (rA x 16 (Int32.toNatClampNeg (rI x 22)))))
set_option maxHeartbeats 4000000 in
set_option maxRecDepth 100000 in
theorem w_X6_isDone_b44 {p : Program} {l : Launch} {e : Env} {s : State} {m : MethodId} {args : Array Value} {below : List Frame} {meth : Method} {c : Code} {D : va_G} {y : CY} {a : Nat → Nat} {A : Nat → Prop} {x' : PD} (X : mpX p s m args meth c cX6_isDone 6 none RX6) (hK : va_K D vwCl (mpT y) s) (hA : ∀ q, s.heap.size ≤ q → A q) : ∀ (x : PD) (v1 : Int32) (v2 : Int32) (t0 : Int32) (H : Heap) (locs : List Loc) (ls : Array Slot), va_P D vwCl (mw y a x) H → va_D A (mw y a x) → va_S A s.heap H locs → lv_has ls 6 [(0, .ref (a 0)), (1, .int v1), (2, .int v2)] → f_X6_isDone_b44 x v1 v2 t0 = some x' → W p l e { frames := 6, cells := 0, slots := 0, locals := 147 } s m args below meth c H locs 0 0 (MQ below (mpC D y A (mw y a x') none) args s 0 0 A) (F0 m 44 ls [.int t0]) := by
  obtain ⟨⟨hx, hb, hml, hown, hts⟩, hr, hlk⟩ := id X
  intro x v1 v2 t0 H locs ls hP hD hS hl h
  unfold f_X6_isDone_b44 at h
  refine lv_istore_n (lv' := [(3, .int t0), (0, .ref (a 0)), (1, .int v1), (2, .int v2)]) hx hb dX6_isDone_44 rfl hl (by decide) rfl (fun ls hl => ?_)
  refine lv_aload_n hx hb dX6_isDone_45 rfl (lv_at hl 1 rfl) ?_
  refine mwG_0_20 X hK hP mF_X6_116 dX6_isDone_46 ?_
  refine lv_if_eq (tgt := 75) hx hb dX6_isDone_49 (by decide) (fun hc => ?_) (fun hc => ?_)
  · replace h := ift hc h
    refine lv_iconst (v := -1) hx hb dX6_isDone_75 (by decide) ?_
    exact w_X6_isDone_b76 X hK hA x v1 v2 t0 ((-1 : Int32)) _ _ _ hP hD hS (lv_sub hl [1, 2, 3, 0] rfl) h
  · replace h := iff_ hc h
    refine lv_aload_n hx hb dX6_isDone_52 rfl (lv_at hl 1 rfl) ?_
    refine mwG_0_22 X hK hP mF_X6_123 dX6_isDone_53 ?_
    refine lv_aload_n hx hb dX6_isDone_56 rfl (lv_at hl 1 rfl) ?_
    refine mwG_0_21 X hK hP mF_X6_120 dX6_isDone_57 ?_
    refine lv_icmp_ge (tgt := 75) hx hb dX6_isDone_60 (by decide) (fun hc => ?_) (fun hc => ?_)
    · replace h := ift hc h
      refine lv_iconst (v := -1) hx hb dX6_isDone_75 (by decide) ?_
      exact w_X6_isDone_b76 X hK hA x v1 v2 t0 ((-1 : Int32)) _ _ _ hP hD hS (lv_sub hl [1, 2, 3, 0] rfl) h
    · replace h := iff_ hc h
      refine lv_aload_n hx hb dX6_isDone_63 rfl (lv_at hl 1 rfl) ?_
      refine mwG_0_23 X hK hP mF_X6_57 dX6_isDone_64 ?_
      refine lv_aload_n hx hb dX6_isDone_67 rfl (lv_at hl 1 rfl) ?_
      refine mwG_0_22 X hK hP mF_X6_123 dX6_isDone_68 ?_
      obtain ⟨hg, h⟩ := gd_elim h
      refine mwL_16 X hK hP hg dX6_isDone_71 ?_
      refine lv_goto (tgt := 76) hx hb dX6_isDone_72 (by decide) ?_
      exact w_X6_isDone_b76 X hK hA x v1 v2 t0 (rA x 16 (Int32.toNatClampNeg (rI x 22))) _ _ _ hP hD hS (lv_sub hl [1, 2, 3, 0] rfl) h
def f_X6_isDone (x : PD) : Option (PD) :=
  bn1 (f_X6_get x ((0 : Int32))) fun r1 =>
  letv (wB x 11 (vp_updL (rB x 11) (Int32.toNatClampNeg ((1 : Int32))) ((rB x 11 (Int32.toNatClampNeg ((1 : Int32)))) + ((1 : Int64))))) fun x2 =>
  letv (wB x2 11 (vp_updL (rB x2 11) (Int32.toNatClampNeg ((3 : Int32))) ((0 : Int64)))) fun x3 =>
  bn1 (f_X6_get x3 ((1 : Int32))) fun r4 =>
  gd (inR r1 20) (if r4 = (rA x3 2 (Int32.toNatClampNeg r1)) then
  (f_X6_isDone_b44 x3 r1 r4 ((1 : Int32)))
  else
  (f_X6_isDone_b44 x3 r1 r4 ((0 : Int32))))
set_option maxHeartbeats 4000000 in
set_option maxRecDepth 100000 in
theorem c_X6_isDone (l : Launch) (D : va_G) (y : CY) (a : Nat → Nat) {x : PD} {x' : PD} (h : f_X6_isDone x = some x') : mpM l D y yX6_isDone cX6_isDone 6 none { frames := 6, cells := 0, slots := 0, locals := 147 } (mw y a x) (mw y a x') [.ref (a 0)] none := by
  refine mpM.mk (own := RX6) (by decide) rfl (Nat.le_of_ble_eq_true rfl) ?_
  intro p e s m below meth c A ls X hK hA hP hD hl
  have hS : va_S A s.heap s.heap [] := va_S.rf
  obtain ⟨⟨hx, hb, hml, hown, hts⟩, hr, hlk⟩ := id X
  have hl : lv_has ls 6 [(0, .ref (a 0))] := hl
  unfold f_X6_isDone at h
  refine lv_aload_n hx hb dX6_isDone_0 rfl (lv_at hl 0 rfl) ?_
  refine lv_iconst (v := 0) hx hb dX6_isDone_1 (by decide) ?_
  obtain ⟨r1, hr0, h⟩ := bn1_elim h
  refine mp_call1 (As := [.int ((0 : Int32))]) (rest := []) X (c_X6_get l D y a hr0) (mp_cw (k := 1) hts mM_X6_126 mI_X6_get mS_X6_get mN_X6 mC_X6_get rfl rfl (by decide +kernel) ⟨Nat.le_of_ble_eq_true rfl, Nat.le_of_ble_eq_true rfl⟩) hK hP hD hS hA 0 mwC_0 rfl rfl hl.1 rfl (Nat.le_of_ble_eq_true rfl) dX6_isDone_2 ⟨Nat.zero_le _, Nat.zero_le _⟩ (fun H locs hP hD hS => ?_)
  refine lv_istore_n (lv' := [(1, .int r1), (0, .ref (a 0))]) hx hb dX6_isDone_5 rfl hl (by decide) rfl (fun ls hl => ?_)
  refine lv_aload_n hx hb dX6_isDone_6 rfl (lv_at hl 1 rfl) ?_
  refine mwG_0_13 X hK hP mF_X6_40 dX6_isDone_7 ?_
  refine lv_iconst (v := 1) hx hb dX6_isDone_10 (by decide) ?_
  refine lv_dup2_11 hx hb dX6_isDone_11 rfl rfl ?_
  refine mwL_11 X hK hP (by decide) dX6_isDone_12 ?_
  refine lv_lconst (v := 1) hx hb dX6_isDone_13 (by decide) ?_
  refine lv_ladd hx hb dX6_isDone_14 ?_
  obtain ⟨x2, e1, h⟩ := letv_elim h
  refine mwS_11 X hK hP hD hS (by decide) e1 dX6_isDone_15 (fun H locs hP hD hS => ?_)
  refine lv_aload_n hx hb dX6_isDone_16 rfl (lv_at hl 1 rfl) ?_
  refine mwG_0_13 X hK hP mF_X6_40 dX6_isDone_17 ?_
  refine lv_iconst (v := 3) hx hb dX6_isDone_20 (by decide) ?_
  refine lv_lconst (v := 0) hx hb dX6_isDone_21 (by decide) ?_
  obtain ⟨x3, e1, h⟩ := letv_elim h
  refine mwS_11 X hK hP hD hS (by decide) e1 dX6_isDone_22 (fun H locs hP hD hS => ?_)
  refine lv_aload_n hx hb dX6_isDone_23 rfl (lv_at hl 1 rfl) ?_
  refine lv_iconst (v := 1) hx hb dX6_isDone_24 (by decide) ?_
  obtain ⟨r4, hr0, h⟩ := bn1_elim h
  refine mp_call1 (As := [.int ((1 : Int32))]) (rest := []) X (c_X6_get l D y a hr0) (mp_cw (k := 1) hts mM_X6_126 mI_X6_get mS_X6_get mN_X6 mC_X6_get rfl rfl (by decide +kernel) ⟨Nat.le_of_ble_eq_true rfl, Nat.le_of_ble_eq_true rfl⟩) hK hP hD hS hA 0 mwC_0 rfl rfl hl.1 rfl (Nat.le_of_ble_eq_true rfl) dX6_isDone_25 ⟨Nat.zero_le _, Nat.zero_le _⟩ (fun H locs hP hD hS => ?_)
  refine lv_istore_n (lv' := [(2, .int r4), (1, .int r1), (0, .ref (a 0))]) hx hb dX6_isDone_28 rfl hl (by decide) rfl (fun ls hl => ?_)
  refine lv_iload_n hx hb dX6_isDone_29 rfl (lv_at hl 0 rfl) ?_
  refine lv_aload_n hx hb dX6_isDone_30 rfl (lv_at hl 2 rfl) ?_
  refine mwG_0_4 X hK hP mF_X6_13 dX6_isDone_31 ?_
  refine lv_iload_n hx hb dX6_isDone_34 rfl (lv_at hl 1 rfl) ?_
  obtain ⟨hg, h⟩ := gd_elim h
  refine mwL_2 X hK hP hg dX6_isDone_35 ?_
  refine lv_icmp_ne (tgt := 43) hx hb dX6_isDone_36 (by decide) (fun hc => ?_) (fun hc => ?_)
  · replace h := iff_ hc h
    refine lv_iconst (v := 0) hx hb dX6_isDone_43 (by decide) ?_
    exact w_X6_isDone_b44 X hK hA x3 r1 r4 ((0 : Int32)) _ _ _ hP hD hS (lv_sub hl [2, 1, 0] rfl) h
  · replace h := ift hc h
    refine lv_iconst (v := 1) hx hb dX6_isDone_39 (by decide) ?_
    refine lv_goto (tgt := 44) hx hb dX6_isDone_40 (by decide) ?_
    exact w_X6_isDone_b44 X hK hA x3 r1 r4 ((1 : Int32)) _ _ _ hP hD hS (lv_sub hl [2, 1, 0] rfl) h
