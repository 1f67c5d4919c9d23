def f_X5_beginSting (x : PD) : Option (PD) :=
  if (rI x 386) = ((-1 : Int32)) then
  (some x)
  else
  if (rI x 395) = ((-1 : Int32)) then
  (if (rI x 394) = 0 then
  some x
  else
  gd (inR (rI x 386) 20) (gd (inR (rA x 15 (Int32.toNatClampNeg ((0 : Int32)))) 20) (if (rA x 3 (Int32.toNatClampNeg (rA x 15 (Int32.toNatClampNeg ((0 : Int32)))))) ≤ ((rA x 3 (Int32.toNatClampNeg (rI x 386))) - (rI x 387)) then
  (bn1 (f_X3_shiftWaiting x) fun x1 =>
  letv (wI x1 395 (rA x 15 (Int32.toNatClampNeg ((0 : Int32))))) fun x2 =>
  bn1 (f_X2_length x2 (rA x 15 (Int32.toNatClampNeg ((0 : Int32))))) fun r3 =>
  letv (wL x2 396 ((rL x2 385) + r3)) fun x4 =>
  bn1 (f_X0_add x4 ((5 : Int32)) (rA x 15 (Int32.toNatClampNeg ((0 : Int32))))) fun x5 =>
  some x5)
  else
  some x)))
  else
  some x
set_option maxHeartbeats 4000000 in
set_option maxRecDepth 100000 in
theorem c_X5_beginSting (l : Launch) (D : va_G) (y : CY) (a : Nat → Nat) {x : PD} {x' : PD} (h : f_X5_beginSting x = some x') : mpM l D y yX5_beginSting cX5_beginSting 2 none { frames := 1, cells := 0, slots := 0, locals := 23 } (pw y a x) (pw y a x') [.ref (a 0)] none := by
  refine mpM.mk (own := RX5) (by decide) rfl (Nat.le_of_ble_eq_true rfl) ?_
  intro p e s m below meth c A ls X hK hA hP hD hl
  have hS : va_S A s.heap s.heap [] := va_S.rf
  obtain ⟨⟨hx, hb, hml, hown, hts⟩, hr, hlk⟩ := id X
  have hl : lv_has ls 2 [(0, .ref (a 0))] := hl
  unfold f_X5_beginSting at h
  refine lv_aload_n hx hb dX5_beginSting_0 rfl (lv_at hl 0 rfl) ?_
  refine pwG_0_1 X hK hP mF_X5_19 dX5_beginSting_1 ?_
  refine pwG_12_2 X hK hP mF_X5_175 dX5_beginSting_4 ?_
  refine lv_iconst (v := -1) hx hb dX5_beginSting_7 (by decide) ?_
  refine lv_icmp_eq (tgt := 32) hx hb dX5_beginSting_8 (by decide) (fun hc => ?_) (fun hc => ?_)
  · replace h := ift hc h
    cases h
    exact mpr_v X hK hP hD hS dX5_beginSting_32
  · replace h := iff_ hc h
    refine lv_aload_n hx hb dX5_beginSting_11 rfl (lv_at hl 0 rfl) ?_
    refine pwG_0_1 X hK hP mF_X5_19 dX5_beginSting_12 ?_
    refine pwG_12_11 X hK hP mF_X5_166 dX5_beginSting_15 ?_
    refine lv_iconst (v := -1) hx hb dX5_beginSting_18 (by decide) ?_
    refine lv_icmp_ne (tgt := 32) hx hb dX5_beginSting_19 (by decide) (fun hc => ?_) (fun hc => ?_)
    · replace h := iff_ hc h
      cases h
      exact mpr_v X hK hP hD hS dX5_beginSting_32
    · replace h := ift hc h
      refine lv_aload_n hx hb dX5_beginSting_22 rfl (lv_at hl 0 rfl) ?_
      refine pwG_0_1 X hK hP mF_X5_19 dX5_beginSting_23 ?_
      refine pwG_12_10 X hK hP mF_X5_151 dX5_beginSting_26 ?_
      refine lv_if_ne (tgt := 33) hx hb dX5_beginSting_29 (by decide) (fun hc => ?_) (fun hc => ?_)
      · replace h := iff_ hc h
        refine lv_aload_n hx hb dX5_beginSting_33 rfl (lv_at hl 0 rfl) ?_
        refine pwG_0_1 X hK hP mF_X5_19 dX5_beginSting_34 ?_
        refine pwG_12_9 X hK hP mF_X5_154 dX5_beginSting_37 ?_
        refine lv_iconst (v := 0) hx hb dX5_beginSting_40 (by decide) ?_
        refine pwL_15 X hK hP (by decide) dX5_beginSting_41 ?_
        refine lv_istore_n (lv' := [(1, .int (rA x 15 (Int32.toNatClampNeg ((0 : Int32))))), (0, .ref (a 0))]) hx hb dX5_beginSting_42 rfl hl (by decide) rfl (fun ls hl => ?_)
        refine lv_aload_n hx hb dX5_beginSting_43 rfl (lv_at hl 1 rfl) ?_
        refine pwG_0_0 X hK hP mF_X5_12 dX5_beginSting_44 ?_
        refine pwG_1_1 X hK hP mF_X5_252 dX5_beginSting_47 ?_
        refine lv_aload_n hx hb dX5_beginSting_50 rfl (lv_at hl 1 rfl) ?_
        refine pwG_0_1 X hK hP mF_X5_19 dX5_beginSting_51 ?_
        refine pwG_12_2 X hK hP mF_X5_175 dX5_beginSting_54 ?_
        obtain ⟨hg, h⟩ := gd_elim h
        refine pwL_3 X hK hP hg dX5_beginSting_57 ?_
        refine lv_aload_n hx hb dX5_beginSting_58 rfl (lv_at hl 1 rfl) ?_
        refine pwG_0_1 X hK hP mF_X5_19 dX5_beginSting_59 ?_
        refine pwG_12_3 X hK hP mF_X5_184 dX5_beginSting_62 ?_
        refine lv_isub hx hb dX5_beginSting_65 ?_
        refine lv_aload_n hx hb dX5_beginSting_66 rfl (lv_at hl 1 rfl) ?_
        refine pwG_0_0 X hK hP mF_X5_12 dX5_beginSting_67 ?_
        refine pwG_1_1 X hK hP mF_X5_252 dX5_beginSting_70 ?_
        refine lv_iload_n hx hb dX5_beginSting_73 rfl (lv_at hl 0 rfl) ?_
        obtain ⟨hg, h⟩ := gd_elim h
        refine pwL_3 X hK hP hg dX5_beginSting_74 ?_
        refine lv_icmp_ge (tgt := 79) hx hb dX5_beginSting_75 (by decide) (fun hc => ?_) (fun hc => ?_)
        · replace h := ift hc h
          refine lv_aload_n hx hb dX5_beginSting_79 rfl (lv_at hl 1 rfl) ?_
          refine pwG_0_1 X hK hP mF_X5_19 dX5_beginSting_80 ?_
          obtain ⟨x1, hr0, h⟩ := bn1_elim h
          refine mp_callv (As := []) (rest := []) X (c_X3_shiftWaiting l D y a hr0) (mp_cw (k := 0) hts mM_X5_308 mI_X3_shiftWaiting mS_X3_shiftWaiting mN_X3 mC_X3_shiftWaiting rfl rfl (by decide +kernel) ⟨Nat.le_of_ble_eq_true rfl, Nat.le_of_ble_eq_true rfl⟩) hK hP hD hS hA 12 pwC_12 rfl rfl hl.1 rfl (Nat.le_of_ble_eq_true rfl) dX5_beginSting_83 ⟨Nat.zero_le _, Nat.zero_le _⟩ (fun H locs hP hD hS => ?_)
          refine lv_aload_n hx hb dX5_beginSting_86 rfl (lv_at hl 1 rfl) ?_
          refine pwG_0_1 X hK hP mF_X5_19 dX5_beginSting_87 ?_
          refine lv_iload_n hx hb dX5_beginSting_90 rfl (lv_at hl 0 rfl) ?_
          obtain ⟨x2, e1, h⟩ := letv_elim h
          refine pwP_12_11 X hK hP hD hS mF_X5_166 e1 dX5_beginSting_91 (fun H locs hP hD hS => ?_)
          refine lv_aload_n hx hb dX5_beginSting_94 rfl (lv_at hl 1 rfl) ?_
          refine pwG_0_1 X hK hP mF_X5_19 dX5_beginSting_95 ?_
          refine lv_aload_n hx hb dX5_beginSting_98 rfl (lv_at hl 1 rfl) ?_
          refine pwG_0_1 X hK hP mF_X5_19 dX5_beginSting_99 ?_
          refine pwG_12_1 X hK hP mF_X5_159 dX5_beginSting_102 ?_
          refine lv_aload_n hx hb dX5_beginSting_105 rfl (lv_at hl 1 rfl) ?_
          refine pwG_0_0 X hK hP mF_X5_12 dX5_beginSting_106 ?_
          refine lv_iload_n hx hb dX5_beginSting_109 rfl (lv_at hl 0 rfl) ?_
          obtain ⟨r3, hr0, h⟩ := bn1_elim h
          refine mp_call1 (As := [.int (rA x 15 (Int32.toNatClampNeg ((0 : Int32))))]) (rest := [.long (rL x2 385), .ref (a 12)]) X (c_X2_length l D y a hr0) (mp_cw (k := 1) hts mM_X5_311 mI_X2_length mS_X2_length mN_X2 mC_X2_length rfl rfl (by decide +kernel) ⟨Nat.le_of_ble_eq_true rfl, Nat.le_of_ble_eq_true rfl⟩) hK hP hD hS hA 1 pwC_1 rfl rfl hl.1 rfl (Nat.le_of_ble_eq_true rfl) dX5_beginSting_110 ⟨Nat.zero_le _, Nat.zero_le _⟩ (fun H locs hP hD hS => ?_)
          refine lv_ladd hx hb dX5_beginSting_113 ?_
          obtain ⟨x4, e1, h⟩ := letv_elim h
          refine pwP_12_12 X hK hP hD hS mF_X5_169 e1 dX5_beginSting_114 (fun H locs hP hD hS => ?_)
          refine lv_aload_n hx hb dX5_beginSting_117 rfl (lv_at hl 1 rfl) ?_
          refine pwG_0_3 X hK hP mF_X5_32 dX5_beginSting_118 ?_
          refine lv_iconst (v := 5) hx hb dX5_beginSting_121 (by decide) ?_
          refine lv_iload_n hx hb dX5_beginSting_122 rfl (lv_at hl 0 rfl) ?_
          obtain ⟨x5, hr0, h⟩ := bn1_elim h
          refine mp_callv (As := [.int ((5 : Int32)), .int (rA x 15 (Int32.toNatClampNeg ((0 : Int32))))]) (rest := []) X (c_X0_add l D y a hr0) (mp_cw (k := 2) hts mM_X5_82 mI_X0_add mS_X0_add mN_X0 mC_X0_add rfl rfl (by decide +kernel) ⟨Nat.le_of_ble_eq_true rfl, Nat.le_of_ble_eq_true rfl⟩) hK hP hD hS hA 33 pwC_33 rfl rfl hl.1 rfl (Nat.le_of_ble_eq_true rfl) dX5_beginSting_123 ⟨Nat.zero_le _, Nat.zero_le _⟩ (fun H locs hP hD hS => ?_)
          cases h
          exact mpr_v X hK hP hD hS dX5_beginSting_126
        · replace h := iff_ hc h
          cases h
          exact mpr_v X hK hP hD hS dX5_beginSting_78
      · replace h := ift hc h
        cases h
        exact mpr_v X hK hP hD hS dX5_beginSting_32
def f_X2_cheapestAtEnd_b42 (x : PD) (k4 : Int32 → Int32 → Int32 → Option (Int32)) (v1 : Int32) (v2 : Int32) (v3 : Int32) (t0 : Int32) : Option (Int32) :=
  if t0 = 0 then
  ((k4 v1 v2 (v3 + 1)))
  else
  if v2 = ((-1 : Int32)) then
  ((k4 v1 v3 (v3 + 1)))
  else
  gd (inR v3 100) (gd (inR v2 100) (if (rA x 10 (Int32.toNatClampNeg v2)) ≤ (rA x 10 (Int32.toNatClampNeg v3)) then
  ((k4 v1 v2 (v3 + 1)))
  else
  (k4 v1 v3 (v3 + 1))))
set_option maxHeartbeats 4000000 in
set_option maxRecDepth 100000 in
theorem w_X2_cheapestAtEnd_b42 {p : Program} {l : Launch} {e : Env} {s : State} {m : MethodId} {args : Array Value} {below : List Frame} {meth : Method} {c : Code} {D : va_G} {y : CY} {a : Nat → Nat} {A : Nat → Prop} {x : PD} {r : Int32} {k4 : Int32 → Int32 → Int32 → Option (Int32)} (X : mpX p s m args meth c cX2_cheapestAtEnd 5 (some .int) RX2) (hK : va_K D vwCl (mpT y) s) (hA : ∀ q, s.heap.size ≤ q → A q) (hk4 : ∀ (v1 : Int32) (v2 : Int32) (v3 : Int32) (H : Heap) (locs : List Loc) (ls : Array Slot), va_P D vwCl (pw y a x) H → va_D A (pw y a x) → va_S A s.heap H locs → lv_has ls 5 [(0, .ref (a 1)), (1, .int v1), (2, .int v2), (3, .int v3)] → k4 v1 v2 v3 = some r → W p l e { frames := 0, cells := 0, slots := 0, locals := 0 } s m args below meth c H locs 0 0 (MQ below (mpC D y A (pw y a x) (some (.int r))) args s 0 0 A) (F0 m 4 ls [])) : ∀ (v1 : Int32) (v2 : Int32) (v3 : Int32) (t0 : Int32) (H : Heap) (locs : List Loc) (ls : Array Slot), va_P D vwCl (pw y a x) H → va_D A (pw y a x) → va_S A s.heap H locs → lv_has ls 5 [(0, .ref (a 1)), (1, .int v1), (2, .int v2), (3, .int v3)] → f_X2_cheapestAtEnd_b42 x k4 v1 v2 v3 t0 = some r → W p l e { frames := 0, cells := 0, slots := 0, locals := 0 } s m args below meth c H locs 0 0 (MQ below (mpC D y A (pw y a x) (some (.int r))) args s 0 0 A) (F0 m 42 ls [.int t0]) := by
  obtain ⟨⟨hx, hb, hml, hown, hts⟩, hr, hlk⟩ := id X
  intro v1 v2 v3 t0 H locs ls hP hD hS hl h
  unfold f_X2_cheapestAtEnd_b42 at h
  refine lv_istore (lv' := [(4, .int t0), (0, .ref (a 1)), (1, .int v1), (2, .int v2), (3, .int v3)]) hx hb dX2_cheapestAtEnd_42 hl (by decide) rfl (fun ls hl => ?_)
  refine lv_iload hx hb dX2_cheapestAtEnd_44 (lv_at hl 0 rfl) ?_
  refine lv_if_eq (tgt := 71) hx hb dX2_cheapestAtEnd_46 (by decide) (fun hc => ?_) (fun hc => ?_)
  · replace h := ift hc h
    refine lv_iinc (v := v3 + 1) (lv' := [(3, .int (v3 + 1)), (4, .int t0), (0, .ref (a 1)), (1, .int v1), (2, .int v2)]) hx hb dX2_cheapestAtEnd_71 hl (k := 4) rfl rfl (by decide) rfl (fun ls hl => ?_)
    refine lv_goto (tgt := 4) hx hb dX2_cheapestAtEnd_74 (by decide) ?_
    exact hk4 v1 v2 (v3 + 1) _ _ _ hP hD hS (lv_sub hl [2, 3, 4, 0] rfl) h
  · replace h := iff_ hc h
    refine lv_iload_n hx hb dX2_cheapestAtEnd_49 rfl (lv_at hl 3 rfl) ?_
    refine lv_iconst (v := -1) hx hb dX2_cheapestAtEnd_50 (by decide) ?_
    refine lv_icmp_eq (tgt := 69) hx hb dX2_cheapestAtEnd_51 (by decide) (fun hc => ?_) (fun hc => ?_)
    · replace h := ift hc h
      refine lv_iload_n hx hb dX2_cheapestAtEnd_69 rfl (lv_at hl 4 rfl) ?_
      refine lv_istore_n (lv' := [(2, .int v3), (4, .int t0), (0, .ref (a 1)), (1, .int v1), (3, .int v3)]) hx hb dX2_cheapestAtEnd_70 rfl hl (by decide) rfl (fun ls hl => ?_)
      refine lv_iinc (v := v3 + 1) (lv' := [(3, .int (v3 + 1)), (2, .int v3), (4, .int t0), (0, .ref (a 1)), (1, .int v1)]) hx hb dX2_cheapestAtEnd_71 hl (k := 4) rfl rfl (by decide) rfl (fun ls hl => ?_)
      refine lv_goto (tgt := 4) hx hb dX2_cheapestAtEnd_74 (by decide) ?_
      exact hk4 v1 v3 (v3 + 1) _ _ _ hP hD hS (lv_sub hl [3, 4, 1, 0] rfl) h
    · replace h := iff_ hc h
      refine lv_aload_n hx hb dX2_cheapestAtEnd_54 rfl (lv_at hl 1 rfl) ?_
      refine pwG_1_9 X hK hP mF_X2_36 dX2_cheapestAtEnd_55 ?_
      refine lv_iload_n hx hb dX2_cheapestAtEnd_58 rfl (lv_at hl 4 rfl) ?_
      obtain ⟨hg, h⟩ := gd_elim h
      refine pwL_10 X hK hP hg dX2_cheapestAtEnd_59 ?_
      refine lv_aload_n hx hb dX2_cheapestAtEnd_60 rfl (lv_at hl 1 rfl) ?_
      refine pwG_1_9 X hK hP mF_X2_36 dX2_cheapestAtEnd_61 ?_
      refine lv_iload_n hx hb dX2_cheapestAtEnd_64 rfl (lv_at hl 3 rfl) ?_
      obtain ⟨hg, h⟩ := gd_elim h
      refine pwL_10 X hK hP hg dX2_cheapestAtEnd_65 ?_
      refine lv_icmp_ge (tgt := 71) hx hb dX2_cheapestAtEnd_66 (by decide) (fun hc => ?_) (fun hc => ?_)
      · replace h := ift hc h
        refine lv_iinc (v := v3 + 1) (lv' := [(3, .int (v3 + 1)), (4, .int t0), (0, .ref (a 1)), (1, .int v1), (2, .int v2)]) hx hb dX2_cheapestAtEnd_71 hl (k := 4) rfl rfl (by decide) rfl (fun ls hl => ?_)
        refine lv_goto (tgt := 4) hx hb dX2_cheapestAtEnd_74 (by decide) ?_
        exact hk4 v1 v2 (v3 + 1) _ _ _ hP hD hS (lv_sub hl [2, 3, 4, 0] rfl) h
      · replace h := iff_ hc h
        refine lv_iload_n hx hb dX2_cheapestAtEnd_69 rfl (lv_at hl 4 rfl) ?_
        refine lv_istore_n (lv' := [(2, .int v3), (4, .int t0), (0, .ref (a 1)), (1, .int v1), (3, .int v3)]) hx hb dX2_cheapestAtEnd_70 rfl hl (by decide) rfl (fun ls hl => ?_)
        refine lv_iinc (v := v3 + 1) (lv' := [(3, .int (v3 + 1)), (2, .int v3), (4, .int t0), (0, .ref (a 1)), (1, .int v1)]) hx hb dX2_cheapestAtEnd_71 hl (k := 4) rfl rfl (by decide) rfl (fun ls hl => ?_)
        refine lv_goto (tgt := 4) hx hb dX2_cheapestAtEnd_74 (by decide) ?_
        exact hk4 v1 v3 (v3 + 1) _ _ _ hP hD hS (lv_sub hl [3, 4, 1, 0] rfl) h
def f_X2_cheapestAtEnd_b4 (x : PD) : Nat → Int32 → Int32 → Int32 → Option (Int32)
  | 0, _, _, _ => none
  | n + 1, v1, v2, v3 =>
    if (rI x 42) ≤ v3 then
  (some v2)
  else
  gd (inR v3 100) (if (rA x 7 (Int32.toNatClampNeg v3)) = v1 then
  gd (inR v3 100) (gd (inR v1 20) (if (rA x 8 (Int32.toNatClampNeg v3)) = (rA x 3 (Int32.toNatClampNeg v1)) then
  (f_X2_cheapestAtEnd_b42 x (f_X2_cheapestAtEnd_b4 x n) v1 v2 v3 ((1 : Int32)))
  else
  (f_X2_cheapestAtEnd_b42 x (f_X2_cheapestAtEnd_b4 x n) v1 v2 v3 ((0 : Int32)))))
  else
  (f_X2_cheapestAtEnd_b42 x (f_X2_cheapestAtEnd_b4 x n) v1 v2 v3 ((0 : Int32))))
set_option maxHeartbeats 4000000 in
set_option maxRecDepth 100000 in
theorem w_X2_cheapestAtEnd_b4 {p : Program} {l : Launch} {e : Env} {s : State} {m : MethodId} {args : Array Value} {below : List Frame} {meth : Method} {c : Code} {D : va_G} {y : CY} {a : Nat → Nat} {A : Nat → Prop} {x : PD} {r : Int32} (X : mpX p s m args meth c cX2_cheapestAtEnd 5 (some .int) RX2) (hK : va_K D vwCl (mpT y) s) (hA : ∀ q, s.heap.size ≤ q → A q) : ∀ (n : Nat), ∀ (v1 : Int32) (v2 : Int32) (v3 : Int32) (H : Heap) (locs : List Loc) (ls : Array Slot), va_P D vwCl (pw y a x) H → va_D A (pw y a x) → va_S A s.heap H locs → lv_has ls 5 [(0, .ref (a 1)), (1, .int v1), (2, .int v2), (3, .int v3)] → f_X2_cheapestAtEnd_b4 x n v1 v2 v3 = some r → W p l e { frames := 0, cells := 0, slots := 0, locals := 0 } s m args below meth c H locs 0 0 (MQ below (mpC D y A (pw y a x) (some (.int r))) args s 0 0 A) (F0 m 4 ls []) := by
  obtain ⟨⟨hx, hb, hml, hown, hts⟩, hr, hlk⟩ := id X
  intro n
  induction n with
  | zero =>
    intro v1 v2 v3 H locs ls hP hD hS hl h
    rw [f_X2_cheapestAtEnd_b4] at h
    exact nons h
  | succ n ih =>
    intro v1 v2 v3 H locs ls hP hD hS hl h
    rw [f_X2_cheapestAtEnd_b4] at h
    refine lv_iload_n hx hb dX2_cheapestAtEnd_4 rfl (lv_at hl 3 rfl) ?_
    refine lv_aload_n hx hb dX2_cheapestAtEnd_5 rfl (lv_at hl 0 rfl) ?_
    refine pwG_1_10 X hK hP mF_X2_50 dX2_cheapestAtEnd_6 ?_
    refine lv_icmp_ge (tgt := 77) hx hb dX2_cheapestAtEnd_9 (by decide) (fun hc => ?_) (fun hc => ?_)
    · replace h := ift hc h
      refine lv_iload_n hx hb dX2_cheapestAtEnd_77 rfl (lv_at hl 2 rfl) ?_
      cases h
      exact mpr_i X hK hP hD hS rfl dX2_cheapestAtEnd_78
    · replace h := iff_ hc h
      refine lv_aload_n hx hb dX2_cheapestAtEnd_12 rfl (lv_at hl 0 rfl) ?_
      refine pwG_1_6 X hK hP mF_X2_27 dX2_cheapestAtEnd_13 ?_
      refine lv_iload_n hx hb dX2_cheapestAtEnd_16 rfl (lv_at hl 3 rfl) ?_
      obtain ⟨hg, h⟩ := gd_elim h
      refine pwL_7 X hK hP hg dX2_cheapestAtEnd_17 ?_
      refine lv_iload_n hx hb dX2_cheapestAtEnd_18 rfl (lv_at hl 1 rfl) ?_
      refine lv_icmp_ne (tgt := 41) hx hb dX2_cheapestAtEnd_19 (by decide) (fun hc => ?_) (fun hc => ?_)
      · replace h := iff_ hc h
        refine lv_iconst (v := 0) hx hb dX2_cheapestAtEnd_41 (by decide) ?_
        exact w_X2_cheapestAtEnd_b42 X hK hA ih v1 v2 v3 ((0 : Int32)) _ _ _ hP hD hS (lv_sub hl [0, 1, 2, 3] rfl) h
      · replace h := ift hc h
        refine lv_aload_n hx hb dX2_cheapestAtEnd_22 rfl (lv_at hl 0 rfl) ?_
        refine pwG_1_7 X hK hP mF_X2_30 dX2_cheapestAtEnd_23 ?_
        refine lv_iload_n hx hb dX2_cheapestAtEnd_26 rfl (lv_at hl 3 rfl) ?_
        obtain ⟨hg, h⟩ := gd_elim h
        refine pwL_8 X hK hP hg dX2_cheapestAtEnd_27 ?_
        refine lv_aload_n hx hb dX2_cheapestAtEnd_28 rfl (lv_at hl 0 rfl) ?_
        refine pwG_1_1 X hK hP mF_X2_15 dX2_cheapestAtEnd_29 ?_
        refine lv_iload_n hx hb dX2_cheapestAtEnd_32 rfl (lv_at hl 1 rfl) ?_
        obtain ⟨hg, h⟩ := gd_elim h
        refine pwL_3 X hK hP hg dX2_cheapestAtEnd_33 ?_
        refine lv_icmp_ne (tgt := 41) hx hb dX2_cheapestAtEnd_34 (by decide) (fun hc => ?_) (fun hc => ?_)
        · replace h := iff_ hc h
          refine lv_iconst (v := 0) hx hb dX2_cheapestAtEnd_41 (by decide) ?_
          exact w_X2_cheapestAtEnd_b42 X hK hA ih v1 v2 v3 ((0 : Int32)) _ _ _ hP hD hS (lv_sub hl [0, 1, 2, 3] rfl) h
        · replace h := ift hc h
          refine lv_iconst (v := 1) hx hb dX2_cheapestAtEnd_37 (by decide) ?_
          refine lv_goto (tgt := 42) hx hb dX2_cheapestAtEnd_38 (by decide) ?_
          exact w_X2_cheapestAtEnd_b42 X hK hA ih v1 v2 v3 ((1 : Int32)) _ _ _ hP hD hS (lv_sub hl [0, 1, 2, 3] rfl) h
def f_X2_cheapestAtEnd (x : PD) (p1 : Int32) : Option (Int32) :=
  (f_X2_cheapestAtEnd_b4 x FU p1 ((-1 : Int32)) ((0 : Int32)))
set_option maxHeartbeats 4000000 in
set_option maxRecDepth 100000 in
theorem c_X2_cheapestAtEnd (l : Launch) (D : va_G) (y : CY) (a : Nat → Nat) {x : PD} {r : Int32} {p1 : Int32} (h : f_X2_cheapestAtEnd x p1 = some r) : mpM l D y yX2_cheapestAtEnd cX2_cheapestAtEnd 5 (some .int) { frames := 0, cells := 0, slots := 0, locals := 0 } (pw y a x) (pw y a x) [.ref (a 1), .int p1] (some (.int r)) := by
  refine mpM.mk (own := RX2) (by decide) rfl (Nat.le_of_ble_eq_true rfl) ?_
  intro p e s m below meth c A ls X hK hA hP hD hl
  have hS : va_S A s.heap s.heap [] := va_S.rf
  obtain ⟨⟨hx, hb, hml, hown, hts⟩, hr, hlk⟩ := id X
  have hl : lv_has ls 5 [(0, .ref (a 1)), (1, .int p1)] := hl
  unfold f_X2_cheapestAtEnd at h
  refine lv_iconst (v := -1) hx hb dX2_cheapestAtEnd_0 (by decide) ?_
  refine lv_istore_n (lv' := [(2, .int ((-1 : Int32))), (0, .ref (a 1)), (1, .int p1)]) hx hb dX2_cheapestAtEnd_1 rfl hl (by decide) rfl (fun ls hl => ?_)
  refine lv_iconst (v := 0) hx hb dX2_cheapestAtEnd_2 (by decide) ?_
  refine lv_istore_n (lv' := [(3, .int ((0 : Int32))), (2, .int ((-1 : Int32))), (0, .ref (a 1)), (1, .int p1)]) hx hb dX2_cheapestAtEnd_3 rfl hl (by decide) rfl (fun ls hl => ?_)
  exact w_X2_cheapestAtEnd_b4 X hK hA FU p1 ((-1 : Int32)) ((0 : Int32)) _ _ _ hP hD hS (lv_sub hl [2, 3, 1, 0] rfl) h
def f_X5_stepAtEnd_b46 (x : PD) (v1 : Int32) (v2 : Int32) (t0 : Int32) : Option (Int32) :=
  gd (inR v1 20) (if (rA x 2 (Int32.toNatClampNeg v1)) = 0 then
  (if t0 = 0 then
  (some v2)
  else
  some ((100 : Int32)))
  else
  some v2)
set_option maxHeartbeats 4000000 in
set_option maxRecDepth 100000 in
theorem w_X5_stepAtEnd_b46 {p : Program} {l : Launch} {e : Env} {s : State} {m : MethodId} {args : Array Value} {below : List Frame} {meth : Method} {c : Code} {D : va_G} {y : CY} {a : Nat → Nat} {A : Nat → Prop} {x : PD} {r : Int32} (X : mpX p s m args meth c cX5_stepAtEnd 4 (some .int) RX5) (hK : va_K D vwCl (mpT y) s) (hA : ∀ q, s.heap.size ≤ q → A q) : ∀ (v1 : Int32) (v2 : Int32) (t0 : Int32) (H : Heap) (locs : List Loc) (ls : Array Slot), va_P D vwCl (pw y a x) H → va_D A (pw y a x) → va_S A s.heap H locs → lv_has ls 4 [(0, .ref (a 0)), (1, .int v1), (2, .int v2)] → f_X5_stepAtEnd_b46 x v1 v2 t0 = some r → W p l e { frames := 1, cells := 0, slots := 0, locals := 24 } s m args below meth c H locs 0 0 (MQ below (mpC D y A (pw y a x) (some (.int r))) args s 0 0 A) (F0 m 46 ls [.int t0]) := by
  obtain ⟨⟨hx, hb, hml, hown, hts⟩, hr, hlk⟩ := id X
  intro v1 v2 t0 H locs ls hP hD hS hl h
  unfold f_X5_stepAtEnd_b46 at h
  refine lv_istore_n (lv' := [(3, .int t0), (0, .ref (a 0)), (1, .int v1), (2, .int v2)]) hx hb dX5_stepAtEnd_46 rfl hl (by decide) rfl (fun ls hl => ?_)
  refine lv_aload_n hx hb dX5_stepAtEnd_47 rfl (lv_at hl 1 rfl) ?_
  refine pwG_0_0 X hK hP mF_X5_12 dX5_stepAtEnd_48 ?_
  refine pwG_1_0 X hK hP mF_X5_145 dX5_stepAtEnd_51 ?_
  refine lv_iload_n hx hb dX5_stepAtEnd_54 rfl (lv_at hl 2 rfl) ?_
  obtain ⟨hg, h⟩ := gd_elim h
  refine pwL_2 X hK hP hg dX5_stepAtEnd_55 ?_
  refine lv_if_ne (tgt := 68) hx hb dX5_stepAtEnd_56 (by decide) (fun hc => ?_) (fun hc => ?_)
  · replace h := iff_ hc h
    refine lv_iload_n hx hb dX5_stepAtEnd_68 rfl (lv_at hl 3 rfl) ?_
    cases h
    exact mpr_i X hK hP hD hS rfl dX5_stepAtEnd_69
  · replace h := ift hc h
    refine lv_iload_n hx hb dX5_stepAtEnd_59 rfl (lv_at hl 0 rfl) ?_
    refine lv_if_eq (tgt := 68) hx hb dX5_stepAtEnd_60 (by decide) (fun hc => ?_) (fun hc => ?_)
    · replace h := ift hc h
      refine lv_iload_n hx hb dX5_stepAtEnd_68 rfl (lv_at hl 3 rfl) ?_
      cases h
      exact mpr_i X hK hP hD hS rfl dX5_stepAtEnd_69
    · replace h := iff_ hc h
      refine lv_bipush (v := 100) hx hb dX5_stepAtEnd_63 (by decide) ?_
      refine lv_goto (tgt := 69) hx hb dX5_stepAtEnd_65 (by decide) ?_
      cases h
      exact mpr_i X hK hP hD hS rfl dX5_stepAtEnd_69
def f_X5_stepAtEnd (x : PD) : Option (Int32) :=
  bn1 (f_X2_cheapestAtEnd x (rI x 386)) fun r1 =>
  gd (inR (rI x 386) 20) (if (rI x 388) < (rA x 6 (Int32.toNatClampNeg (rI x 386))) then
  ((f_X5_stepAtEnd_b46 x (rI x 386) r1 ((1 : Int32))))
  else
  if r1 = ((-1 : Int32)) then
  (f_X5_stepAtEnd_b46 x (rI x 386) r1 ((1 : Int32)))
  else
  (f_X5_stepAtEnd_b46 x (rI x 386) r1 ((0 : Int32))))
set_option maxHeartbeats 4000000 in
set_option maxRecDepth 100000 in
theorem c_X5_stepAtEnd (l : Launch) (D : va_G) (y : CY) (a : Nat → Nat) {x : PD} {r : Int32} (h : f_X5_stepAtEnd x = some r) : mpM l D y yX5_stepAtEnd cX5_stepAtEnd 4 (some .int) { frames := 1, cells := 0, slots := 0, locals := 24 } (pw y a x) (pw y a x) [.ref (a 0)] (some (.int r)) := by
  refine mpM.mk (own := RX5) (by decide) rfl (Nat.le_of_ble_eq_true rfl) ?_
  intro p e s m below meth c A ls X hK hA hP hD hl
  have hS : va_S A s.heap s.heap [] := va_S.rf
  obtain ⟨⟨hx, hb, hml, hown, hts⟩, hr, hlk⟩ := id X
  have hl : lv_has ls 4 [(0, .ref (a 0))] := hl
  unfold f_X5_stepAtEnd at h
  refine lv_aload_n hx hb dX5_stepAtEnd_0 rfl (lv_at hl 0 rfl) ?_
  refine pwG_0_1 X hK hP mF_X5_19 dX5_stepAtEnd_1 ?_
  refine pwG_12_2 X hK hP mF_X5_175 dX5_stepAtEnd_4 ?_
  refine lv_istore_n (lv' := [(1, .int (rI x 386)), (0, .ref (a 0))]) hx hb dX5_stepAtEnd_7 rfl hl (by decide) rfl (fun ls hl => ?_)
  refine lv_aload_n hx hb dX5_stepAtEnd_8 rfl (lv_at hl 1 rfl) ?_
  refine pwG_0_0 X hK hP mF_X5_12 dX5_stepAtEnd_9 ?_
  refine lv_iload_n hx hb dX5_stepAtEnd_12 rfl (lv_at hl 0 rfl) ?_
  obtain ⟨r1, hr0, h⟩ := bn1_elim h
  refine mp_call1 (As := [.int (rI x 386)]) (rest := []) X (c_X2_cheapestAtEnd l D y a hr0) (mp_cw (k := 1) hts mM_X5_283 mI_X2_cheapestAtEnd mS_X2_cheapestAtEnd mN_X2 mC_X2_cheapestAtEnd rfl rfl (by decide +kernel) ⟨Nat.le_of_ble_eq_true rfl, Nat.le_of_ble_eq_true rfl⟩) hK hP hD hS hA 1 pwC_1 rfl rfl hl.1 rfl (Nat.le_of_ble_eq_true rfl) dX5_stepAtEnd_13 ⟨Nat.zero_le _, Nat.zero_le _⟩ (fun H locs hP hD hS => ?_)
  refine lv_istore_n (lv' := [(2, .int r1), (1, .int (rI x 386)), (0, .ref (a 0))]) hx hb dX5_stepAtEnd_16 rfl hl (by decide) rfl (fun ls hl => ?_)
  refine lv_aload_n hx hb dX5_stepAtEnd_17 rfl (lv_at hl 2 rfl) ?_
  refine pwG_0_1 X hK hP mF_X5_19 dX5_stepAtEnd_18 ?_
  refine pwG_12_4 X hK hP mF_X5_187 dX5_stepAtEnd_21 ?_
  refine lv_aload_n hx hb dX5_stepAtEnd_24 rfl (lv_at hl 2 rfl) ?_
  refine pwG_0_0 X hK hP mF_X5_12 dX5_stepAtEnd_25 ?_
  refine pwG_1_4 X hK hP mF_X5_286 dX5_stepAtEnd_28 ?_
  refine lv_iload_n hx hb dX5_stepAtEnd_31 rfl (lv_at hl 1 rfl) ?_
  obtain ⟨hg, h⟩ := gd_elim h
  refine pwL_6 X hK hP hg dX5_stepAtEnd_32 ?_
  refine lv_icmp_lt (tgt := 41) hx hb dX5_stepAtEnd_33 (by decide) (fun hc => ?_) (fun hc => ?_)
  · replace h := ift hc h
    refine lv_iconst (v := 1) hx hb dX5_stepAtEnd_41 (by decide) ?_
    refine lv_goto (tgt := 46) hx hb dX5_stepAtEnd_42 (by decide) ?_
    exact w_X5_stepAtEnd_b46 X hK hA (rI x 386) r1 ((1 : Int32)) _ _ _ hP hD hS (lv_sub hl [2, 1, 0] rfl) h
  · replace h := iff_ hc h
    refine lv_iload_n hx hb dX5_stepAtEnd_36 rfl (lv_at hl 0 rfl) ?_
    refine lv_iconst (v := -1) hx hb dX5_stepAtEnd_37 (by decide) ?_
    refine lv_icmp_ne (tgt := 45) hx hb dX5_stepAtEnd_38 (by decide) (fun hc => ?_) (fun hc => ?_)
    · replace h := iff_ hc h
      refine lv_iconst (v := 0) hx hb dX5_stepAtEnd_45 (by decide) ?_
      exact w_X5_stepAtEnd_b46 X hK hA (rI x 386) r1 ((0 : Int32)) _ _ _ hP hD hS (lv_sub hl [2, 1, 0] rfl) h
    · replace h := ift hc h
      refine lv_iconst (v := 1) hx hb dX5_stepAtEnd_41 (by decide) ?_
      refine lv_goto (tgt := 46) hx hb dX5_stepAtEnd_42 (by decide) ?_
      exact w_X5_stepAtEnd_b46 X hK hA (rI x 386) r1 ((1 : Int32)) _ _ _ hP hD hS (lv_sub hl [2, 1, 0] rfl) h
def f_X5_takeStep_b71 (x : PD) (t0 : Int32) (t1 : Int32) : Option (PD) :=
  bn1 (f_X5_begin x t1 t0) fun x2 =>
  some x2
set_option maxHeartbeats 4000000 in
set_option maxRecDepth 100000 in
theorem w_X5_takeStep_b71 {p : Program} {l : Launch} {e : Env} {s : State} {m : MethodId} {args : Array Value} {below : List Frame} {meth : Method} {c : Code} {D : va_G} {y : CY} {a : Nat → Nat} {A : Nat → Prop} {x' : PD} (X : mpX p s m args meth c cX5_takeStep 5 none RX5) (hK : va_K D vwCl (mpT y) s) (hA : ∀ q, s.heap.size ≤ q → A q) : ∀ (x : PD) (t0 : Int32) (t1 : Int32) (H : Heap) (locs : List Loc) (ls : Array Slot), va_P D vwCl (pw y a x) H → va_D A (pw y a x) → va_S A s.heap H locs → lv_has ls 5 [] → f_X5_takeStep_b71 x t0 t1 = some x' → W p l e { frames := 3, cells := 0, slots := 0, locals := 65 } s m args below meth c H locs 0 0 (MQ below (mpC D y A (pw y a x') none) args s 0 0 A) (F0 m 71 ls [.int t0, .int t1, .ref (a 0)]) := by
  obtain ⟨⟨hx, hb, hml, hown, hts⟩, hr, hlk⟩ := id X
  intro x t0 t1 H locs ls hP hD hS hl h
  unfold f_X5_takeStep_b71 at h
  obtain ⟨x2, hr0, h⟩ := bn1_elim h
  refine mp_callv (As := [.int t1, .int t0]) (rest := []) X (c_X5_begin l D y a hr0) (mp_cw (k := 2) hts mM_X5_86 mI_X5_begin mS_X5_begin mN_X5 mC_X5_begin rfl rfl (by decide +kernel) ⟨Nat.le_of_ble_eq_true rfl, Nat.le_of_ble_eq_true rfl⟩) hK hP hD hS hA 0 pwC_0 rfl rfl hl.1 rfl (Nat.le_of_ble_eq_true rfl) dX5_takeStep_71 ⟨Nat.zero_le _, Nat.zero_le _⟩ (fun H locs hP hD hS => ?_)
  cases h
  exact mpr_v X hK hP hD hS dX5_takeStep_74
def f_X5_takeStep_b49 (x : PD) (v3 : Int32) (v4 : Int32) : Option (PD) :=
  if v4 = v3 then
  (f_X5_takeStep_b71 x ((rI x 388) + ((1 : Int32))) v4)
  else
  (f_X5_takeStep_b71 x ((1 : Int32)) v4)
set_option maxHeartbeats 4000000 in
set_option maxRecDepth 100000 in
theorem w_X5_takeStep_b49 {p : Program} {l : Launch} {e : Env} {s : State} {m : MethodId} {args : Array Value} {below : List Frame} {meth : Method} {c : Code} {D : va_G} {y : CY} {a : Nat → Nat} {A : Nat → Prop} {x' : PD} (X : mpX p s m args meth c cX5_takeStep 5 none RX5) (hK : va_K D vwCl (mpT y) s) (hA : ∀ q, s.heap.size ≤ q → A q) : ∀ (x : PD) (v3 : Int32) (v4 : Int32) (H : Heap) (locs : List Loc) (ls : Array Slot), va_P D vwCl (pw y a x) H → va_D A (pw y a x) → va_S A s.heap H locs → lv_has ls 5 [(0, .ref (a 0)), (3, .int v3), (4, .int v4)] → f_X5_takeStep_b49 x v3 v4 = some x' → W p l e { frames := 3, cells := 0, slots := 0, locals := 65 } s m args below meth c H locs 0 0 (MQ below (mpC D y A (pw y a x') none) args s 0 0 A) (F0 m 49 ls []) := by
  obtain ⟨⟨hx, hb, hml, hown, hts⟩, hr, hlk⟩ := id X
  intro x v3 v4 H locs ls hP hD hS hl h
  unfold f_X5_takeStep_b49 at h
  refine lv_aload_n hx hb dX5_takeStep_49 rfl (lv_at hl 0 rfl) ?_
  refine lv_iload hx hb dX5_takeStep_50 (lv_at hl 2 rfl) ?_
  refine lv_iload hx hb dX5_takeStep_52 (lv_at hl 2 rfl) ?_
  refine lv_iload_n hx hb dX5_takeStep_54 rfl (lv_at hl 1 rfl) ?_
  refine lv_icmp_ne (tgt := 70) hx hb dX5_takeStep_55 (by decide) (fun hc => ?_) (fun hc => ?_)
  · replace h := iff_ hc h
    refine lv_iconst (v := 1) hx hb dX5_takeStep_70 (by decide) ?_
    exact w_X5_takeStep_b71 X hK hA x ((1 : Int32)) v4 _ _ _ hP hD hS (lv_sub hl [] rfl) h
  · replace h := ift hc h
    refine lv_aload_n hx hb dX5_takeStep_58 rfl (lv_at hl 0 rfl) ?_
    refine pwG_0_1 X hK hP mF_X5_19 dX5_takeStep_59 ?_
    refine pwG_12_4 X hK hP mF_X5_187 dX5_takeStep_62 ?_
    refine lv_iconst (v := 1) hx hb dX5_takeStep_65 (by decide) ?_
    refine lv_iadd hx hb dX5_takeStep_66 ?_
    refine lv_goto (tgt := 71) hx hb dX5_takeStep_67 (by decide) ?_
    exact w_X5_takeStep_b71 X hK hA x ((rI x 388) + ((1 : Int32))) v4 _ _ _ hP hD hS (lv_sub hl [] rfl) h
def f_X5_takeStep (x : PD) (p1 : Int32) (p2 : Int32) : Option (PD) :=
  if p1 = ((100 : Int32)) then
  bn1 (f_X0_add x ((3 : Int32)) (rI x 386)) fun x3 =>
  (f_X5_takeStep_b49 x3 (rI x 386) (rI x 386))
  else
  bn1 (f_X0_add x p2 p1) fun x1 =>
  gd (inR p1 100) ((f_X5_takeStep_b49 x1 (rI x 386) (rA x1 9 (Int32.toNatClampNeg p1))))
set_option maxHeartbeats 4000000 in
set_option maxRecDepth 100000 in
theorem c_X5_takeStep (l : Launch) (D : va_G) (y : CY) (a : Nat → Nat) {x : PD} {x' : PD} {p1 : Int32} {p2 : Int32} (h : f_X5_takeStep x p1 p2 = some x') : mpM l D y yX5_takeStep cX5_takeStep 5 none { frames := 3, cells := 0, slots := 0, locals := 65 } (pw y a x) (pw y a x') [.ref (a 0), .int p1, .int p2] none := by
  refine mpM.mk (own := RX5) (by decide) rfl (Nat.le_of_ble_eq_true rfl) ?_
  intro p e s m below meth c A ls X hK hA hP hD hl
  have hS : va_S A s.heap s.heap [] := va_S.rf
  obtain ⟨⟨hx, hb, hml, hown, hts⟩, hr, hlk⟩ := id X
  have hl : lv_has ls 5 [(0, .ref (a 0)), (1, .int p1), (2, .int p2)] := hl
  unfold f_X5_takeStep at h
  refine lv_aload_n hx hb dX5_takeStep_0 rfl (lv_at hl 0 rfl) ?_
  refine pwG_0_1 X hK hP mF_X5_19 dX5_takeStep_1 ?_
  refine pwG_12_2 X hK hP mF_X5_175 dX5_takeStep_4 ?_
  refine lv_istore_n (lv' := [(3, .int (rI x 386)), (0, .ref (a 0)), (1, .int p1), (2, .int p2)]) hx hb dX5_takeStep_7 rfl hl (by decide) rfl (fun ls hl => ?_)
  refine lv_iload_n hx hb dX5_takeStep_8 rfl (lv_at hl 0 rfl) ?_
  refine lv_istore (lv' := [(4, .int (rI x 386)), (3, .int (rI x 386)), (0, .ref (a 0)), (1, .int p1), (2, .int p2)]) hx hb dX5_takeStep_9 hl (by decide) rfl (fun ls hl => ?_)
  refine lv_iload_n hx hb dX5_takeStep_11 rfl (lv_at hl 3 rfl) ?_
  refine lv_bipush (v := 100) hx hb dX5_takeStep_12 (by decide) ?_
  refine lv_icmp_ne (tgt := 29) hx hb dX5_takeStep_14 (by decide) (fun hc => ?_) (fun hc => ?_)
  · replace h := iff_ hc h
    refine lv_aload_n hx hb dX5_takeStep_29 rfl (lv_at hl 2 rfl) ?_
    refine pwG_0_3 X hK hP mF_X5_32 dX5_takeStep_30 ?_
    refine lv_iload_n hx hb dX5_takeStep_33 rfl (lv_at hl 4 rfl) ?_
    refine lv_iload_n hx hb dX5_takeStep_34 rfl (lv_at hl 3 rfl) ?_
    obtain ⟨x1, hr0, h⟩ := bn1_elim h
    refine mp_callv (As := [.int p2, .int p1]) (rest := []) X (c_X0_add l D y a hr0) (mp_cw (k := 2) hts mM_X5_82 mI_X0_add mS_X0_add mN_X0 mC_X0_add rfl rfl (by decide +kernel) ⟨Nat.le_of_ble_eq_true rfl, Nat.le_of_ble_eq_true rfl⟩) hK hP hD hS hA 33 pwC_33 rfl rfl hl.1 rfl (Nat.le_of_ble_eq_true rfl) dX5_takeStep_35 ⟨Nat.zero_le _, Nat.zero_le _⟩ (fun H locs hP hD hS => ?_)
    refine lv_aload_n hx hb dX5_takeStep_38 rfl (lv_at hl 2 rfl) ?_
    refine pwG_0_0 X hK hP mF_X5_12 dX5_takeStep_39 ?_
    refine pwG_1_8 X hK hP mF_X5_289 dX5_takeStep_42 ?_
    refine lv_iload_n hx hb dX5_takeStep_45 rfl (lv_at hl 3 rfl) ?_
    obtain ⟨hg, h⟩ := gd_elim h
    refine pwL_9 X hK hP hg dX5_takeStep_46 ?_
    refine lv_istore (lv' := [(4, .int (rA x1 9 (Int32.toNatClampNeg p1))), (3, .int (rI x 386)), (0, .ref (a 0)), (1, .int p1), (2, .int p2)]) hx hb dX5_takeStep_47 hl (by decide) rfl (fun ls hl => ?_)
    exact w_X5_takeStep_b49 X hK hA x1 (rI x 386) (rA x1 9 (Int32.toNatClampNeg p1)) _ _ _ hP hD hS (lv_sub hl [2, 1, 0] rfl) h
  · replace h := ift hc h
    refine lv_aload_n hx hb dX5_takeStep_17 rfl (lv_at hl 2 rfl) ?_
    refine pwG_0_3 X hK hP mF_X5_32 dX5_takeStep_18 ?_
    refine lv_iconst (v := 3) hx hb dX5_takeStep_21 (by decide) ?_
    refine lv_iload_n hx hb dX5_takeStep_22 rfl (lv_at hl 1 rfl) ?_
    obtain ⟨x3, hr0, h⟩ := bn1_elim h
    refine mp_callv (As := [.int ((3 : Int32)), .int (rI x 386)]) (rest := []) X (c_X0_add l D y a hr0) (mp_cw (k := 2) hts mM_X5_82 mI_X0_add mS_X0_add mN_X0 mC_X0_add rfl rfl (by decide +kernel) ⟨Nat.le_of_ble_eq_true rfl, Nat.le_of_ble_eq_true rfl⟩) hK hP hD hS hA 33 pwC_33 rfl rfl hl.1 rfl (Nat.le_of_ble_eq_true rfl) dX5_takeStep_23 ⟨Nat.zero_le _, Nat.zero_le _⟩ (fun H locs hP hD hS => ?_)
    refine lv_goto (tgt := 49) hx hb dX5_takeStep_26 (by decide) ?_
    exact w_X5_takeStep_b49 X hK hA x3 (rI x 386) (rI x 386) _ _ _ hP hD hS (lv_sub hl [2, 1, 0] rfl) h
def f_X5_fallSilent (x : PD) : Option (PD) :=
  bn1 (f_X0_add x ((7 : Int32)) (rI x 386)) fun x1 =>
  letv (wI x1 386 ((-1 : Int32))) fun x2 =>
  letv (wI x2 388 ((0 : Int32))) fun x3 =>
  letv (wI x3 387 ((0 : Int32))) fun x4 =>
  some x4
set_option maxHeartbeats 4000000 in
set_option maxRecDepth 100000 in
theorem c_X5_fallSilent (l : Launch) (D : va_G) (y : CY) (a : Nat → Nat) {x : PD} {x' : PD} (h : f_X5_fallSilent x = some x') : mpM l D y yX5_fallSilent cX5_fallSilent 1 none { frames := 1, cells := 0, slots := 0, locals := 23 } (pw y a x) (pw y a x') [.ref (a 0)] none := by
  refine mpM.mk (own := RX5) (by decide) rfl (Nat.le_of_ble_eq_true rfl) ?_
  intro p e s m below meth c A ls X hK hA hP hD hl
  have hS : va_S A s.heap s.heap [] := va_S.rf
  obtain ⟨⟨hx, hb, hml, hown, hts⟩, hr, hlk⟩ := id X
  have hl : lv_has ls 1 [(0, .ref (a 0))] := hl
  unfold f_X5_fallSilent at h
  refine lv_aload_n hx hb dX5_fallSilent_0 rfl (lv_at hl 0 rfl) ?_
  refine pwG_0_3 X hK hP mF_X5_32 dX5_fallSilent_1 ?_
  refine lv_bipush (v := 7) hx hb dX5_fallSilent_4 (by decide) ?_
  refine lv_aload_n hx hb dX5_fallSilent_6 rfl (lv_at hl 0 rfl) ?_
  refine pwG_0_1 X hK hP mF_X5_19 dX5_fallSilent_7 ?_
  refine pwG_12_2 X hK hP mF_X5_175 dX5_fallSilent_10 ?_
  obtain ⟨x1, hr0, h⟩ := bn1_elim h
  refine mp_callv (As := [.int ((7 : Int32)), .int (rI x 386)]) (rest := []) X (c_X0_add l D y a hr0) (mp_cw (k := 2) hts mM_X5_82 mI_X0_add mS_X0_add mN_X0 mC_X0_add rfl rfl (by decide +kernel) ⟨Nat.le_of_ble_eq_true rfl, Nat.le_of_ble_eq_true rfl⟩) hK hP hD hS hA 33 pwC_33 rfl rfl hl.1 rfl (Nat.le_of_ble_eq_true rfl) dX5_fallSilent_13 ⟨Nat.zero_le _, Nat.zero_le _⟩ (fun H locs hP hD hS => ?_)
  refine lv_aload_n hx hb dX5_fallSilent_16 rfl (lv_at hl 0 rfl) ?_
  refine pwG_0_1 X hK hP mF_X5_19 dX5_fallSilent_17 ?_
  refine lv_iconst (v := -1) hx hb dX5_fallSilent_20 (by decide) ?_
  obtain ⟨x2, e1, h⟩ := letv_elim h
  refine pwP_12_2 X hK hP hD hS mF_X5_175 e1 dX5_fallSilent_21 (fun H locs hP hD hS => ?_)
  refine lv_aload_n hx hb dX5_fallSilent_24 rfl (lv_at hl 0 rfl) ?_
  refine pwG_0_1 X hK hP mF_X5_19 dX5_fallSilent_25 ?_
  refine lv_iconst (v := 0) hx hb dX5_fallSilent_28 (by decide) ?_
  obtain ⟨x3, e1, h⟩ := letv_elim h
  refine pwP_12_4 X hK hP hD hS mF_X5_187 e1 dX5_fallSilent_29 (fun H locs hP hD hS => ?_)
  refine lv_aload_n hx hb dX5_fallSilent_32 rfl (lv_at hl 0 rfl) ?_
  refine pwG_0_1 X hK hP mF_X5_19 dX5_fallSilent_33 ?_
  refine lv_iconst (v := 0) hx hb dX5_fallSilent_36 (by decide) ?_
  obtain ⟨x4, e1, h⟩ := letv_elim h
  refine pwP_12_3 X hK hP hD hS mF_X5_184 e1 dX5_fallSilent_37 (fun H locs hP hD hS => ?_)
  cases h
  exact mpr_v X hK hP hD hS dX5_fallSilent_40
def f_X5_endPiece_b23 (x : PD) : Option (PD) :=
  bn1 (f_X1_findWay x) fun x3 =>
  some x3
set_option maxHeartbeats 4000000 in
set_option maxRecDepth 100000 in
theorem w_X5_endPiece_b23 {p : Program} {l : Launch} {e : Env} {s : State} {m : MethodId} {args : Array Value} {below : List Frame} {meth : Method} {c : Code} {D : va_G} {y : CY} {a : Nat → Nat} {A : Nat → Prop} {x' : PD} (X : mpX p s m args meth c cX5_endPiece 2 none RX5) (hK : va_K D vwCl (mpT y) s) (hA : ∀ q, s.heap.size ≤ q → A q) : ∀ (x : PD) (H : Heap) (locs : List Loc) (ls : Array Slot), va_P D vwCl (pw y a x) H → va_D A (pw y a x) → va_S A s.heap H locs → lv_has ls 2 [(0, .ref (a 0))] → f_X5_endPiece_b23 x = some x' → W p l e { frames := 4, cells := 0, slots := 0, locals := 101 } s m args below meth c H locs 0 0 (MQ below (mpC D y A (pw y a x') none) args s 0 0 A) (F0 m 23 ls []) := by
  obtain ⟨⟨hx, hb, hml, hown, hts⟩, hr, hlk⟩ := id X
  intro x H locs ls hP hD hS hl h
  unfold f_X5_endPiece_b23 at h
  refine lv_aload_n hx hb dX5_endPiece_23 rfl (lv_at hl 0 rfl) ?_
  refine pwG_0_5 X hK hP mF_X5_48 dX5_endPiece_24 ?_
  obtain ⟨x3, hr0, h⟩ := bn1_elim h
  refine mp_callv (As := []) (rest := []) X (c_X1_findWay l D y a hr0) (mp_cw (k := 0) hts mM_X5_89 mI_X1_findWay mS_X1_findWay mN_X1 mC_X1_findWay rfl rfl (by decide +kernel) ⟨Nat.le_of_ble_eq_true rfl, Nat.le_of_ble_eq_true rfl⟩) hK hP hD hS hA 40 pwC_40 rfl rfl hl.1 rfl (Nat.le_of_ble_eq_true rfl) dX5_endPiece_27 ⟨Nat.zero_le _, Nat.zero_le _⟩ (fun H locs hP hD hS => ?_)
  cases h
  exact mpr_v X hK hP hD hS dX5_endPiece_30
def f_X5_endPiece (x : PD) : Option (PD) :=
  bn1 (f_X5_stepAtEnd x) fun r1 =>
  if r1 = ((-1 : Int32)) then
  bn1 (f_X5_fallSilent x) fun x4 =>
  (f_X5_endPiece_b23 x4)
  else
  bn1 (f_X5_takeStep x r1 ((2 : Int32))) fun x2 =>
  (f_X5_endPiece_b23 x2)
set_option maxHeartbeats 4000000 in
set_option maxRecDepth 100000 in
theorem c_X5_endPiece (l : Launch) (D : va_G) (y : CY) (a : Nat → Nat) {x : PD} {x' : PD} (h : f_X5_endPiece x = some x') : mpM l D y yX5_endPiece cX5_endPiece 2 none { frames := 4, cells := 0, slots := 0, locals := 101 } (pw y a x) (pw y a x') [.ref (a 0)] none := by
  refine mpM.mk (own := RX5) (by decide) rfl (Nat.le_of_ble_eq_true rfl) ?_
  intro p e s m below meth c A ls X hK hA hP hD hl
  have hS : va_S A s.heap s.heap [] := va_S.rf
  obtain ⟨⟨hx, hb, hml, hown, hts⟩, hr, hlk⟩ := id X
  have hl : lv_has ls 2 [(0, .ref (a 0))] := hl
  unfold f_X5_endPiece at h
  refine lv_aload_n hx hb dX5_endPiece_0 rfl (lv_at hl 0 rfl) ?_
  obtain ⟨r1, hr0, h⟩ := bn1_elim h
  refine mp_call1 (As := []) (rest := []) X (c_X5_stepAtEnd l D y a hr0) (mp_cw (k := 0) hts mM_X5_277 mI_X5_stepAtEnd mS_X5_stepAtEnd mN_X5 mC_X5_stepAtEnd rfl rfl (by decide +kernel) ⟨Nat.le_of_ble_eq_true rfl, Nat.le_of_ble_eq_true rfl⟩) hK hP hD hS hA 0 pwC_0 rfl rfl hl.1 rfl (Nat.le_of_ble_eq_true rfl) dX5_endPiece_1 ⟨Nat.zero_le _, Nat.zero_le _⟩ (fun H locs hP hD hS => ?_)
  refine lv_istore_n (lv' := [(1, .int r1), (0, .ref (a 0))]) hx hb dX5_endPiece_4 rfl hl (by decide) rfl (fun ls hl => ?_)
  refine lv_iload_n hx hb dX5_endPiece_5 rfl (lv_at hl 0 rfl) ?_
  refine lv_iconst (v := -1) hx hb dX5_endPiece_6 (by decide) ?_
  refine lv_icmp_ne (tgt := 17) hx hb dX5_endPiece_7 (by decide) (fun hc => ?_) (fun hc => ?_)
  · replace h := iff_ hc h
    refine lv_aload_n hx hb dX5_endPiece_17 rfl (lv_at hl 1 rfl) ?_
    refine lv_iload_n hx hb dX5_endPiece_18 rfl (lv_at hl 0 rfl) ?_
    refine lv_iconst (v := 2) hx hb dX5_endPiece_19 (by decide) ?_
    obtain ⟨x2, hr0, h⟩ := bn1_elim h
    refine mp_callv (As := [.int r1, .int ((2 : Int32))]) (rest := []) X (c_X5_takeStep l D y a hr0) (mp_cw (k := 2) hts mM_X5_262 mI_X5_takeStep mS_X5_takeStep mN_X5 mC_X5_takeStep rfl rfl (by decide +kernel) ⟨Nat.le_of_ble_eq_true rfl, Nat.le_of_ble_eq_true rfl⟩) hK hP hD hS hA 0 pwC_0 rfl rfl hl.1 rfl (Nat.le_of_ble_eq_true rfl) dX5_endPiece_20 ⟨Nat.zero_le _, Nat.zero_le _⟩ (fun H locs hP hD hS => ?_)
    exact w_X5_endPiece_b23 X hK hA x2 _ _ _ hP hD hS (lv_sub hl [1] rfl) h
  · replace h := ift hc h
    refine lv_aload_n hx hb dX5_endPiece_10 rfl (lv_at hl 1 rfl) ?_
    obtain ⟨x4, hr0, h⟩ := bn1_elim h
    refine mp_callv (As := []) (rest := []) X (c_X5_fallSilent l D y a hr0) (mp_cw (k := 0) hts mM_X5_280 mI_X5_fallSilent mS_X5_fallSilent mN_X5 mC_X5_fallSilent rfl rfl (by decide +kernel) ⟨Nat.le_of_ble_eq_true rfl, Nat.le_of_ble_eq_true rfl⟩) hK hP hD hS hA 0 pwC_0 rfl rfl hl.1 rfl (Nat.le_of_ble_eq_true rfl) dX5_endPiece_11 ⟨Nat.zero_le _, Nat.zero_le _⟩ (fun H locs hP hD hS => ?_)
    refine lv_goto (tgt := 23) hx hb dX5_endPiece_14 (by decide) ?_
    exact w_X5_endPiece_b23 X hK hA x4 _ _ _ hP hD hS (lv_sub hl [1] rfl) h
def f_X1_stepTaken (x : PD) : Option (PD) :=
  letv (wI x 1286 ((rI x 1286) + ((1 : Int32)))) fun x1 =>
  some x1
set_option maxHeartbeats 4000000 in
set_option maxRecDepth 100000 in
theorem c_X1_stepTaken (l : Launch) (D : va_G) (y : CY) (a : Nat → Nat) {x : PD} {x' : PD} (h : f_X1_stepTaken x = some x') : mpM l D y yX1_stepTaken cX1_stepTaken 1 none { frames := 0, cells := 0, slots := 0, locals := 0 } (pw y a x) (pw y a x') [.ref (a 40)] none := by
  refine mpM.mk (own := RX1) (by decide) rfl (Nat.le_of_ble_eq_true rfl) ?_
  intro p e s m below meth c A ls X hK hA hP hD hl
  have hS : va_S A s.heap s.heap [] := va_S.rf
  obtain ⟨⟨hx, hb, hml, hown, hts⟩, hr, hlk⟩ := id X
  have hl : lv_has ls 1 [(0, .ref (a 40))] := hl
  unfold f_X1_stepTaken at h
  refine lv_aload_n hx hb dX1_stepTaken_0 rfl (lv_at hl 0 rfl) ?_
  refine lv_dup hx hb dX1_stepTaken_1 rfl ?_
  refine pwG_40_6 X hK hP mF_X1_37 dX1_stepTaken_2 ?_
  refine lv_iconst (v := 1) hx hb dX1_stepTaken_5 (by decide) ?_
  refine lv_iadd hx hb dX1_stepTaken_6 ?_
  obtain ⟨x1, e1, h⟩ := letv_elim h
  refine pwP_40_6 X hK hP hD hS mF_X1_37 e1 dX1_stepTaken_7 (fun H locs hP hD hS => ?_)
  cases h
  exact mpr_v X hK hP hD hS dX1_stepTaken_10
def f_X5_endBeat_b100 (x : PD) : Option (PD) :=
  bn1 (f_X5_moveLayers x) fun x5 =>
  bn1 (f_X5_beginSting x5) fun x6 =>
  some x6
set_option maxHeartbeats 4000000 in
set_option maxRecDepth 100000 in
theorem w_X5_endBeat_b100 {p : Program} {l : Launch} {e : Env} {s : State} {m : MethodId} {args : Array Value} {below : List Frame} {meth : Method} {c : Code} {D : va_G} {y : CY} {a : Nat → Nat} {A : Nat → Prop} {x' : PD} (X : mpX p s m args meth c cX5_endBeat 3 none RX5) (hK : va_K D vwCl (mpT y) s) (hA : ∀ q, s.heap.size ≤ q → A q) : ∀ (x : PD) (H : Heap) (locs : List Loc) (ls : Array Slot), va_P D vwCl (pw y a x) H → va_D A (pw y a x) → va_S A s.heap H locs → lv_has ls 3 [(0, .ref (a 0))] → f_X5_endBeat_b100 x = some x' → W p l e { frames := 5, cells := 0, slots := 0, locals := 122 } s m args below meth c H locs 0 0 (MQ below (mpC D y A (pw y a x') none) args s 0 0 A) (F0 m 100 ls []) := by
  obtain ⟨⟨hx, hb, hml, hown, hts⟩, hr, hlk⟩ := id X
  intro x H locs ls hP hD hS hl h
  unfold f_X5_endBeat_b100 at h
  refine lv_aload_n hx hb dX5_endBeat_100 rfl (lv_at hl 0 rfl) ?_
  obtain ⟨x5, hr0, h⟩ := bn1_elim h
  refine mp_callv (As := []) (rest := []) X (c_X5_moveLayers l D y a hr0) (mp_cw (k := 0) hts mM_X5_268 mI_X5_moveLayers mS_X5_moveLayers mN_X5 mC_X5_moveLayers rfl rfl (by decide +kernel) ⟨Nat.le_of_ble_eq_true rfl, Nat.le_of_ble_eq_true rfl⟩) hK hP hD hS hA 0 pwC_0 rfl rfl hl.1 rfl (Nat.le_of_ble_eq_true rfl) dX5_endBeat_101 ⟨Nat.zero_le _, Nat.zero_le _⟩ (fun H locs hP hD hS => ?_)
  refine lv_aload_n hx hb dX5_endBeat_104 rfl (lv_at hl 0 rfl) ?_
  obtain ⟨x6, hr0, h⟩ := bn1_elim h
  refine mp_callv (As := []) (rest := []) X (c_X5_beginSting l D y a hr0) (mp_cw (k := 0) hts mM_X5_271 mI_X5_beginSting mS_X5_beginSting mN_X5 mC_X5_beginSting rfl rfl (by decide +kernel) ⟨Nat.le_of_ble_eq_true rfl, Nat.le_of_ble_eq_true rfl⟩) hK hP hD hS hA 0 pwC_0 rfl rfl hl.1 rfl (Nat.le_of_ble_eq_true rfl) dX5_endBeat_105 ⟨Nat.zero_le _, Nat.zero_le _⟩ (fun H locs hP hD hS => ?_)
  cases h
  exact mpr_v X hK hP hD hS dX5_endBeat_108
def f_X5_endBeat_b57 (x : PD) (t0 : Int32) : Option (PD) :=
  bn1 (f_X1_stepAt x ((0 : Int32))) fun r3 =>
  bn1 (f_X5_isDue x r3 t0) fun r4 =>
  if r4 = 0 then
  (if t0 = 0 then
  ((f_X5_endBeat_b100 x))
  else
  bn1 (f_X5_endPiece x) fun x7 =>
  (f_X5_endBeat_b100 x7))
  else
  bn1 (f_X1_stepTaken x) fun x8 =>
  bn1 (f_X5_takeStep x8 r3 ((1 : Int32))) fun x9 =>
  (f_X5_endBeat_b100 x9)
set_option maxHeartbeats 4000000 in
set_option maxRecDepth 100000 in
theorem w_X5_endBeat_b57 {p : Program} {l : Launch} {e : Env} {s : State} {m : MethodId} {args : Array Value} {below : List Frame} {meth : Method} {c : Code} {D : va_G} {y : CY} {a : Nat → Nat} {A : Nat → Prop} {x' : PD} (X : mpX p s m args meth c cX5_endBeat 3 none RX5) (hK : va_K D vwCl (mpT y) s) (hA : ∀ q, s.heap.size ≤ q → A q) : ∀ (x : PD) (t0 : Int32) (H : Heap) (locs : List Loc) (ls : Array Slot), va_P D vwCl (pw y a x) H → va_D A (pw y a x) → va_S A s.heap H locs → lv_has ls 3 [(0, .ref (a 0))] → f_X5_endBeat_b57 x t0 = some x' → W p l e { frames := 5, cells := 0, slots := 0, locals := 122 } s m args below meth c H locs 0 0 (MQ below (mpC D y A (pw y a x') none) args s 0 0 A) (F0 m 57 ls [.int t0]) := by
  obtain ⟨⟨hx, hb, hml, hown, hts⟩, hr, hlk⟩ := id X
  intro x t0 H locs ls hP hD hS hl h
  unfold f_X5_endBeat_b57 at h
  refine lv_istore_n (lv' := [(1, .int t0), (0, .ref (a 0))]) hx hb dX5_endBeat_57 rfl hl (by decide) rfl (fun ls hl => ?_)
  refine lv_aload_n hx hb dX5_endBeat_58 rfl (lv_at hl 1 rfl) ?_
  refine pwG_0_5 X hK hP mF_X5_48 dX5_endBeat_59 ?_
  refine lv_iconst (v := 0) hx hb dX5_endBeat_62 (by decide) ?_
  obtain ⟨r3, hr0, h⟩ := bn1_elim h
  refine mp_call1 (As := [.int ((0 : Int32))]) (rest := []) X (c_X1_stepAt l D y a hr0) (mp_cw (k := 1) hts mM_X5_118 mI_X1_stepAt mS_X1_stepAt mN_X1 mC_X1_stepAt rfl rfl (by decide +kernel) ⟨Nat.le_of_ble_eq_true rfl, Nat.le_of_ble_eq_true rfl⟩) hK hP hD hS hA 40 pwC_40 rfl rfl hl.1 rfl (Nat.le_of_ble_eq_true rfl) dX5_endBeat_63 ⟨Nat.zero_le _, Nat.zero_le _⟩ (fun H locs hP hD hS => ?_)
  refine lv_istore_n (lv' := [(2, .int r3), (1, .int t0), (0, .ref (a 0))]) hx hb dX5_endBeat_66 rfl hl (by decide) rfl (fun ls hl => ?_)
  refine lv_aload_n hx hb dX5_endBeat_67 rfl (lv_at hl 2 rfl) ?_
  refine lv_iload_n hx hb dX5_endBeat_68 rfl (lv_at hl 0 rfl) ?_
  refine lv_iload_n hx hb dX5_endBeat_69 rfl (lv_at hl 1 rfl) ?_
  obtain ⟨r4, hr0, h⟩ := bn1_elim h
  refine mp_call1 (As := [.int r3, .int t0]) (rest := []) X (c_X5_isDue l D y a hr0) (mp_cw (k := 2) hts mM_X5_255 mI_X5_isDue mS_X5_isDue mN_X5 mC_X5_isDue rfl rfl (by decide +kernel) ⟨Nat.le_of_ble_eq_true rfl, Nat.le_of_ble_eq_true rfl⟩) hK hP hD hS hA 0 pwC_0 rfl rfl hl.1 rfl (Nat.le_of_ble_eq_true rfl) dX5_endBeat_70 ⟨Nat.zero_le _, Nat.zero_le _⟩ (fun H locs hP hD hS => ?_)
  refine lv_if_eq (tgt := 92) hx hb dX5_endBeat_73 (by decide) (fun hc => ?_) (fun hc => ?_)
  · replace h := ift hc h
    refine lv_iload_n hx hb dX5_endBeat_92 rfl (lv_at hl 1 rfl) ?_
    refine lv_if_eq (tgt := 100) hx hb dX5_endBeat_93 (by decide) (fun hc => ?_) (fun hc => ?_)
    · replace h := ift hc h
      exact w_X5_endBeat_b100 X hK hA x _ _ _ hP hD hS (lv_sub hl [2] rfl) h
    · replace h := iff_ hc h
      refine lv_aload_n hx hb dX5_endBeat_96 rfl (lv_at hl 2 rfl) ?_
      obtain ⟨x7, hr0, h⟩ := bn1_elim h
      refine mp_callv (As := []) (rest := []) X (c_X5_endPiece l D y a hr0) (mp_cw (k := 0) hts mM_X5_265 mI_X5_endPiece mS_X5_endPiece mN_X5 mC_X5_endPiece rfl rfl (by decide +kernel) ⟨Nat.le_of_ble_eq_true rfl, Nat.le_of_ble_eq_true rfl⟩) hK hP hD hS hA 0 pwC_0 rfl rfl hl.1 rfl (Nat.le_of_ble_eq_true rfl) dX5_endBeat_97 ⟨Nat.zero_le _, Nat.zero_le _⟩ (fun H locs hP hD hS => ?_)
      exact w_X5_endBeat_b100 X hK hA x7 _ _ _ hP hD hS (lv_sub hl [2] rfl) h
  · replace h := iff_ hc h
    refine lv_aload_n hx hb dX5_endBeat_76 rfl (lv_at hl 2 rfl) ?_
    refine pwG_0_5 X hK hP mF_X5_48 dX5_endBeat_77 ?_
    obtain ⟨x8, hr0, h⟩ := bn1_elim h
    refine mp_callv (As := []) (rest := []) X (c_X1_stepTaken l D y a hr0) (mp_cw (k := 0) hts mM_X5_259 mI_X1_stepTaken mS_X1_stepTaken mN_X1 mC_X1_stepTaken rfl rfl (by decide +kernel) ⟨Nat.le_of_ble_eq_true rfl, Nat.le_of_ble_eq_true rfl⟩) hK hP hD hS hA 40 pwC_40 rfl rfl hl.1 rfl (Nat.le_of_ble_eq_true rfl) dX5_endBeat_80 ⟨Nat.zero_le _, Nat.zero_le _⟩ (fun H locs hP hD hS => ?_)
    refine lv_aload_n hx hb dX5_endBeat_83 rfl (lv_at hl 2 rfl) ?_
    refine lv_iload_n hx hb dX5_endBeat_84 rfl (lv_at hl 0 rfl) ?_
    refine lv_iconst (v := 1) hx hb dX5_endBeat_85 (by decide) ?_
    obtain ⟨x9, hr0, h⟩ := bn1_elim h
    refine mp_callv (As := [.int r3, .int ((1 : Int32))]) (rest := []) X (c_X5_takeStep l D y a hr0) (mp_cw (k := 2) hts mM_X5_262 mI_X5_takeStep mS_X5_takeStep mN_X5 mC_X5_takeStep rfl rfl (by decide +kernel) ⟨Nat.le_of_ble_eq_true rfl, Nat.le_of_ble_eq_true rfl⟩) hK hP hD hS hA 0 pwC_0 rfl rfl hl.1 rfl (Nat.le_of_ble_eq_true rfl) dX5_endBeat_86 ⟨Nat.zero_le _, Nat.zero_le _⟩ (fun H locs hP hD hS => ?_)
    refine lv_goto (tgt := 100) hx hb dX5_endBeat_89 (by decide) ?_
    exact w_X5_endBeat_b100 X hK hA x9 _ _ _ hP hD hS (lv_sub hl [2] rfl) h
def f_X5_endBeat (x : PD) : Option (PD) :=
  letv (wI x 387 ((rI x 387) + ((1 : Int32)))) fun x1 =>
  letv (wL x1 389 (rL x1 385)) fun x2 =>
  gd (inR (rI x2 386) 20) (if (rI x2 387) < (rA x2 3 (Int32.toNatClampNeg (rI x2 386))) then
  ((f_X5_endBeat_b57 x2 ((0 : Int32))))
  else
  (f_X5_endBeat_b57 x2 ((1 : Int32))))
set_option maxHeartbeats 4000000 in
set_option maxRecDepth 100000 in
theorem c_X5_endBeat (l : Launch) (D : va_G) (y : CY) (a : Nat → Nat) {x : PD} {x' : PD} (h : f_X5_endBeat x = some x') : mpM l D y yX5_endBeat cX5_endBeat 3 none { frames := 5, cells := 0, slots := 0, locals := 122 } (pw y a x) (pw y a x') [.ref (a 0)] none := by
  refine mpM.mk (own := RX5) (by decide) rfl (Nat.le_of_ble_eq_true rfl) ?_
  intro p e s m below meth c A ls X hK hA hP hD hl
  have hS : va_S A s.heap s.heap [] := va_S.rf
  obtain ⟨⟨hx, hb, hml, hown, hts⟩, hr, hlk⟩ := id X
  have hl : lv_has ls 3 [(0, .ref (a 0))] := hl
  unfold f_X5_endBeat at h
  refine lv_aload_n hx hb dX5_endBeat_0 rfl (lv_at hl 0 rfl) ?_
  refine pwG_0_1 X hK hP mF_X5_19 dX5_endBeat_1 ?_
  refine lv_dup hx hb dX5_endBeat_4 rfl ?_
  refine pwG_12_3 X hK hP mF_X5_184 dX5_endBeat_5 ?_
  refine lv_iconst (v := 1) hx hb dX5_endBeat_8 (by decide) ?_
  refine lv_iadd hx hb dX5_endBeat_9 ?_
  obtain ⟨x1, e1, h⟩ := letv_elim h
  refine pwP_12_3 X hK hP hD hS mF_X5_184 e1 dX5_endBeat_10 (fun H locs hP hD hS => ?_)
  refine lv_aload_n hx hb dX5_endBeat_13 rfl (lv_at hl 0 rfl) ?_
  refine pwG_0_1 X hK hP mF_X5_19 dX5_endBeat_14 ?_
  refine lv_aload_n hx hb dX5_endBeat_17 rfl (lv_at hl 0 rfl) ?_
  refine pwG_0_1 X hK hP mF_X5_19 dX5_endBeat_18 ?_
  refine pwG_12_1 X hK hP mF_X5_159 dX5_endBeat_21 ?_
  obtain ⟨x2, e1, h⟩ := letv_elim h
  refine pwP_12_5 X hK hP hD hS mF_X5_238 e1 dX5_endBeat_24 (fun H locs hP hD hS => ?_)
  refine lv_aload_n hx hb dX5_endBeat_27 rfl (lv_at hl 0 rfl) ?_
  refine pwG_0_1 X hK hP mF_X5_19 dX5_endBeat_28 ?_
  refine pwG_12_3 X hK hP mF_X5_184 dX5_endBeat_31 ?_
  refine lv_aload_n hx hb dX5_endBeat_34 rfl (lv_at hl 0 rfl) ?_
  refine pwG_0_0 X hK hP mF_X5_12 dX5_endBeat_35 ?_
  refine pwG_1_1 X hK hP mF_X5_252 dX5_endBeat_38 ?_
  refine lv_aload_n hx hb dX5_endBeat_41 rfl (lv_at hl 0 rfl) ?_
  refine pwG_0_1 X hK hP mF_X5_19 dX5_endBeat_42 ?_
  refine pwG_12_2 X hK hP mF_X5_175 dX5_endBeat_45 ?_
  obtain ⟨hg, h⟩ := gd_elim h
  refine pwL_3 X hK hP hg dX5_endBeat_48 ?_
  refine lv_icmp_lt (tgt := 56) hx hb dX5_endBeat_49 (by decide) (fun hc => ?_) (fun hc => ?_)
  · replace h := ift hc h
    refine lv_iconst (v := 0) hx hb dX5_endBeat_56 (by decide) ?_
    exact w_X5_endBeat_b57 X hK hA x2 ((0 : Int32)) _ _ _ hP hD hS (lv_sub hl [0] rfl) h
  · replace h := iff_ hc h
    refine lv_iconst (v := 1) hx hb dX5_endBeat_52 (by decide) ?_
    refine lv_goto (tgt := 57) hx hb dX5_endBeat_53 (by decide) ?_
    exact w_X5_endBeat_b57 X hK hA x2 ((1 : Int32)) _ _ _ hP hD hS (lv_sub hl [0] rfl) h
def f_X5_endSting (x : PD) : Option (PD) :=
  bn1 (f_X0_add x ((6 : Int32)) (rI x 395)) fun x1 =>
  letv (wI x1 395 ((-1 : Int32))) fun x2 =>
  some x2
set_option maxHeartbeats 4000000 in
set_option maxRecDepth 100000 in
theorem c_X5_endSting (l : Launch) (D : va_G) (y : CY) (a : Nat → Nat) {x : PD} {x' : PD} (h : f_X5_endSting x = some x') : mpM l D y yX5_endSting cX5_endSting 1 none { frames := 1, cells := 0, slots := 0, locals := 23 } (pw y a x) (pw y a x') [.ref (a 0)] none := by
  refine mpM.mk (own := RX5) (by decide) rfl (Nat.le_of_ble_eq_true rfl) ?_
  intro p e s m below meth c A ls X hK hA hP hD hl
  have hS : va_S A s.heap s.heap [] := va_S.rf
  obtain ⟨⟨hx, hb, hml, hown, hts⟩, hr, hlk⟩ := id X
  have hl : lv_has ls 1 [(0, .ref (a 0))] := hl
  unfold f_X5_endSting at h
  refine lv_aload_n hx hb dX5_endSting_0 rfl (lv_at hl 0 rfl) ?_
  refine pwG_0_3 X hK hP mF_X5_32 dX5_endSting_1 ?_
  refine lv_bipush (v := 6) hx hb dX5_endSting_4 (by decide) ?_
  refine lv_aload_n hx hb dX5_endSting_6 rfl (lv_at hl 0 rfl) ?_
  refine pwG_0_1 X hK hP mF_X5_19 dX5_endSting_7 ?_
  refine pwG_12_11 X hK hP mF_X5_166 dX5_endSting_10 ?_
  obtain ⟨x1, hr0, h⟩ := bn1_elim h
  refine mp_callv (As := [.int ((6 : Int32)), .int (rI x 395)]) (rest := []) X (c_X0_add l D y a hr0) (mp_cw (k := 2) hts mM_X5_82 mI_X0_add mS_X0_add mN_X0 mC_X0_add rfl rfl (by decide +kernel) ⟨Nat.le_of_ble_eq_true rfl, Nat.le_of_ble_eq_true rfl⟩) hK hP hD hS hA 33 pwC_33 rfl rfl hl.1 rfl (Nat.le_of_ble_eq_true rfl) dX5_endSting_13 ⟨Nat.zero_le _, Nat.zero_le _⟩ (fun H locs hP hD hS => ?_)
  refine lv_aload_n hx hb dX5_endSting_16 rfl (lv_at hl 0 rfl) ?_
  refine pwG_0_1 X hK hP mF_X5_19 dX5_endSting_17 ?_
  refine lv_iconst (v := -1) hx hb dX5_endSting_20 (by decide) ?_
  obtain ⟨x2, e1, h⟩ := letv_elim h
  refine pwP_12_11 X hK hP hD hS mF_X5_166 e1 dX5_endSting_21 (fun H locs hP hD hS => ?_)
  cases h
  exact mpr_v X hK hP hD hS dX5_endSting_24
def f_X5_go_b94 (k35 : PD → Int32 → Int64 → Int32 → Option (Int64 × PD)) (x : PD) (v1 : Int32) (v2 : Int64) (v4 : Int32) (v5 : Int64) : Option (Int64 × PD) :=
  if (rI x 386) = ((-1 : Int32)) then
  ((k35 x v1 v2 (v4 + 1)))
  else
  bn1 (f_X5_beatEnd x) fun r4 =>
  if (lg_cmp r4 v5) = 0 then
  bn1 (f_X5_endBeat x) fun x5 =>
  (k35 x5 v1 v2 (v4 + 1))
  else
  (k35 x v1 v2 (v4 + 1))
set_option maxHeartbeats 4000000 in
set_option maxRecDepth 100000 in
theorem w_X5_go_b94 {p : Program} {l : Launch} {e : Env} {s : State} {m : MethodId} {args : Array Value} {below : List Frame} {meth : Method} {c : Code} {D : va_G} {y : CY} {a : Nat → Nat} {A : Nat → Prop} {x' : PD} {r : Int64} {k35 : PD → Int32 → Int64 → Int32 → Option (Int64 × PD)} (X : mpX p s m args meth c cX5_go 7 (some .long) RX5) (hK : va_K D vwCl (mpT y) s) (hA : ∀ q, s.heap.size ≤ q → A q) (hk35 : ∀ (x : PD) (v1 : Int32) (v2 : Int64) (v4 : Int32) (H : Heap) (locs : List Loc) (ls : Array Slot), va_P D vwCl (pw y a x) H → va_D A (pw y a x) → va_S A s.heap H locs → lv_has ls 7 [(0, .ref (a 0)), (1, .int v1), (2, .long v2), (4, .int v4)] → k35 x v1 v2 v4 = some (r, x') → W p l e { frames := 6, cells := 0, slots := 0, locals := 144 } s m args below meth c H locs 0 0 (MQ below (mpC D y A (pw y a x') (some (.long r))) args s 0 0 A) (F0 m 35 ls [])) : ∀ (x : PD) (v1 : Int32) (v2 : Int64) (v4 : Int32) (v5 : Int64) (H : Heap) (locs : List Loc) (ls : Array Slot), va_P D vwCl (pw y a x) H → va_D A (pw y a x) → va_S A s.heap H locs → lv_has ls 7 [(0, .ref (a 0)), (1, .int v1), (2, .long v2), (4, .int v4), (5, .long v5)] → f_X5_go_b94 k35 x v1 v2 v4 v5 = some (r, x') → W p l e { frames := 6, cells := 0, slots := 0, locals := 144 } s m args below meth c H locs 0 0 (MQ below (mpC D y A (pw y a x') (some (.long r))) args s 0 0 A) (F0 m 94 ls []) := by
  obtain ⟨⟨hx, hb, hml, hown, hts⟩, hr, hlk⟩ := id X
  intro x v1 v2 v4 v5 H locs ls hP hD hS hl h
  unfold f_X5_go_b94 at h
  refine lv_aload_n hx hb dX5_go_94 rfl (lv_at hl 0 rfl) ?_
  refine pwG_0_1 X hK hP mF_X5_19 dX5_go_95 ?_
  refine pwG_12_2 X hK hP mF_X5_175 dX5_go_98 ?_
  refine lv_iconst (v := -1) hx hb dX5_go_101 (by decide) ?_
  refine lv_icmp_eq (tgt := 119) hx hb dX5_go_102 (by decide) (fun hc => ?_) (fun hc => ?_)
  · replace h := ift hc h
    refine lv_iinc (v := v4 + 1) (lv' := [(4, .int (v4 + 1)), (0, .ref (a 0)), (1, .int v1), (2, .long v2), (5, .long v5)]) hx hb dX5_go_119 hl (k := 3) rfl rfl (by decide) rfl (fun ls hl => ?_)
    refine lv_goto (tgt := 35) hx hb dX5_go_122 (by decide) ?_
    exact hk35 x v1 v2 (v4 + 1) _ _ _ hP hD hS (lv_sub hl [1, 2, 3, 0] rfl) h
  · replace h := iff_ hc h
    refine lv_aload_n hx hb dX5_go_105 rfl (lv_at hl 0 rfl) ?_
    obtain ⟨r4, hr0, h⟩ := bn1_elim h
    refine mp_call1 (As := []) (rest := []) X (c_X5_beatEnd l D y a hr0) (mp_cw (k := 0) hts mM_X5_178 mI_X5_beatEnd mS_X5_beatEnd mN_X5 mC_X5_beatEnd rfl rfl (by decide +kernel) ⟨Nat.le_of_ble_eq_true rfl, Nat.le_of_ble_eq_true rfl⟩) hK hP hD hS hA 0 pwC_0 rfl rfl hl.1 rfl (Nat.le_of_ble_eq_true rfl) dX5_go_106 ⟨Nat.zero_le _, Nat.zero_le _⟩ (fun H locs hP hD hS => ?_)
    refine lv_lload hx hb dX5_go_109 (lv_at hl 4 rfl) ?_
    refine W.lcmp hx hb dX5_go_111 ?_
    refine lv_if_ne (tgt := 119) hx hb dX5_go_112 (by decide) (fun hc => ?_) (fun hc => ?_)
    · replace h := iff_ hc h
      refine lv_iinc (v := v4 + 1) (lv' := [(4, .int (v4 + 1)), (0, .ref (a 0)), (1, .int v1), (2, .long v2), (5, .long v5)]) hx hb dX5_go_119 hl (k := 3) rfl rfl (by decide) rfl (fun ls hl => ?_)
      refine lv_goto (tgt := 35) hx hb dX5_go_122 (by decide) ?_
      exact hk35 x v1 v2 (v4 + 1) _ _ _ hP hD hS (lv_sub hl [1, 2, 3, 0] rfl) h
    · replace h := ift hc h
      refine lv_aload_n hx hb dX5_go_115 rfl (lv_at hl 0 rfl) ?_
      obtain ⟨x5, hr0, h⟩ := bn1_elim h
      refine mp_callv (As := []) (rest := []) X (c_X5_endBeat l D y a hr0) (mp_cw (k := 0) hts mM_X5_181 mI_X5_endBeat mS_X5_endBeat mN_X5 mC_X5_endBeat rfl rfl (by decide +kernel) ⟨Nat.le_of_ble_eq_true rfl, Nat.le_of_ble_eq_true rfl⟩) hK hP hD hS hA 0 pwC_0 rfl rfl hl.1 rfl (Nat.le_of_ble_eq_true rfl) dX5_go_116 ⟨Nat.zero_le _, Nat.zero_le _⟩ (fun H locs hP hD hS => ?_)
      refine lv_iinc (v := v4 + 1) (lv' := [(4, .int (v4 + 1)), (0, .ref (a 0)), (1, .int v1), (2, .long v2), (5, .long v5)]) hx hb dX5_go_119 hl (k := 3) rfl rfl (by decide) rfl (fun ls hl => ?_)
      refine lv_goto (tgt := 35) hx hb dX5_go_122 (by decide) ?_
      exact hk35 x5 v1 v2 (v4 + 1) _ _ _ hP hD hS (lv_sub hl [1, 2, 3, 0] rfl) h
def f_X5_go_b35 : Nat → PD → Int32 → Int64 → Int32 → Option (Int64 × PD)
  | 0, _, _, _, _ => none
  | n + 1, x, v1, v2, v4 =>
    if v1 < v4 then
  (letv (wL x 385 v2) fun x1 =>
  some (v2, x1))
  else
  bn1 (f_X5_nextMoment x) fun r2 =>
  if (lg_cmp r2 v2) ≤ 0 then
  (letv (wL x 385 r2) fun x3 =>
  if (rI x3 395) = ((-1 : Int32)) then
  ((f_X5_go_b94 (f_X5_go_b35 n) x3 v1 v2 v4 r2))
  else
  if (lg_cmp (rL x3 396) r2) = 0 then
  bn1 (f_X5_endSting x3) fun x6 =>
  (f_X5_go_b94 (f_X5_go_b35 n) x6 v1 v2 v4 r2)
  else
  (f_X5_go_b94 (f_X5_go_b35 n) x3 v1 v2 v4 r2))
  else
  letv (wL x 385 v2) fun x7 =>
  some (v2, x7)
set_option maxHeartbeats 4000000 in
set_option maxRecDepth 100000 in
theorem w_X5_go_b35 {p : Program} {l : Launch} {e : Env} {s : State} {m : MethodId} {args : Array Value} {below : List Frame} {meth : Method} {c : Code} {D : va_G} {y : CY} {a : Nat → Nat} {A : Nat → Prop} {x' : PD} {r : Int64} (X : mpX p s m args meth c cX5_go 7 (some .long) RX5) (hK : va_K D vwCl (mpT y) s) (hA : ∀ q, s.heap.size ≤ q → A q) : ∀ (n : Nat), ∀ (x : PD) (v1 : Int32) (v2 : Int64) (v4 : Int32) (H : Heap) (locs : List Loc) (ls : Array Slot), va_P D vwCl (pw y a x) H → va_D A (pw y a x) → va_S A s.heap H locs → lv_has ls 7 [(0, .ref (a 0)), (1, .int v1), (2, .long v2), (4, .int v4)] → f_X5_go_b35 n x v1 v2 v4 = some (r, x') → W p l e { frames := 6, cells := 0, slots := 0, locals := 144 } s m args below meth c H locs 0 0 (MQ below (mpC D y A (pw y a x') (some (.long r))) args s 0 0 A) (F0 m 35 ls []) := by
  obtain ⟨⟨hx, hb, hml, hown, hts⟩, hr, hlk⟩ := id X
  intro n
  induction n with
  | zero =>
    intro x v1 v2 v4 H locs ls hP hD hS hl h
    rw [f_X5_go_b35] at h
    exact nons h
  | succ n ih =>
    intro x v1 v2 v4 H locs ls hP hD hS hl h
    rw [f_X5_go_b35] at h
    refine lv_iload hx hb dX5_go_35 (lv_at hl 3 rfl) ?_
    refine lv_iload_n hx hb dX5_go_37 rfl (lv_at hl 1 rfl) ?_
    refine lv_icmp_gt (tgt := 125) hx hb dX5_go_38 (by decide) (fun hc => ?_) (fun hc => ?_)
    · replace h := ift hc h
      refine lv_aload_n hx hb dX5_go_125 rfl (lv_at hl 0 rfl) ?_
      refine pwG_0_1 X hK hP mF_X5_19 dX5_go_126 ?_
      refine lv_lload_n hx hb dX5_go_129 rfl (lv_at hl 2 rfl) ?_
      obtain ⟨x1, e1, h⟩ := letv_elim h
      refine pwP_12_1 X hK hP hD hS mF_X5_159 e1 dX5_go_130 (fun H locs hP hD hS => ?_)
      refine lv_lload_n hx hb dX5_go_133 rfl (lv_at hl 2 rfl) ?_
      cases h
      exact mpr_l X hK hP hD hS rfl dX5_go_134
    · replace h := iff_ hc h
      refine lv_aload_n hx hb dX5_go_41 rfl (lv_at hl 0 rfl) ?_
      obtain ⟨r2, hr0, h⟩ := bn1_elim h
      refine mp_call1 (As := []) (rest := []) X (c_X5_nextMoment l D y a hr0) (mp_cw (k := 0) hts mM_X5_163 mI_X5_nextMoment mS_X5_nextMoment mN_X5 mC_X5_nextMoment rfl rfl (by decide +kernel) ⟨Nat.le_of_ble_eq_true rfl, Nat.le_of_ble_eq_true rfl⟩) hK hP hD hS hA 0 pwC_0 rfl rfl hl.1 rfl (Nat.le_of_ble_eq_true rfl) dX5_go_42 ⟨Nat.zero_le _, Nat.zero_le _⟩ (fun H locs hP hD hS => ?_)
      refine lv_lstore (lv' := [(5, .long r2), (0, .ref (a 0)), (1, .int v1), (2, .long v2), (4, .int v4)]) hx hb dX5_go_45 hl (by decide) rfl (fun ls hl => ?_)
      refine lv_lload hx hb dX5_go_47 (lv_at hl 0 rfl) ?_
      refine lv_lload_n hx hb dX5_go_49 rfl (lv_at hl 3 rfl) ?_
      refine W.lcmp hx hb dX5_go_50 ?_
      refine lv_if_le (tgt := 57) hx hb dX5_go_51 (by decide) (fun hc => ?_) (fun hc => ?_)
      · replace h := ift hc h
        refine lv_aload_n hx hb dX5_go_57 rfl (lv_at hl 1 rfl) ?_
        refine pwG_0_1 X hK hP mF_X5_19 dX5_go_58 ?_
        refine lv_lload hx hb dX5_go_61 (lv_at hl 0 rfl) ?_
        obtain ⟨x3, e1, h⟩ := letv_elim h
        refine pwP_12_1 X hK hP hD hS mF_X5_159 e1 dX5_go_63 (fun H locs hP hD hS => ?_)
        refine lv_aload_n hx hb dX5_go_66 rfl (lv_at hl 1 rfl) ?_
        refine pwG_0_1 X hK hP mF_X5_19 dX5_go_67 ?_
        refine pwG_12_11 X hK hP mF_X5_166 dX5_go_70 ?_
        refine lv_iconst (v := -1) hx hb dX5_go_73 (by decide) ?_
        refine lv_icmp_eq (tgt := 94) hx hb dX5_go_74 (by decide) (fun hc => ?_) (fun hc => ?_)
        · replace h := ift hc h
          exact w_X5_go_b94 X hK hA ih x3 v1 v2 v4 r2 _ _ _ hP hD hS (lv_sub hl [1, 2, 3, 4, 0] rfl) h
        · replace h := iff_ hc h
          refine lv_aload_n hx hb dX5_go_77 rfl (lv_at hl 1 rfl) ?_
          refine pwG_0_1 X hK hP mF_X5_19 dX5_go_78 ?_
          refine pwG_12_12 X hK hP mF_X5_169 dX5_go_81 ?_
          refine lv_lload hx hb dX5_go_84 (lv_at hl 0 rfl) ?_
          refine W.lcmp hx hb dX5_go_86 ?_
          refine lv_if_ne (tgt := 94) hx hb dX5_go_87 (by decide) (fun hc => ?_) (fun hc => ?_)
          · replace h := iff_ hc h
            exact w_X5_go_b94 X hK hA ih x3 v1 v2 v4 r2 _ _ _ hP hD hS (lv_sub hl [1, 2, 3, 4, 0] rfl) h
          · replace h := ift hc h
            refine lv_aload_n hx hb dX5_go_90 rfl (lv_at hl 1 rfl) ?_
            obtain ⟨x6, hr0, h⟩ := bn1_elim h
            refine mp_callv (As := []) (rest := []) X (c_X5_endSting l D y a hr0) (mp_cw (k := 0) hts mM_X5_172 mI_X5_endSting mS_X5_endSting mN_X5 mC_X5_endSting rfl rfl (by decide +kernel) ⟨Nat.le_of_ble_eq_true rfl, Nat.le_of_ble_eq_true rfl⟩) hK hP hD hS hA 0 pwC_0 rfl rfl hl.1 rfl (Nat.le_of_ble_eq_true rfl) dX5_go_91 ⟨Nat.zero_le _, Nat.zero_le _⟩ (fun H locs hP hD hS => ?_)
            exact w_X5_go_b94 X hK hA ih x6 v1 v2 v4 r2 _ _ _ hP hD hS (lv_sub hl [1, 2, 3, 4, 0] rfl) h
      · replace h := iff_ hc h
        refine lv_goto (tgt := 125) hx hb dX5_go_54 (by decide) ?_
        refine lv_aload_n hx hb dX5_go_125 rfl (lv_at hl 1 rfl) ?_
        refine pwG_0_1 X hK hP mF_X5_19 dX5_go_126 ?_
        refine lv_lload_n hx hb dX5_go_129 rfl (lv_at hl 3 rfl) ?_
        obtain ⟨x7, e1, h⟩ := letv_elim h
        refine pwP_12_1 X hK hP hD hS mF_X5_159 e1 dX5_go_130 (fun H locs hP hD hS => ?_)
        refine lv_lload_n hx hb dX5_go_133 rfl (lv_at hl 3 rfl) ?_
        cases h
        exact mpr_l X hK hP hD hS rfl dX5_go_134
def f_X5_go (x : PD) (p1 : Int32) : Option (Int64 × PD) :=
  if p1 < 0 then
  (none)
  else
  if p1 ≤ ((20000 : Int32)) then
  ((f_X5_go_b35 FU x p1 ((rL x 385) + (Int32.toInt64 p1)) ((0 : Int32))))
  else
  none
set_option maxHeartbeats 4000000 in
set_option maxRecDepth 100000 in
theorem c_X5_go (l : Launch) (D : va_G) (y : CY) (a : Nat → Nat) {x : PD} {x' : PD} {r : Int64} {p1 : Int32} (h : f_X5_go x p1 = some (r, x')) : mpM l D y yX5_go cX5_go 7 (some .long) { frames := 6, cells := 0, slots := 0, locals := 144 } (pw y a x) (pw y a x') [.ref (a 0), .int p1] (some (.long r)) := by
  refine mpM.mk (own := RX5) (by decide) rfl (Nat.le_of_ble_eq_true rfl) ?_
  intro p e s m below meth c A ls X hK hA hP hD hl
  have hS : va_S A s.heap s.heap [] := va_S.rf
  obtain ⟨⟨hx, hb, hml, hown, hts⟩, hr, hlk⟩ := id X
  have hl : lv_has ls 7 [(0, .ref (a 0)), (1, .int p1)] := hl
  unfold f_X5_go at h
  refine lv_iload_n hx hb dX5_go_0 rfl (lv_at hl 1 rfl) ?_
  refine lv_if_lt (tgt := 11) hx hb dX5_go_1 (by decide) (fun hc => ?_) (fun hc => ?_)
  · replace h := ift hc h
    exact nons h
  · replace h := iff_ hc h
    refine lv_iload_n hx hb dX5_go_4 rfl (lv_at hl 1 rfl) ?_
    refine lv_sipush (v := 20000) hx hb dX5_go_5 (by decide) ?_
    refine lv_icmp_le (tgt := 21) hx hb dX5_go_8 (by decide) (fun hc => ?_) (fun hc => ?_)
    · replace h := ift hc h
      refine lv_aload_n hx hb dX5_go_21 rfl (lv_at hl 0 rfl) ?_
      refine pwG_0_1 X hK hP mF_X5_19 dX5_go_22 ?_
      refine pwG_12_1 X hK hP mF_X5_159 dX5_go_25 ?_
      refine lv_iload_n hx hb dX5_go_28 rfl (lv_at hl 1 rfl) ?_
      refine lv_i2l (v := Int32.toInt64 p1) hx hb dX5_go_29 rfl ?_
      refine lv_ladd hx hb dX5_go_30 ?_
      refine lv_lstore_n (lv' := [(2, .long ((rL x 385) + (Int32.toInt64 p1))), (0, .ref (a 0)), (1, .int p1)]) hx hb dX5_go_31 rfl hl (by decide) rfl (fun ls hl => ?_)
      refine lv_iconst (v := 0) hx hb dX5_go_32 (by decide) ?_
      refine lv_istore (lv' := [(4, .int ((0 : Int32))), (2, .long ((rL x 385) + (Int32.toInt64 p1))), (0, .ref (a 0)), (1, .int p1)]) hx hb dX5_go_33 hl (by decide) rfl (fun ls hl => ?_)
      exact w_X5_go_b35 X hK hA FU x p1 ((rL x 385) + (Int32.toInt64 p1)) ((0 : Int32)) _ _ _ hP hD hS (lv_sub hl [2, 3, 1, 0] rfl) h
    · replace h := iff_ hc h
      exact nons h
def f_X5_now (x : PD) (p1 : Int32) : Option (Int32) :=
  if p1 = 0 then
  (some (rI x 386))
  else if p1 = 1 then
  (some (rI x 387))
  else if p1 = 2 then
  (some (rI x 388))
  else if p1 = 3 then
  (if (rI x 386) = ((-1 : Int32)) then
  some ((0 : Int32))
  else
  bn1 (f_X3_beatOver x) fun r1 =>
  some (Int64.toInt32 r1))
  else if p1 = 4 then
  (some (rI x 390))
  else if p1 = 5 then
  (some (rI x 395))
  else if p1 = 6 then
  (some (rI x 394))
  else if p1 = 7 then
  (bn1 (f_X3_levelsTogether x) fun r2 =>
  some r2)
  else if p1 = 8 then
  (some (rI x 1061))
  else if p1 = 9 then
  (some (rI x 37))
  else if p1 = 10 then
  (some (rI x 42))
  else (none)
set_option maxHeartbeats 4000000 in
set_option maxRecDepth 100000 in
theorem c_X5_now (l : Launch) (D : va_G) (y : CY) (a : Nat → Nat) {x : PD} {r : Int32} {p1 : Int32} (h : f_X5_now x p1 = some r) : mpM l D y yX5_now cX5_now 2 (some .int) { frames := 1, cells := 0, slots := 0, locals := 22 } (pw y a x) (pw y a x) [.ref (a 0), .int p1] (some (.int r)) := by
  refine mpM.mk (own := RX5) (by decide) rfl (Nat.le_of_ble_eq_true rfl) ?_
  intro p e s m below meth c A ls X hK hA hP hD hl
  have hS : va_S A s.heap s.heap [] := va_S.rf
  obtain ⟨⟨hx, hb, hml, hown, hts⟩, hr, hlk⟩ := id X
  have hl : lv_has ls 2 [(0, .ref (a 0)), (1, .int p1)] := hl
  unfold f_X5_now at h
  refine lv_iload_n hx hb dX5_now_0 rfl (lv_at hl 1 rfl) ?_
  by_cases hc0 : p1 = 0
  · replace h := ift hc0 h
    refine lv_tableIn (off := 59) (tgt := 60) hx hb dX5_now_1 (by rw [hc0]; decide) (by rw [hc0]; decide) (by rw [hc0]; rfl) (by decide) ?_
    refine lv_aload_n hx hb dX5_now_60 rfl (lv_at hl 0 rfl) ?_
    refine pwG_0_1 X hK hP mF_X5_19 dX5_now_61 ?_
    refine pwG_12_2 X hK hP mF_X5_175 dX5_now_64 ?_
    cases h
    exact mpr_i X hK hP hD hS rfl dX5_now_67
  replace h := iff_ hc0 h
  by_cases hc1 : p1 = 1
  · replace h := ift hc1 h
    refine lv_tableIn (off := 67) (tgt := 68) hx hb dX5_now_1 (by rw [hc1]; decide) (by rw [hc1]; decide) (by rw [hc1]; rfl) (by decide) ?_
    refine lv_aload_n hx hb dX5_now_68 rfl (lv_at hl 0 rfl) ?_
    refine pwG_0_1 X hK hP mF_X5_19 dX5_now_69 ?_
    refine pwG_12_3 X hK hP mF_X5_184 dX5_now_72 ?_
    cases h
    exact mpr_i X hK hP hD hS rfl dX5_now_75
  replace h := iff_ hc1 h
  by_cases hc2 : p1 = 2
  · replace h := ift hc2 h
    refine lv_tableIn (off := 75) (tgt := 76) hx hb dX5_now_1 (by rw [hc2]; decide) (by rw [hc2]; decide) (by rw [hc2]; rfl) (by decide) ?_
    refine lv_aload_n hx hb dX5_now_76 rfl (lv_at hl 0 rfl) ?_
    refine pwG_0_1 X hK hP mF_X5_19 dX5_now_77 ?_
    refine pwG_12_4 X hK hP mF_X5_187 dX5_now_80 ?_
    cases h
    exact mpr_i X hK hP hD hS rfl dX5_now_83
  replace h := iff_ hc2 h
  by_cases hc3 : p1 = 3
  · replace h := ift hc3 h
    refine lv_tableIn (off := 83) (tgt := 84) hx hb dX5_now_1 (by rw [hc3]; decide) (by rw [hc3]; decide) (by rw [hc3]; rfl) (by decide) ?_
    refine lv_aload_n hx hb dX5_now_84 rfl (lv_at hl 0 rfl) ?_
    refine pwG_0_1 X hK hP mF_X5_19 dX5_now_85 ?_
    refine pwG_12_2 X hK hP mF_X5_175 dX5_now_88 ?_
    refine lv_iconst (v := -1) hx hb dX5_now_91 (by decide) ?_
    refine lv_icmp_ne (tgt := 99) hx hb dX5_now_92 (by decide) (fun hc => ?_) (fun hc => ?_)
    · replace h := iff_ hc h
      refine lv_aload_n hx hb dX5_now_99 rfl (lv_at hl 0 rfl) ?_
      refine pwG_0_1 X hK hP mF_X5_19 dX5_now_100 ?_
      obtain ⟨r1, hr0, h⟩ := bn1_elim h
      refine mp_call1 (As := []) (rest := []) X (c_X3_beatOver l D y a hr0) (mp_cw (k := 0) hts mM_X5_190 mI_X3_beatOver mS_X3_beatOver mN_X3 mC_X3_beatOver rfl rfl (by decide +kernel) ⟨Nat.le_of_ble_eq_true rfl, Nat.le_of_ble_eq_true rfl⟩) hK hP hD hS hA 12 pwC_12 rfl rfl hl.1 rfl (Nat.le_of_ble_eq_true rfl) dX5_now_103 ⟨Nat.zero_le _, Nat.zero_le _⟩ (fun H locs hP hD hS => ?_)
      refine lv_l2i (v := Int64.toInt32 r1) hx hb dX5_now_106 rfl ?_
      cases h
      exact mpr_i X hK hP hD hS rfl dX5_now_107
    · replace h := ift hc h
      refine lv_iconst (v := 0) hx hb dX5_now_95 (by decide) ?_
      refine lv_goto (tgt := 107) hx hb dX5_now_96 (by decide) ?_
      cases h
      exact mpr_i X hK hP hD hS rfl dX5_now_107
  replace h := iff_ hc3 h
  by_cases hc4 : p1 = 4
  · replace h := ift hc4 h
    refine lv_tableIn (off := 107) (tgt := 108) hx hb dX5_now_1 (by rw [hc4]; decide) (by rw [hc4]; decide) (by rw [hc4]; rfl) (by decide) ?_
    refine lv_aload_n hx hb dX5_now_108 rfl (lv_at hl 0 rfl) ?_
    refine pwG_0_1 X hK hP mF_X5_19 dX5_now_109 ?_
    refine pwG_12_6 X hK hP mF_X5_95 dX5_now_112 ?_
    cases h
    exact mpr_i X hK hP hD hS rfl dX5_now_115
  replace h := iff_ hc4 h
  by_cases hc5 : p1 = 5
  · replace h := ift hc5 h
    refine lv_tableIn (off := 115) (tgt := 116) hx hb dX5_now_1 (by rw [hc5]; decide) (by rw [hc5]; decide) (by rw [hc5]; rfl) (by decide) ?_
    refine lv_aload_n hx hb dX5_now_116 rfl (lv_at hl 0 rfl) ?_
    refine pwG_0_1 X hK hP mF_X5_19 dX5_now_117 ?_
    refine pwG_12_11 X hK hP mF_X5_166 dX5_now_120 ?_
    cases h
    exact mpr_i X hK hP hD hS rfl dX5_now_123
  replace h := iff_ hc5 h
  by_cases hc6 : p1 = 6
  · replace h := ift hc6 h
    refine lv_tableIn (off := 123) (tgt := 124) hx hb dX5_now_1 (by rw [hc6]; decide) (by rw [hc6]; decide) (by rw [hc6]; rfl) (by decide) ?_
    refine lv_aload_n hx hb dX5_now_124 rfl (lv_at hl 0 rfl) ?_
    refine pwG_0_1 X hK hP mF_X5_19 dX5_now_125 ?_
    refine pwG_12_10 X hK hP mF_X5_151 dX5_now_128 ?_
    cases h
    exact mpr_i X hK hP hD hS rfl dX5_now_131
  replace h := iff_ hc6 h
  by_cases hc7 : p1 = 7
  · replace h := ift hc7 h
    refine lv_tableIn (off := 131) (tgt := 132) hx hb dX5_now_1 (by rw [hc7]; decide) (by rw [hc7]; decide) (by rw [hc7]; rfl) (by decide) ?_
    refine lv_aload_n hx hb dX5_now_132 rfl (lv_at hl 0 rfl) ?_
    refine pwG_0_1 X hK hP mF_X5_19 dX5_now_133 ?_
    obtain ⟨r2, hr0, h⟩ := bn1_elim h
    refine mp_call1 (As := []) (rest := []) X (c_X3_levelsTogether l D y a hr0) (mp_cw (k := 0) hts mM_X5_193 mI_X3_levelsTogether mS_X3_levelsTogether mN_X3 mC_X3_levelsTogether rfl rfl (by decide +kernel) ⟨Nat.le_of_ble_eq_true rfl, Nat.le_of_ble_eq_true rfl⟩) hK hP hD hS hA 12 pwC_12 rfl rfl hl.1 rfl (Nat.le_of_ble_eq_true rfl) dX5_now_136 ⟨Nat.zero_le _, Nat.zero_le _⟩ (fun H locs hP hD hS => ?_)
    cases h
    exact mpr_i X hK hP hD hS rfl dX5_now_139
  replace h := iff_ hc7 h
  by_cases hc8 : p1 = 8
  · replace h := ift hc8 h
    refine lv_tableIn (off := 139) (tgt := 140) hx hb dX5_now_1 (by rw [hc8]; decide) (by rw [hc8]; decide) (by rw [hc8]; rfl) (by decide) ?_
    refine lv_aload_n hx hb dX5_now_140 rfl (lv_at hl 0 rfl) ?_
    refine pwG_0_3 X hK hP mF_X5_32 dX5_now_141 ?_
    refine pwG_33_5 X hK hP mF_X5_196 dX5_now_144 ?_
    cases h
    exact mpr_i X hK hP hD hS rfl dX5_now_147
  replace h := iff_ hc8 h
  by_cases hc9 : p1 = 9
  · replace h := ift hc9 h
    refine lv_tableIn (off := 147) (tgt := 148) hx hb dX5_now_1 (by rw [hc9]; decide) (by rw [hc9]; decide) (by rw [hc9]; rfl) (by decide) ?_
    refine lv_aload_n hx hb dX5_now_148 rfl (lv_at hl 0 rfl) ?_
    refine pwG_0_0 X hK hP mF_X5_12 dX5_now_149 ?_
    refine pwG_1_5 X hK hP mF_X5_199 dX5_now_152 ?_
    cases h
    exact mpr_i X hK hP hD hS rfl dX5_now_155
  replace h := iff_ hc9 h
  by_cases hc10 : p1 = 10
  · replace h := ift hc10 h
    refine lv_tableIn (off := 155) (tgt := 156) hx hb dX5_now_1 (by rw [hc10]; decide) (by rw [hc10]; decide) (by rw [hc10]; rfl) (by decide) ?_
    refine lv_aload_n hx hb dX5_now_156 rfl (lv_at hl 0 rfl) ?_
    refine pwG_0_0 X hK hP mF_X5_12 dX5_now_157 ?_
    refine pwG_1_10 X hK hP mF_X5_202 dX5_now_160 ?_
    cases h
    exact mpr_i X hK hP hD hS rfl dX5_now_163
  replace h := iff_ hc10 h
  refine lv_tableOut (tgt := 164) hx hb dX5_now_1 (by have q0 := lv_neT (a := 0) hc0 rfl; have q1 := lv_neT (a := 1) hc1 rfl; have q2 := lv_neT (a := 2) hc2 rfl; have q3 := lv_neT (a := 3) hc3 rfl; have q4 := lv_neT (a := 4) hc4 rfl; have q5 := lv_neT (a := 5) hc5 rfl; have q6 := lv_neT (a := 6) hc6 rfl; have q7 := lv_neT (a := 7) hc7 rfl; have q8 := lv_neT (a := 8) hc8 rfl; have q9 := lv_neT (a := 9) hc9 rfl; have q10 := lv_neT (a := 10) hc10 rfl; omega) (by decide) ?_
  exact nons h
def f_X5_level (x : PD) (p1 : Int32) : Option (Int32) :=
  bn1 (f_X5_checkPiece x p1) fun _u =>
  gd (inR p1 20) (some (rA x 14 (Int32.toNatClampNeg p1)))
set_option maxHeartbeats 4000000 in
set_option maxRecDepth 100000 in
theorem c_X5_level (l : Launch) (D : va_G) (y : CY) (a : Nat → Nat) {x : PD} {r : Int32} {p1 : Int32} (h : f_X5_level x p1 = some r) : mpM l D y yX5_level cX5_level 2 (some .int) { frames := 2, cells := 0, slots := 0, locals := 42 } (pw y a x) (pw y a x) [.ref (a 0), .int p1] (some (.int r)) := by
  refine mpM.mk (own := RX5) (by decide) rfl (Nat.le_of_ble_eq_true rfl) ?_
  intro p e s m below meth c A ls X hK hA hP hD hl
  have hS : va_S A s.heap s.heap [] := va_S.rf
  obtain ⟨⟨hx, hb, hml, hown, hts⟩, hr, hlk⟩ := id X
  have hl : lv_has ls 2 [(0, .ref (a 0)), (1, .int p1)] := hl
  unfold f_X5_level at h
  refine lv_aload_n hx hb dX5_level_0 rfl (lv_at hl 0 rfl) ?_
  refine lv_iload_n hx hb dX5_level_1 rfl (lv_at hl 1 rfl) ?_
  obtain ⟨u0, hr0, h⟩ := bn1_elim h
  refine mp_callv (As := [.int p1]) (rest := []) X (c_X5_checkPiece l D y a hr0) (mp_cw (k := 1) hts mM_X5_59 mI_X5_checkPiece mS_X5_checkPiece mN_X5 mC_X5_checkPiece rfl rfl (by decide +kernel) ⟨Nat.le_of_ble_eq_true rfl, Nat.le_of_ble_eq_true rfl⟩) hK hP hD hS hA 0 pwC_0 rfl rfl hl.1 rfl (Nat.le_of_ble_eq_true rfl) dX5_level_2 ⟨Nat.zero_le _, Nat.zero_le _⟩ (fun H locs hP hD hS => ?_)
  refine lv_aload_n hx hb dX5_level_5 rfl (lv_at hl 0 rfl) ?_
  refine pwG_0_1 X hK hP mF_X5_19 dX5_level_6 ?_
  refine pwG_12_8 X hK hP mF_X5_207 dX5_level_9 ?_
  refine lv_iload_n hx hb dX5_level_12 rfl (lv_at hl 1 rfl) ?_
  obtain ⟨hg, h⟩ := gd_elim h
  refine pwL_14 X hK hP hg dX5_level_13 ?_
  cases h
  exact mpr_i X hK hP hD hS rfl dX5_level_14
def f_X0_look (x : PD) (p1 : Int32) (p2 : Int32) : Option (Int64) :=
  if p2 = 0 then
  gd (inR (((rI x 1060) + p1) - ((rI x 1060) + p1) / ((300 : Int32)) * ((300 : Int32))) 300) (some (rB x 34 (Int32.toNatClampNeg (((rI x 1060) + p1) - ((rI x 1060) + p1) / ((300 : Int32)) * ((300 : Int32))))))
  else
  if p2 = ((1 : Int32)) then
  gd (inR (((rI x 1060) + p1) - ((rI x 1060) + p1) / ((300 : Int32)) * ((300 : Int32))) 300) (some (Int32.toInt64 (rA x 35 (Int32.toNatClampNeg (((rI x 1060) + p1) - ((rI x 1060) + p1) / ((300 : Int32)) * ((300 : Int32)))))))
  else
  gd (inR (((rI x 1060) + p1) - ((rI x 1060) + p1) / ((300 : Int32)) * ((300 : Int32))) 300) (some (Int32.toInt64 (rA x 36 (Int32.toNatClampNeg (((rI x 1060) + p1) - ((rI x 1060) + p1) / ((300 : Int32)) * ((300 : Int32)))))))
set_option maxHeartbeats 4000000 in
set_option maxRecDepth 100000 in
theorem c_X0_look (l : Launch) (D : va_G) (y : CY) (a : Nat → Nat) {x : PD} {r : Int64} {p1 : Int32} {p2 : Int32} (h : f_X0_look x p1 p2 = some r) : mpM l D y yX0_look cX0_look 4 (some .long) { frames := 0, cells := 0, slots := 0, locals := 0 } (pw y a x) (pw y a x) [.ref (a 33), .int p1, .int p2] (some (.long r)) := by
  refine mpM.mk (own := RX0) (by decide) rfl (Nat.le_of_ble_eq_true rfl) ?_
  intro p e s m below meth c A ls X hK hA hP hD hl
  have hS : va_S A s.heap s.heap [] := va_S.rf
  obtain ⟨⟨hx, hb, hml, hown, hts⟩, hr, hlk⟩ := id X
  have hl : lv_has ls 4 [(0, .ref (a 33)), (1, .int p1), (2, .int p2)] := hl
  unfold f_X0_look at h
  refine lv_aload_n hx hb dX0_look_0 rfl (lv_at hl 0 rfl) ?_
  refine pwG_33_4 X hK hP mF_X0_26 dX0_look_1 ?_
  refine lv_iload_n hx hb dX0_look_4 rfl (lv_at hl 1 rfl) ?_
  refine lv_iadd hx hb dX0_look_5 ?_
  refine lv_sipush (v := 300) hx hb dX0_look_6 (by decide) ?_
  refine lv_irem hx hb dX0_look_9 (by decide) ?_
  refine lv_istore_n (lv' := [(3, .int (((rI x 1060) + p1) - ((rI x 1060) + p1) / ((300 : Int32)) * ((300 : Int32)))), (0, .ref (a 33)), (1, .int p1), (2, .int p2)]) hx hb dX0_look_10 rfl hl (by decide) rfl (fun ls hl => ?_)
  refine lv_iload_n hx hb dX0_look_11 rfl (lv_at hl 3 rfl) ?_
  refine lv_if_ne (tgt := 22) hx hb dX0_look_12 (by decide) (fun hc => ?_) (fun hc => ?_)
  · replace h := iff_ hc h
    refine lv_iload_n hx hb dX0_look_22 rfl (lv_at hl 3 rfl) ?_
    refine lv_iconst (v := 1) hx hb dX0_look_23 (by decide) ?_
    refine lv_icmp_ne (tgt := 37) hx hb dX0_look_24 (by decide) (fun hc => ?_) (fun hc => ?_)
    · replace h := iff_ hc h
      refine lv_aload_n hx hb dX0_look_37 rfl (lv_at hl 1 rfl) ?_
      refine pwG_33_3 X hK hP mF_X0_19 dX0_look_38 ?_
      refine lv_iload_n hx hb dX0_look_41 rfl (lv_at hl 0 rfl) ?_
      obtain ⟨hg, h⟩ := gd_elim h
      refine pwL_36 X hK hP hg dX0_look_42 ?_
      refine lv_i2l (v := Int32.toInt64 (rA x 36 (Int32.toNatClampNeg (((rI x 1060) + p1) - ((rI x 1060) + p1) / ((300 : Int32)) * ((300 : Int32)))))) hx hb dX0_look_43 rfl ?_
      cases h
      exact mpr_l X hK hP hD hS rfl dX0_look_44
    · replace h := ift hc h
      refine lv_aload_n hx hb dX0_look_27 rfl (lv_at hl 1 rfl) ?_
      refine pwG_33_2 X hK hP mF_X0_15 dX0_look_28 ?_
      refine lv_iload_n hx hb dX0_look_31 rfl (lv_at hl 0 rfl) ?_
      obtain ⟨hg, h⟩ := gd_elim h
      refine pwL_35 X hK hP hg dX0_look_32 ?_
      refine lv_i2l (v := Int32.toInt64 (rA x 35 (Int32.toNatClampNeg (((rI x 1060) + p1) - ((rI x 1060) + p1) / ((300 : Int32)) * ((300 : Int32)))))) hx hb dX0_look_33 rfl ?_
      refine lv_goto (tgt := 44) hx hb dX0_look_34 (by decide) ?_
      cases h
      exact mpr_l X hK hP hD hS rfl dX0_look_44
  · replace h := ift hc h
    refine lv_aload_n hx hb dX0_look_15 rfl (lv_at hl 1 rfl) ?_
    refine pwG_33_1 X hK hP mF_X0_9 dX0_look_16 ?_
    refine lv_iload_n hx hb dX0_look_19 rfl (lv_at hl 0 rfl) ?_
    obtain ⟨hg, h⟩ := gd_elim h
    refine pwL_34 X hK hP hg dX0_look_20 ?_
    cases h
    exact mpr_l X hK hP hD hS rfl dX0_look_21
def f_X5_log (x : PD) (p1 : Int32) (p2 : Int32) : Option (Int64) :=
  if p1 < 0 then
  (none)
  else
  if (rI x 1061) ≤ p1 then
  (none)
  else
  if p2 < 0 then
  (none)
  else
  if p2 ≤ ((2 : Int32)) then
  (bn1 (f_X0_look x p1 p2) fun r1 =>
  some r1)
  else
  none
set_option maxHeartbeats 4000000 in
set_option maxRecDepth 100000 in
theorem c_X5_log (l : Launch) (D : va_G) (y : CY) (a : Nat → Nat) {x : PD} {r : Int64} {p1 : Int32} {p2 : Int32} (h : f_X5_log x p1 p2 = some r) : mpM l D y yX5_log cX5_log 3 (some .long) { frames := 1, cells := 0, slots := 0, locals := 23 } (pw y a x) (pw y a x) [.ref (a 0), .int p1, .int p2] (some (.long r)) := by
  refine mpM.mk (own := RX5) (by decide) rfl (Nat.le_of_ble_eq_true rfl) ?_
  intro p e s m below meth c A ls X hK hA hP hD hl
  have hS : va_S A s.heap s.heap [] := va_S.rf
  obtain ⟨⟨hx, hb, hml, hown, hts⟩, hr, hlk⟩ := id X
  have hl : lv_has ls 3 [(0, .ref (a 0)), (1, .int p1), (2, .int p2)] := hl
  unfold f_X5_log at h
  refine lv_iload_n hx hb dX5_log_0 rfl (lv_at hl 1 rfl) ?_
  refine lv_if_lt (tgt := 24) hx hb dX5_log_1 (by decide) (fun hc => ?_) (fun hc => ?_)
  · replace h := ift hc h
    exact nons h
  · replace h := iff_ hc h
    refine lv_iload_n hx hb dX5_log_4 rfl (lv_at hl 1 rfl) ?_
    refine lv_aload_n hx hb dX5_log_5 rfl (lv_at hl 0 rfl) ?_
    refine pwG_0_3 X hK hP mF_X5_32 dX5_log_6 ?_
    refine pwG_33_5 X hK hP mF_X5_196 dX5_log_9 ?_
    refine lv_icmp_ge (tgt := 24) hx hb dX5_log_12 (by decide) (fun hc => ?_) (fun hc => ?_)
    · replace h := ift hc h
      exact nons h
    · replace h := iff_ hc h
      refine lv_iload_n hx hb dX5_log_15 rfl (lv_at hl 2 rfl) ?_
      refine lv_if_lt (tgt := 24) hx hb dX5_log_16 (by decide) (fun hc => ?_) (fun hc => ?_)
      · replace h := ift hc h
        exact nons h
      · replace h := iff_ hc h
        refine lv_iload_n hx hb dX5_log_19 rfl (lv_at hl 2 rfl) ?_
        refine lv_iconst (v := 2) hx hb dX5_log_20 (by decide) ?_
        refine lv_icmp_le (tgt := 34) hx hb dX5_log_21 (by decide) (fun hc => ?_) (fun hc => ?_)
        · replace h := ift hc h
          refine lv_aload_n hx hb dX5_log_34 rfl (lv_at hl 0 rfl) ?_
          refine pwG_0_3 X hK hP mF_X5_32 dX5_log_35 ?_
          refine lv_iload_n hx hb dX5_log_38 rfl (lv_at hl 1 rfl) ?_
          refine lv_iload_n hx hb dX5_log_39 rfl (lv_at hl 2 rfl) ?_
          obtain ⟨r1, hr0, h⟩ := bn1_elim h
          refine mp_call1 (As := [.int p1, .int p2]) (rest := []) X (c_X0_look l D y a hr0) (mp_cw (k := 2) hts mM_X5_212 mI_X0_look mS_X0_look mN_X0 mC_X0_look rfl rfl (by decide +kernel) ⟨Nat.le_of_ble_eq_true rfl, Nat.le_of_ble_eq_true rfl⟩) hK hP hD hS hA 33 pwC_33 rfl rfl hl.1 rfl (Nat.le_of_ble_eq_true rfl) dX5_log_40 ⟨Nat.zero_le _, Nat.zero_le _⟩ (fun H locs hP hD hS => ?_)
          cases h
          exact mpr_l X hK hP hD hS rfl dX5_log_43
        · replace h := iff_ hc h
          exact nons h
def f_X5_slotAt_v0 (x : PD) : Option (Unit) :=
  if ((0 : Int32)) < 0 then
  (none)
  else
  if ((4 : Int32)) ≤ ((0 : Int32)) then
  (none)
  else
  some ()
set_option maxHeartbeats 4000000 in
set_option maxRecDepth 100000 in
theorem c_X5_slotAt_v0 (l : Launch) (D : va_G) (y : CY) (a : Nat → Nat) {x : PD} {u' : Unit} (h : f_X5_slotAt_v0 x = some u') : mpM l D y yX5_slotAt cX5_slotAt 2 (some (.object "MoodPlayer$State")) { frames := 0, cells := 0, slots := 0, locals := 0 } (pw y a x) (pw y a x) [.ref (a 0), .int ((0 : Int32))] (some (.ref (a 16))) := by
  refine mpM.mk (own := RX5) (by decide) rfl (Nat.le_of_ble_eq_true rfl) ?_
  intro p e s m below meth c A ls X hK hA hP hD hl
  have hS : va_S A s.heap s.heap [] := va_S.rf
  obtain ⟨⟨hx, hb, hml, hown, hts⟩, hr, hlk⟩ := id X
  have hl : lv_has ls 2 [(0, .ref (a 0)), (1, .int ((0 : Int32)))] := hl
  unfold f_X5_slotAt_v0 at h
  refine lv_iload_n hx hb dX5_slotAt_0 rfl (lv_at hl 1 rfl) ?_
  refine lv_if_lt (tgt := 18) hx hb dX5_slotAt_1 (by decide) (fun hc => ?_) (fun hc => ?_)
  · replace h := ift hc h
    exact nons h
  · replace h := iff_ hc h
    refine lv_iload_n hx hb dX5_slotAt_4 rfl (lv_at hl 1 rfl) ?_
    refine lv_iconst (v := 4) hx hb dX5_slotAt_5 (by decide) ?_
    refine lv_icmp_ge (tgt := 18) hx hb dX5_slotAt_6 (by decide) (fun hc => ?_) (fun hc => ?_)
    · replace h := ift hc h
      exact nons h
    · replace h := iff_ hc h
      refine lv_aload_n hx hb dX5_slotAt_9 rfl (lv_at hl 0 rfl) ?_
      refine pwG_0_2 X hK hP mF_X5_23 dX5_slotAt_10 ?_
      refine lv_iload_n hx hb dX5_slotAt_13 rfl (lv_at hl 1 rfl) ?_
      refine pwSl_0 X hK hP dX5_slotAt_14 ?_
      refine lv_ifnonnull (tgt := 28) hx hb dX5_slotAt_15 (by decide) ?_
      refine lv_aload_n hx hb dX5_slotAt_28 rfl (lv_at hl 0 rfl) ?_
      refine pwG_0_2 X hK hP mF_X5_23 dX5_slotAt_29 ?_
      refine lv_iload_n hx hb dX5_slotAt_32 rfl (lv_at hl 1 rfl) ?_
      refine pwSl_0 X hK hP dX5_slotAt_33 ?_
      cases h
      exact mpr_a X hK hP hD hS dX5_slotAt_34
def f_X3_copyFrom_16_12 (x : PD) : Option (PD) :=
  letv (wL x 513 (rL x 385)) fun x1 =>
  letv (wI x1 514 (rI x1 386)) fun x2 =>
  letv (wI x2 515 (rI x2 387)) fun x3 =>
  letv (wI x3 516 (rI x3 388)) fun x4 =>
  letv (wL x4 517 (rL x4 389)) fun x5 =>
  letv (wI x5 518 (rI x5 390)) fun x6 =>
  letv (wA x6 17 (va_cpy (rA x6 13) (rA x6 17) 0 0 20)) fun x7 =>
  letv (wA x7 18 (va_cpy (rA x7 14) (rA x7 18) 0 0 20)) fun x8 =>
  letv (wA x8 19 (va_cpy (rA x8 15) (rA x8 19) 0 0 4)) fun x9 =>
  letv (wI x9 522 (rI x9 394)) fun x10 =>
  letv (wI x10 523 (rI x10 395)) fun x11 =>
  letv (wL x11 524 (rL x11 396)) fun x12 =>
  some x12
set_option maxHeartbeats 4000000 in
set_option maxRecDepth 100000 in
theorem c_X3_copyFrom_16_12 (l : Launch) (D : va_G) (y : CY) (a : Nat → Nat) {x : PD} {x' : PD} (h : f_X3_copyFrom_16_12 x = some x') : mpM l D y yX3_copyFrom cX3_copyFrom 2 none { frames := 1, cells := 0, slots := 0, locals := 40 } (pw y a x) (pw y a x') [.ref (a 16), .ref (a 12)] none := by
  refine mpM.mk (own := RX3) (by decide) rfl (Nat.le_of_ble_eq_true rfl) ?_
  intro p e s m below meth c A ls X hK hA hP hD hl
  have hS : va_S A s.heap s.heap [] := va_S.rf
  obtain ⟨⟨hx, hb, hml, hown, hts⟩, hr, hlk⟩ := id X
  have hl : lv_has ls 2 [(0, .ref (a 16)), (1, .ref (a 12))] := hl
  unfold f_X3_copyFrom_16_12 at h
  refine lv_aload_n hx hb dX3_copyFrom_0 rfl (lv_at hl 0 rfl) ?_
  refine lv_aload_n hx hb dX3_copyFrom_1 rfl (lv_at hl 1 rfl) ?_
  refine pwG_12_1 X hK hP mF_X3_31 dX3_copyFrom_2 ?_
  obtain ⟨x1, e1, h⟩ := letv_elim h
  refine pwP_16_1 X hK hP hD hS mF_X3_31 e1 dX3_copyFrom_5 (fun H locs hP hD hS => ?_)
  refine lv_aload_n hx hb dX3_copyFrom_8 rfl (lv_at hl 0 rfl) ?_
  refine lv_aload_n hx hb dX3_copyFrom_9 rfl (lv_at hl 1 rfl) ?_
  refine pwG_12_2 X hK hP mF_X3_9 dX3_copyFrom_10 ?_
  obtain ⟨x2, e1, h⟩ := letv_elim h
  refine pwP_16_2 X hK hP hD hS mF_X3_9 e1 dX3_copyFrom_13 (fun H locs hP hD hS => ?_)
  refine lv_aload_n hx hb dX3_copyFrom_16 rfl (lv_at hl 0 rfl) ?_
  refine lv_aload_n hx hb dX3_copyFrom_17 rfl (lv_at hl 1 rfl) ?_
  refine pwG_12_3 X hK hP mF_X3_35 dX3_copyFrom_18 ?_
  obtain ⟨x3, e1, h⟩ := letv_elim h
  refine pwP_16_3 X hK hP hD hS mF_X3_35 e1 dX3_copyFrom_21 (fun H locs hP hD hS => ?_)
  refine lv_aload_n hx hb dX3_copyFrom_24 rfl (lv_at hl 0 rfl) ?_
  refine lv_aload_n hx hb dX3_copyFrom_25 rfl (lv_at hl 1 rfl) ?_
  refine pwG_12_4 X hK hP mF_X3_38 dX3_copyFrom_26 ?_
  obtain ⟨x4, e1, h⟩ := letv_elim h
  refine pwP_16_4 X hK hP hD hS mF_X3_38 e1 dX3_copyFrom_29 (fun H locs hP hD hS => ?_)
  refine lv_aload_n hx hb dX3_copyFrom_32 rfl (lv_at hl 0 rfl) ?_
  refine lv_aload_n hx hb dX3_copyFrom_33 rfl (lv_at hl 1 rfl) ?_
  refine pwG_12_5 X hK hP mF_X3_41 dX3_copyFrom_34 ?_
  obtain ⟨x5, e1, h⟩ := letv_elim h
  refine pwP_16_5 X hK hP hD hS mF_X3_41 e1 dX3_copyFrom_37 (fun H locs hP hD hS => ?_)
  refine lv_aload_n hx hb dX3_copyFrom_40 rfl (lv_at hl 0 rfl) ?_
  refine lv_aload_n hx hb dX3_copyFrom_41 rfl (lv_at hl 1 rfl) ?_
  refine pwG_12_6 X hK hP mF_X3_15 dX3_copyFrom_42 ?_
  obtain ⟨x6, e1, h⟩ := letv_elim h
  refine pwP_16_6 X hK hP hD hS mF_X3_15 e1 dX3_copyFrom_45 (fun H locs hP hD hS => ?_)
  refine lv_aload_n hx hb dX3_copyFrom_48 rfl (lv_at hl 1 rfl) ?_
  refine pwG_12_7 X hK hP mF_X3_18 dX3_copyFrom_49 ?_
  refine lv_iconst (v := 0) hx hb dX3_copyFrom_52 (by decide) ?_
  refine lv_aload_n hx hb dX3_copyFrom_53 rfl (lv_at hl 0 rfl) ?_
  refine pwG_16_7 X hK hP mF_X3_18 dX3_copyFrom_54 ?_
  refine lv_iconst (v := 0) hx hb dX3_copyFrom_57 (by decide) ?_
  refine lv_bipush (v := 20) hx hb dX3_copyFrom_58 (by decide) ?_
  obtain ⟨x7, e1, h⟩ := letv_elim h
  refine pwCp_13_17 X hK hP hD hS (hml.trans hl.1.symm) mM_X3_44 e1 (Nat.le_of_ble_eq_true rfl) (Nat.le_of_ble_eq_true rfl) dX3_copyFrom_60 (fun H locs hP hD hS => ?_)
  refine lv_aload_n hx hb dX3_copyFrom_63 rfl (lv_at hl 1 rfl) ?_
  refine pwG_12_8 X hK hP mF_X3_22 dX3_copyFrom_64 ?_
  refine lv_iconst (v := 0) hx hb dX3_copyFrom_67 (by decide) ?_
  refine lv_aload_n hx hb dX3_copyFrom_68 rfl (lv_at hl 0 rfl) ?_
  refine pwG_16_8 X hK hP mF_X3_22 dX3_copyFrom_69 ?_
  refine lv_iconst (v := 0) hx hb dX3_copyFrom_72 (by decide) ?_
  refine lv_bipush (v := 20) hx hb dX3_copyFrom_73 (by decide) ?_
  obtain ⟨x8, e1, h⟩ := letv_elim h
  refine pwCp_14_18 X hK hP hD hS (hml.trans hl.1.symm) mM_X3_44 e1 (Nat.le_of_ble_eq_true rfl) (Nat.le_of_ble_eq_true rfl) dX3_copyFrom_75 (fun H locs hP hD hS => ?_)
  refine lv_aload_n hx hb dX3_copyFrom_78 rfl (lv_at hl 1 rfl) ?_
  refine pwG_12_9 X hK hP mF_X3_25 dX3_copyFrom_79 ?_
  refine lv_iconst (v := 0) hx hb dX3_copyFrom_82 (by decide) ?_
  refine lv_aload_n hx hb dX3_copyFrom_83 rfl (lv_at hl 0 rfl) ?_
  refine pwG_16_9 X hK hP mF_X3_25 dX3_copyFrom_84 ?_
  refine lv_iconst (v := 0) hx hb dX3_copyFrom_87 (by decide) ?_
  refine lv_iconst (v := 4) hx hb dX3_copyFrom_88 (by decide) ?_
  obtain ⟨x9, e1, h⟩ := letv_elim h
  refine pwCp_15_19 X hK hP hD hS (hml.trans hl.1.symm) mM_X3_44 e1 (Nat.le_of_ble_eq_true rfl) (Nat.le_of_ble_eq_true rfl) dX3_copyFrom_89 (fun H locs hP hD hS => ?_)
  refine lv_aload_n hx hb dX3_copyFrom_92 rfl (lv_at hl 0 rfl) ?_
  refine lv_aload_n hx hb dX3_copyFrom_93 rfl (lv_at hl 1 rfl) ?_
  refine pwG_12_10 X hK hP mF_X3_50 dX3_copyFrom_94 ?_
  obtain ⟨x10, e1, h⟩ := letv_elim h
  refine pwP_16_10 X hK hP hD hS mF_X3_50 e1 dX3_copyFrom_97 (fun H locs hP hD hS => ?_)
  refine lv_aload_n hx hb dX3_copyFrom_100 rfl (lv_at hl 0 rfl) ?_
  refine lv_aload_n hx hb dX3_copyFrom_101 rfl (lv_at hl 1 rfl) ?_
  refine pwG_12_11 X hK hP mF_X3_28 dX3_copyFrom_102 ?_
  obtain ⟨x11, e1, h⟩ := letv_elim h
  refine pwP_16_11 X hK hP hD hS mF_X3_28 e1 dX3_copyFrom_105 (fun H locs hP hD hS => ?_)
  refine lv_aload_n hx hb dX3_copyFrom_108 rfl (lv_at hl 0 rfl) ?_
  refine lv_aload_n hx hb dX3_copyFrom_109 rfl (lv_at hl 1 rfl) ?_
  refine pwG_12_12 X hK hP mF_X3_53 dX3_copyFrom_110 ?_
  obtain ⟨x12, e1, h⟩ := letv_elim h
  refine pwP_16_12 X hK hP hD hS mF_X3_53 e1 dX3_copyFrom_113 (fun H locs hP hD hS => ?_)
  cases h
  exact mpr_v X hK hP hD hS dX3_copyFrom_116
def f_X5_keep_v0 (x : PD) : Option (Int32 × PD) :=
  bn1 (f_X5_slotAt_v0 x) fun _u =>
  bn1 (f_X3_copyFrom_16_12 x) fun x1 =>
  letv (wI x1 512 ((1 : Int32))) fun x2 =>
  gd (isB (rI x 512)) (some (rI x 512, x2))
set_option maxHeartbeats 4000000 in
set_option maxRecDepth 100000 in
theorem c_X5_keep_v0 (l : Launch) (D : va_G) (y : CY) (a : Nat → Nat) {x : PD} {x' : PD} {r : Int32} (h : f_X5_keep_v0 x = some (r, x')) : mpM l D y yX5_keep cX5_keep 4 (some .boolean) { frames := 2, cells := 0, slots := 0, locals := 61 } (pw y a x) (pw y a x') [.ref (a 0), .int ((0 : Int32))] (some (.int r)) := by
  refine mpM.mk (own := RX5) (by decide) rfl (Nat.le_of_ble_eq_true rfl) ?_
  intro p e s m below meth c A ls X hK hA hP hD hl
  have hS : va_S A s.heap s.heap [] := va_S.rf
  obtain ⟨⟨hx, hb, hml, hown, hts⟩, hr, hlk⟩ := id X
  have hl : lv_has ls 4 [(0, .ref (a 0)), (1, .int ((0 : Int32)))] := hl
  unfold f_X5_keep_v0 at h
  refine lv_aload_n hx hb dX5_keep_0 rfl (lv_at hl 0 rfl) ?_
  refine lv_iload_n hx hb dX5_keep_1 rfl (lv_at hl 1 rfl) ?_
  obtain ⟨u0, hr0, h⟩ := bn1_elim h
  refine mp_call1 (As := [.int ((0 : Int32))]) (rest := []) X (c_X5_slotAt_v0 l D y a hr0) (mp_cw (k := 1) hts mM_X5_216 mI_X5_slotAt mS_X5_slotAt mN_X5 mC_X5_slotAt rfl rfl (by decide +kernel) ⟨Nat.le_of_ble_eq_true rfl, Nat.le_of_ble_eq_true rfl⟩) hK hP hD hS hA 0 pwC_0 rfl rfl hl.1 rfl (Nat.le_of_ble_eq_true rfl) dX5_keep_2 ⟨Nat.zero_le _, Nat.zero_le _⟩ (fun H locs hP hD hS => ?_)
  refine lv_astore_n (lv' := [(2, .ref (a 16)), (0, .ref (a 0)), (1, .int ((0 : Int32)))]) hx hb dX5_keep_5 rfl hl (by decide) rfl (fun ls hl => ?_)
  refine lv_aload_n hx hb dX5_keep_6 rfl (lv_at hl 0 rfl) ?_
  refine pwG_16_0 X hK hP mF_X5_220 dX5_keep_7 ?_
  refine lv_istore_n (lv' := [(3, .int (rI x 512)), (2, .ref (a 16)), (0, .ref (a 0)), (1, .int ((0 : Int32)))]) hx hb dX5_keep_10 rfl hl (by decide) rfl (fun ls hl => ?_)
  refine lv_aload_n hx hb dX5_keep_11 rfl (lv_at hl 1 rfl) ?_
  refine lv_aload_n hx hb dX5_keep_12 rfl (lv_at hl 2 rfl) ?_
  refine pwG_0_1 X hK hP mF_X5_19 dX5_keep_13 ?_
  obtain ⟨x1, hr0, h⟩ := bn1_elim h
  refine mp_callv (As := [.ref (a 12)]) (rest := []) X (c_X3_copyFrom_16_12 l D y a hr0) (mp_cw (k := 1) hts mM_X5_224 mI_X3_copyFrom mS_X3_copyFrom mN_X3 mC_X3_copyFrom rfl rfl (by decide +kernel) ⟨Nat.le_of_ble_eq_true rfl, Nat.le_of_ble_eq_true rfl⟩) hK hP hD hS hA 16 pwC_16 rfl rfl hl.1 rfl (Nat.le_of_ble_eq_true rfl) dX5_keep_16 ⟨Nat.zero_le _, Nat.zero_le _⟩ (fun H locs hP hD hS => ?_)
  refine lv_aload_n hx hb dX5_keep_19 rfl (lv_at hl 1 rfl) ?_
  refine lv_iconst (v := 1) hx hb dX5_keep_20 (by decide) ?_
  obtain ⟨x2, e1, h⟩ := letv_elim h
  refine pwP_16_0 X hK hP hD hS mF_X5_220 rfl rfl e1 dX5_keep_21 (fun H locs hP hD hS => ?_)
  refine lv_iload_n hx hb dX5_keep_24 rfl (lv_at hl 0 rfl) ?_
  obtain ⟨hg, h⟩ := gd_elim h
  cases h
  exact mpr_z X hK hP hD hS (isB_nar hg) rfl dX5_keep_25
def f_X5_slotAt_v1 (x : PD) : Option (Unit) :=
  if ((1 : Int32)) < 0 then
  (none)
  else
  if ((4 : Int32)) ≤ ((1 : Int32)) then
  (none)
  else
  some ()
set_option maxHeartbeats 4000000 in
set_option maxRecDepth 100000 in
theorem c_X5_slotAt_v1 (l : Launch) (D : va_G) (y : CY) (a : Nat → Nat) {x : PD} {u' : Unit} (h : f_X5_slotAt_v1 x = some u') : mpM l D y yX5_slotAt cX5_slotAt 2 (some (.object "MoodPlayer$State")) { frames := 0, cells := 0, slots := 0, locals := 0 } (pw y a x) (pw y a x) [.ref (a 0), .int ((1 : Int32))] (some (.ref (a 20))) := by
  refine mpM.mk (own := RX5) (by decide) rfl (Nat.le_of_ble_eq_true rfl) ?_
  intro p e s m below meth c A ls X hK hA hP hD hl
  have hS : va_S A s.heap s.heap [] := va_S.rf
  obtain ⟨⟨hx, hb, hml, hown, hts⟩, hr, hlk⟩ := id X
  have hl : lv_has ls 2 [(0, .ref (a 0)), (1, .int ((1 : Int32)))] := hl
  unfold f_X5_slotAt_v1 at h
  refine lv_iload_n hx hb dX5_slotAt_0 rfl (lv_at hl 1 rfl) ?_
  refine lv_if_lt (tgt := 18) hx hb dX5_slotAt_1 (by decide) (fun hc => ?_) (fun hc => ?_)
  · replace h := ift hc h
    exact nons h
  · replace h := iff_ hc h
    refine lv_iload_n hx hb dX5_slotAt_4 rfl (lv_at hl 1 rfl) ?_
    refine lv_iconst (v := 4) hx hb dX5_slotAt_5 (by decide) ?_
    refine lv_icmp_ge (tgt := 18) hx hb dX5_slotAt_6 (by decide) (fun hc => ?_) (fun hc => ?_)
    · replace h := ift hc h
      exact nons h
    · replace h := iff_ hc h
      refine lv_aload_n hx hb dX5_slotAt_9 rfl (lv_at hl 0 rfl) ?_
      refine pwG_0_2 X hK hP mF_X5_23 dX5_slotAt_10 ?_
      refine lv_iload_n hx hb dX5_slotAt_13 rfl (lv_at hl 1 rfl) ?_
      refine pwSl_1 X hK hP dX5_slotAt_14 ?_
      refine lv_ifnonnull (tgt := 28) hx hb dX5_slotAt_15 (by decide) ?_
      refine lv_aload_n hx hb dX5_slotAt_28 rfl (lv_at hl 0 rfl) ?_
      refine pwG_0_2 X hK hP mF_X5_23 dX5_slotAt_29 ?_
      refine lv_iload_n hx hb dX5_slotAt_32 rfl (lv_at hl 1 rfl) ?_
      refine pwSl_1 X hK hP dX5_slotAt_33 ?_
      cases h
      exact mpr_a X hK hP hD hS dX5_slotAt_34
def f_X3_copyFrom_20_12 (x : PD) : Option (PD) :=
  letv (wL x 641 (rL x 385)) fun x1 =>
  letv (wI x1 642 (rI x1 386)) fun x2 =>
  letv (wI x2 643 (rI x2 387)) fun x3 =>
  letv (wI x3 644 (rI x3 388)) fun x4 =>
  letv (wL x4 645 (rL x4 389)) fun x5 =>
  letv (wI x5 646 (rI x5 390)) fun x6 =>
  letv (wA x6 21 (va_cpy (rA x6 13) (rA x6 21) 0 0 20)) fun x7 =>
  letv (wA x7 22 (va_cpy (rA x7 14) (rA x7 22) 0 0 20)) fun x8 =>
  letv (wA x8 23 (va_cpy (rA x8 15) (rA x8 23) 0 0 4)) fun x9 =>
  letv (wI x9 650 (rI x9 394)) fun x10 =>
  letv (wI x10 651 (rI x10 395)) fun x11 =>
  letv (wL x11 652 (rL x11 396)) fun x12 =>
  some x12
set_option maxHeartbeats 4000000 in
set_option maxRecDepth 100000 in
theorem c_X3_copyFrom_20_12 (l : Launch) (D : va_G) (y : CY) (a : Nat → Nat) {x : PD} {x' : PD} (h : f_X3_copyFrom_20_12 x = some x') : mpM l D y yX3_copyFrom cX3_copyFrom 2 none { frames := 1, cells := 0, slots := 0, locals := 40 } (pw y a x) (pw y a x') [.ref (a 20), .ref (a 12)] none := by
  refine mpM.mk (own := RX3) (by decide) rfl (Nat.le_of_ble_eq_true rfl) ?_
  intro p e s m below meth c A ls X hK hA hP hD hl
  have hS : va_S A s.heap s.heap [] := va_S.rf
  obtain ⟨⟨hx, hb, hml, hown, hts⟩, hr, hlk⟩ := id X
  have hl : lv_has ls 2 [(0, .ref (a 20)), (1, .ref (a 12))] := hl
  unfold f_X3_copyFrom_20_12 at h
  refine lv_aload_n hx hb dX3_copyFrom_0 rfl (lv_at hl 0 rfl) ?_
  refine lv_aload_n hx hb dX3_copyFrom_1 rfl (lv_at hl 1 rfl) ?_
  refine pwG_12_1 X hK hP mF_X3_31 dX3_copyFrom_2 ?_
  obtain ⟨x1, e1, h⟩ := letv_elim h
  refine pwP_20_1 X hK hP hD hS mF_X3_31 e1 dX3_copyFrom_5 (fun H locs hP hD hS => ?_)
  refine lv_aload_n hx hb dX3_copyFrom_8 rfl (lv_at hl 0 rfl) ?_
  refine lv_aload_n hx hb dX3_copyFrom_9 rfl (lv_at hl 1 rfl) ?_
  refine pwG_12_2 X hK hP mF_X3_9 dX3_copyFrom_10 ?_
  obtain ⟨x2, e1, h⟩ := letv_elim h
  refine pwP_20_2 X hK hP hD hS mF_X3_9 e1 dX3_copyFrom_13 (fun H locs hP hD hS => ?_)
  refine lv_aload_n hx hb dX3_copyFrom_16 rfl (lv_at hl 0 rfl) ?_
  refine lv_aload_n hx hb dX3_copyFrom_17 rfl (lv_at hl 1 rfl) ?_
  refine pwG_12_3 X hK hP mF_X3_35 dX3_copyFrom_18 ?_
  obtain ⟨x3, e1, h⟩ := letv_elim h
  refine pwP_20_3 X hK hP hD hS mF_X3_35 e1 dX3_copyFrom_21 (fun H locs hP hD hS => ?_)
  refine lv_aload_n hx hb dX3_copyFrom_24 rfl (lv_at hl 0 rfl) ?_
  refine lv_aload_n hx hb dX3_copyFrom_25 rfl (lv_at hl 1 rfl) ?_
  refine pwG_12_4 X hK hP mF_X3_38 dX3_copyFrom_26 ?_
  obtain ⟨x4, e1, h⟩ := letv_elim h
  refine pwP_20_4 X hK hP hD hS mF_X3_38 e1 dX3_copyFrom_29 (fun H locs hP hD hS => ?_)
  refine lv_aload_n hx hb dX3_copyFrom_32 rfl (lv_at hl 0 rfl) ?_
  refine lv_aload_n hx hb dX3_copyFrom_33 rfl (lv_at hl 1 rfl) ?_
  refine pwG_12_5 X hK hP mF_X3_41 dX3_copyFrom_34 ?_
  obtain ⟨x5, e1, h⟩ := letv_elim h
  refine pwP_20_5 X hK hP hD hS mF_X3_41 e1 dX3_copyFrom_37 (fun H locs hP hD hS => ?_)
  refine lv_aload_n hx hb dX3_copyFrom_40 rfl (lv_at hl 0 rfl) ?_
  refine lv_aload_n hx hb dX3_copyFrom_41 rfl (lv_at hl 1 rfl) ?_
  refine pwG_12_6 X hK hP mF_X3_15 dX3_copyFrom_42 ?_
  obtain ⟨x6, e1, h⟩ := letv_elim h
  refine pwP_20_6 X hK hP hD hS mF_X3_15 e1 dX3_copyFrom_45 (fun H locs hP hD hS => ?_)
  refine lv_aload_n hx hb dX3_copyFrom_48 rfl (lv_at hl 1 rfl) ?_
  refine pwG_12_7 X hK hP mF_X3_18 dX3_copyFrom_49 ?_
  refine lv_iconst (v := 0) hx hb dX3_copyFrom_52 (by decide) ?_
  refine lv_aload_n hx hb dX3_copyFrom_53 rfl (lv_at hl 0 rfl) ?_
  refine pwG_20_7 X hK hP mF_X3_18 dX3_copyFrom_54 ?_
  refine lv_iconst (v := 0) hx hb dX3_copyFrom_57 (by decide) ?_
  refine lv_bipush (v := 20) hx hb dX3_copyFrom_58 (by decide) ?_
  obtain ⟨x7, e1, h⟩ := letv_elim h
  refine pwCp_13_21 X hK hP hD hS (hml.trans hl.1.symm) mM_X3_44 e1 (Nat.le_of_ble_eq_true rfl) (Nat.le_of_ble_eq_true rfl) dX3_copyFrom_60 (fun H locs hP hD hS => ?_)
  refine lv_aload_n hx hb dX3_copyFrom_63 rfl (lv_at hl 1 rfl) ?_
  refine pwG_12_8 X hK hP mF_X3_22 dX3_copyFrom_64 ?_
  refine lv_iconst (v := 0) hx hb dX3_copyFrom_67 (by decide) ?_
  refine lv_aload_n hx hb dX3_copyFrom_68 rfl (lv_at hl 0 rfl) ?_
  refine pwG_20_8 X hK hP mF_X3_22 dX3_copyFrom_69 ?_
  refine lv_iconst (v := 0) hx hb dX3_copyFrom_72 (by decide) ?_
  refine lv_bipush (v := 20) hx hb dX3_copyFrom_73 (by decide) ?_
  obtain ⟨x8, e1, h⟩ := letv_elim h
  refine pwCp_14_22 X hK hP hD hS (hml.trans hl.1.symm) mM_X3_44 e1 (Nat.le_of_ble_eq_true rfl) (Nat.le_of_ble_eq_true rfl) dX3_copyFrom_75 (fun H locs hP hD hS => ?_)
  refine lv_aload_n hx hb dX3_copyFrom_78 rfl (lv_at hl 1 rfl) ?_
  refine pwG_12_9 X hK hP mF_X3_25 dX3_copyFrom_79 ?_
  refine lv_iconst (v := 0) hx hb dX3_copyFrom_82 (by decide) ?_
  refine lv_aload_n hx hb dX3_copyFrom_83 rfl (lv_at hl 0 rfl) ?_
  refine pwG_20_9 X hK hP mF_X3_25 dX3_copyFrom_84 ?_
  refine lv_iconst (v := 0) hx hb dX3_copyFrom_87 (by decide) ?_
  refine lv_iconst (v := 4) hx hb dX3_copyFrom_88 (by decide) ?_
  obtain ⟨x9, e1, h⟩ := letv_elim h
  refine pwCp_15_23 X hK hP hD hS (hml.trans hl.1.symm) mM_X3_44 e1 (Nat.le_of_ble_eq_true rfl) (Nat.le_of_ble_eq_true rfl) dX3_copyFrom_89 (fun H locs hP hD hS => ?_)
  refine lv_aload_n hx hb dX3_copyFrom_92 rfl (lv_at hl 0 rfl) ?_
  refine lv_aload_n hx hb dX3_copyFrom_93 rfl (lv_at hl 1 rfl) ?_
  refine pwG_12_10 X hK hP mF_X3_50 dX3_copyFrom_94 ?_
  obtain ⟨x10, e1, h⟩ := letv_elim h
  refine pwP_20_10 X hK hP hD hS mF_X3_50 e1 dX3_copyFrom_97 (fun H locs hP hD hS => ?_)
  refine lv_aload_n hx hb dX3_copyFrom_100 rfl (lv_at hl 0 rfl) ?_
  refine lv_aload_n hx hb dX3_copyFrom_101 rfl (lv_at hl 1 rfl) ?_
  refine pwG_12_11 X hK hP mF_X3_28 dX3_copyFrom_102 ?_
  obtain ⟨x11, e1, h⟩ := letv_elim h
  refine pwP_20_11 X hK hP hD hS mF_X3_28 e1 dX3_copyFrom_105 (fun H locs hP hD hS => ?_)
  refine lv_aload_n hx hb dX3_copyFrom_108 rfl (lv_at hl 0 rfl) ?_
  refine lv_aload_n hx hb dX3_copyFrom_109 rfl (lv_at hl 1 rfl) ?_
  refine pwG_12_12 X hK hP mF_X3_53 dX3_copyFrom_110 ?_
  obtain ⟨x12, e1, h⟩ := letv_elim h
  refine pwP_20_12 X hK hP hD hS mF_X3_53 e1 dX3_copyFrom_113 (fun H locs hP hD hS => ?_)
  cases h
  exact mpr_v X hK hP hD hS dX3_copyFrom_116
def f_X5_keep_v1 (x : PD) : Option (Int32 × PD) :=
  bn1 (f_X5_slotAt_v1 x) fun _u =>
  bn1 (f_X3_copyFrom_20_12 x) fun x1 =>
  letv (wI x1 640 ((1 : Int32))) fun x2 =>
  gd (isB (rI x 640)) (some (rI x 640, x2))
set_option maxHeartbeats 4000000 in
set_option maxRecDepth 100000 in
theorem c_X5_keep_v1 (l : Launch) (D : va_G) (y : CY) (a : Nat → Nat) {x : PD} {x' : PD} {r : Int32} (h : f_X5_keep_v1 x = some (r, x')) : mpM l D y yX5_keep cX5_keep 4 (some .boolean) { frames := 2, cells := 0, slots := 0, locals := 61 } (pw y a x) (pw y a x') [.ref (a 0), .int ((1 : Int32))] (some (.int r)) := by
  refine mpM.mk (own := RX5) (by decide) rfl (Nat.le_of_ble_eq_true rfl) ?_
  intro p e s m below meth c A ls X hK hA hP hD hl
  have hS : va_S A s.heap s.heap [] := va_S.rf
  obtain ⟨⟨hx, hb, hml, hown, hts⟩, hr, hlk⟩ := id X
  have hl : lv_has ls 4 [(0, .ref (a 0)), (1, .int ((1 : Int32)))] := hl
  unfold f_X5_keep_v1 at h
  refine lv_aload_n hx hb dX5_keep_0 rfl (lv_at hl 0 rfl) ?_
  refine lv_iload_n hx hb dX5_keep_1 rfl (lv_at hl 1 rfl) ?_
  obtain ⟨u0, hr0, h⟩ := bn1_elim h
  refine mp_call1 (As := [.int ((1 : Int32))]) (rest := []) X (c_X5_slotAt_v1 l D y a hr0) (mp_cw (k := 1) hts mM_X5_216 mI_X5_slotAt mS_X5_slotAt mN_X5 mC_X5_slotAt rfl rfl (by decide +kernel) ⟨Nat.le_of_ble_eq_true rfl, Nat.le_of_ble_eq_true rfl⟩) hK hP hD hS hA 0 pwC_0 rfl rfl hl.1 rfl (Nat.le_of_ble_eq_true rfl) dX5_keep_2 ⟨Nat.zero_le _, Nat.zero_le _⟩ (fun H locs hP hD hS => ?_)
  refine lv_astore_n (lv' := [(2, .ref (a 20)), (0, .ref (a 0)), (1, .int ((1 : Int32)))]) hx hb dX5_keep_5 rfl hl (by decide) rfl (fun ls hl => ?_)
  refine lv_aload_n hx hb dX5_keep_6 rfl (lv_at hl 0 rfl) ?_
  refine pwG_20_0 X hK hP mF_X5_220 dX5_keep_7 ?_
  refine lv_istore_n (lv' := [(3, .int (rI x 640)), (2, .ref (a 20)), (0, .ref (a 0)), (1, .int ((1 : Int32)))]) hx hb dX5_keep_10 rfl hl (by decide) rfl (fun ls hl => ?_)
  refine lv_aload_n hx hb dX5_keep_11 rfl (lv_at hl 1 rfl) ?_
  refine lv_aload_n hx hb dX5_keep_12 rfl (lv_at hl 2 rfl) ?_
  refine pwG_0_1 X hK hP mF_X5_19 dX5_keep_13 ?_
  obtain ⟨x1, hr0, h⟩ := bn1_elim h
  refine mp_callv (As := [.ref (a 12)]) (rest := []) X (c_X3_copyFrom_20_12 l D y a hr0) (mp_cw (k := 1) hts mM_X5_224 mI_X3_copyFrom mS_X3_copyFrom mN_X3 mC_X3_copyFrom rfl rfl (by decide +kernel) ⟨Nat.le_of_ble_eq_true rfl, Nat.le_of_ble_eq_true rfl⟩) hK hP hD hS hA 20 pwC_20 rfl rfl hl.1 rfl (Nat.le_of_ble_eq_true rfl) dX5_keep_16 ⟨Nat.zero_le _, Nat.zero_le _⟩ (fun H locs hP hD hS => ?_)
  refine lv_aload_n hx hb dX5_keep_19 rfl (lv_at hl 1 rfl) ?_
  refine lv_iconst (v := 1) hx hb dX5_keep_20 (by decide) ?_
  obtain ⟨x2, e1, h⟩ := letv_elim h
  refine pwP_20_0 X hK hP hD hS mF_X5_220 rfl rfl e1 dX5_keep_21 (fun H locs hP hD hS => ?_)
  refine lv_iload_n hx hb dX5_keep_24 rfl (lv_at hl 0 rfl) ?_
  obtain ⟨hg, h⟩ := gd_elim h
  cases h
  exact mpr_z X hK hP hD hS (isB_nar hg) rfl dX5_keep_25
def f_X5_slotAt_v2 (x : PD) : Option (Unit) :=
  if ((2 : Int32)) < 0 then
  (none)
  else
  if ((4 : Int32)) ≤ ((2 : Int32)) then
  (none)
  else
  some ()
set_option maxHeartbeats 4000000 in
set_option maxRecDepth 100000 in
theorem c_X5_slotAt_v2 (l : Launch) (D : va_G) (y : CY) (a : Nat → Nat) {x : PD} {u' : Unit} (h : f_X5_slotAt_v2 x = some u') : mpM l D y yX5_slotAt cX5_slotAt 2 (some (.object "MoodPlayer$State")) { frames := 0, cells := 0, slots := 0, locals := 0 } (pw y a x) (pw y a x) [.ref (a 0), .int ((2 : Int32))] (some (.ref (a 24))) := by
  refine mpM.mk (own := RX5) (by decide) rfl (Nat.le_of_ble_eq_true rfl) ?_
  intro p e s m below meth c A ls X hK hA hP hD hl
  have hS : va_S A s.heap s.heap [] := va_S.rf
  obtain ⟨⟨hx, hb, hml, hown, hts⟩, hr, hlk⟩ := id X
  have hl : lv_has ls 2 [(0, .ref (a 0)), (1, .int ((2 : Int32)))] := hl
  unfold f_X5_slotAt_v2 at h
  refine lv_iload_n hx hb dX5_slotAt_0 rfl (lv_at hl 1 rfl) ?_
  refine lv_if_lt (tgt := 18) hx hb dX5_slotAt_1 (by decide) (fun hc => ?_) (fun hc => ?_)
  · replace h := ift hc h
    exact nons h
  · replace h := iff_ hc h
    refine lv_iload_n hx hb dX5_slotAt_4 rfl (lv_at hl 1 rfl) ?_
    refine lv_iconst (v := 4) hx hb dX5_slotAt_5 (by decide) ?_
    refine lv_icmp_ge (tgt := 18) hx hb dX5_slotAt_6 (by decide) (fun hc => ?_) (fun hc => ?_)
    · replace h := ift hc h
      exact nons h
    · replace h := iff_ hc h
      refine lv_aload_n hx hb dX5_slotAt_9 rfl (lv_at hl 0 rfl) ?_
      refine pwG_0_2 X hK hP mF_X5_23 dX5_slotAt_10 ?_
      refine lv_iload_n hx hb dX5_slotAt_13 rfl (lv_at hl 1 rfl) ?_
      refine pwSl_2 X hK hP dX5_slotAt_14 ?_
      refine lv_ifnonnull (tgt := 28) hx hb dX5_slotAt_15 (by decide) ?_
      refine lv_aload_n hx hb dX5_slotAt_28 rfl (lv_at hl 0 rfl) ?_
      refine pwG_0_2 X hK hP mF_X5_23 dX5_slotAt_29 ?_
      refine lv_iload_n hx hb dX5_slotAt_32 rfl (lv_at hl 1 rfl) ?_
      refine pwSl_2 X hK hP dX5_slotAt_33 ?_
      cases h
      exact mpr_a X hK hP hD hS dX5_slotAt_34
def f_X3_copyFrom_24_12 (x : PD) : Option (PD) :=
  letv (wL x 769 (rL x 385)) fun x1 =>
  letv (wI x1 770 (rI x1 386)) fun x2 =>
  letv (wI x2 771 (rI x2 387)) fun x3 =>
  letv (wI x3 772 (rI x3 388)) fun x4 =>
  letv (wL x4 773 (rL x4 389)) fun x5 =>
  letv (wI x5 774 (rI x5 390)) fun x6 =>
  letv (wA x6 25 (va_cpy (rA x6 13) (rA x6 25) 0 0 20)) fun x7 =>
  letv (wA x7 26 (va_cpy (rA x7 14) (rA x7 26) 0 0 20)) fun x8 =>
  letv (wA x8 27 (va_cpy (rA x8 15) (rA x8 27) 0 0 4)) fun x9 =>
  letv (wI x9 778 (rI x9 394)) fun x10 =>
  letv (wI x10 779 (rI x10 395)) fun x11 =>
  letv (wL x11 780 (rL x11 396)) fun x12 =>
  some x12
set_option maxHeartbeats 4000000 in
set_option maxRecDepth 100000 in
theorem c_X3_copyFrom_24_12 (l : Launch) (D : va_G) (y : CY) (a : Nat → Nat) {x : PD} {x' : PD} (h : f_X3_copyFrom_24_12 x = some x') : mpM l D y yX3_copyFrom cX3_copyFrom 2 none { frames := 1, cells := 0, slots := 0, locals := 40 } (pw y a x) (pw y a x') [.ref (a 24), .ref (a 12)] none := by
  refine mpM.mk (own := RX3) (by decide) rfl (Nat.le_of_ble_eq_true rfl) ?_
  intro p e s m below meth c A ls X hK hA hP hD hl
  have hS : va_S A s.heap s.heap [] := va_S.rf
  obtain ⟨⟨hx, hb, hml, hown, hts⟩, hr, hlk⟩ := id X
  have hl : lv_has ls 2 [(0, .ref (a 24)), (1, .ref (a 12))] := hl
  unfold f_X3_copyFrom_24_12 at h
  refine lv_aload_n hx hb dX3_copyFrom_0 rfl (lv_at hl 0 rfl) ?_
  refine lv_aload_n hx hb dX3_copyFrom_1 rfl (lv_at hl 1 rfl) ?_
  refine pwG_12_1 X hK hP mF_X3_31 dX3_copyFrom_2 ?_
  obtain ⟨x1, e1, h⟩ := letv_elim h
  refine pwP_24_1 X hK hP hD hS mF_X3_31 e1 dX3_copyFrom_5 (fun H locs hP hD hS => ?_)
  refine lv_aload_n hx hb dX3_copyFrom_8 rfl (lv_at hl 0 rfl) ?_
  refine lv_aload_n hx hb dX3_copyFrom_9 rfl (lv_at hl 1 rfl) ?_
  refine pwG_12_2 X hK hP mF_X3_9 dX3_copyFrom_10 ?_
  obtain ⟨x2, e1, h⟩ := letv_elim h
  refine pwP_24_2 X hK hP hD hS mF_X3_9 e1 dX3_copyFrom_13 (fun H locs hP hD hS => ?_)
  refine lv_aload_n hx hb dX3_copyFrom_16 rfl (lv_at hl 0 rfl) ?_
  refine lv_aload_n hx hb dX3_copyFrom_17 rfl (lv_at hl 1 rfl) ?_
  refine pwG_12_3 X hK hP mF_X3_35 dX3_copyFrom_18 ?_
  obtain ⟨x3, e1, h⟩ := letv_elim h
  refine pwP_24_3 X hK hP hD hS mF_X3_35 e1 dX3_copyFrom_21 (fun H locs hP hD hS => ?_)
  refine lv_aload_n hx hb dX3_copyFrom_24 rfl (lv_at hl 0 rfl) ?_
  refine lv_aload_n hx hb dX3_copyFrom_25 rfl (lv_at hl 1 rfl) ?_
  refine pwG_12_4 X hK hP mF_X3_38 dX3_copyFrom_26 ?_
  obtain ⟨x4, e1, h⟩ := letv_elim h
  refine pwP_24_4 X hK hP hD hS mF_X3_38 e1 dX3_copyFrom_29 (fun H locs hP hD hS => ?_)
  refine lv_aload_n hx hb dX3_copyFrom_32 rfl (lv_at hl 0 rfl) ?_
  refine lv_aload_n hx hb dX3_copyFrom_33 rfl (lv_at hl 1 rfl) ?_
  refine pwG_12_5 X hK hP mF_X3_41 dX3_copyFrom_34 ?_
  obtain ⟨x5, e1, h⟩ := letv_elim h
  refine pwP_24_5 X hK hP hD hS mF_X3_41 e1 dX3_copyFrom_37 (fun H locs hP hD hS => ?_)
  refine lv_aload_n hx hb dX3_copyFrom_40 rfl (lv_at hl 0 rfl) ?_
  refine lv_aload_n hx hb dX3_copyFrom_41 rfl (lv_at hl 1 rfl) ?_
  refine pwG_12_6 X hK hP mF_X3_15 dX3_copyFrom_42 ?_
  obtain ⟨x6, e1, h⟩ := letv_elim h
  refine pwP_24_6 X hK hP hD hS mF_X3_15 e1 dX3_copyFrom_45 (fun H locs hP hD hS => ?_)
  refine lv_aload_n hx hb dX3_copyFrom_48 rfl (lv_at hl 1 rfl) ?_
  refine pwG_12_7 X hK hP mF_X3_18 dX3_copyFrom_49 ?_
  refine lv_iconst (v := 0) hx hb dX3_copyFrom_52 (by decide) ?_
  refine lv_aload_n hx hb dX3_copyFrom_53 rfl (lv_at hl 0 rfl) ?_
  refine pwG_24_7 X hK hP mF_X3_18 dX3_copyFrom_54 ?_
  refine lv_iconst (v := 0) hx hb dX3_copyFrom_57 (by decide) ?_
  refine lv_bipush (v := 20) hx hb dX3_copyFrom_58 (by decide) ?_
  obtain ⟨x7, e1, h⟩ := letv_elim h
  refine pwCp_13_25 X hK hP hD hS (hml.trans hl.1.symm) mM_X3_44 e1 (Nat.le_of_ble_eq_true rfl) (Nat.le_of_ble_eq_true rfl) dX3_copyFrom_60 (fun H locs hP hD hS => ?_)
  refine lv_aload_n hx hb dX3_copyFrom_63 rfl (lv_at hl 1 rfl) ?_
  refine pwG_12_8 X hK hP mF_X3_22 dX3_copyFrom_64 ?_
  refine lv_iconst (v := 0) hx hb dX3_copyFrom_67 (by decide) ?_
  refine lv_aload_n hx hb dX3_copyFrom_68 rfl (lv_at hl 0 rfl) ?_
  refine pwG_24_8 X hK hP mF_X3_22 dX3_copyFrom_69 ?_
  refine lv_iconst (v := 0) hx hb dX3_copyFrom_72 (by decide) ?_
  refine lv_bipush (v := 20) hx hb dX3_copyFrom_73 (by decide) ?_
  obtain ⟨x8, e1, h⟩ := letv_elim h
  refine pwCp_14_26 X hK hP hD hS (hml.trans hl.1.symm) mM_X3_44 e1 (Nat.le_of_ble_eq_true rfl) (Nat.le_of_ble_eq_true rfl) dX3_copyFrom_75 (fun H locs hP hD hS => ?_)
  refine lv_aload_n hx hb dX3_copyFrom_78 rfl (lv_at hl 1 rfl) ?_
  refine pwG_12_9 X hK hP mF_X3_25 dX3_copyFrom_79 ?_
  refine lv_iconst (v := 0) hx hb dX3_copyFrom_82 (by decide) ?_
  refine lv_aload_n hx hb dX3_copyFrom_83 rfl (lv_at hl 0 rfl) ?_
  refine pwG_24_9 X hK hP mF_X3_25 dX3_copyFrom_84 ?_
  refine lv_iconst (v := 0) hx hb dX3_copyFrom_87 (by decide) ?_
  refine lv_iconst (v := 4) hx hb dX3_copyFrom_88 (by decide) ?_
  obtain ⟨x9, e1, h⟩ := letv_elim h
  refine pwCp_15_27 X hK hP hD hS (hml.trans hl.1.symm) mM_X3_44 e1 (Nat.le_of_ble_eq_true rfl) (Nat.le_of_ble_eq_true rfl) dX3_copyFrom_89 (fun H locs hP hD hS => ?_)
  refine lv_aload_n hx hb dX3_copyFrom_92 rfl (lv_at hl 0 rfl) ?_
  refine lv_aload_n hx hb dX3_copyFrom_93 rfl (lv_at hl 1 rfl) ?_
  refine pwG_12_10 X hK hP mF_X3_50 dX3_copyFrom_94 ?_
  obtain ⟨x10, e1, h⟩ := letv_elim h
  refine pwP_24_10 X hK hP hD hS mF_X3_50 e1 dX3_copyFrom_97 (fun H locs hP hD hS => ?_)
  refine lv_aload_n hx hb dX3_copyFrom_100 rfl (lv_at hl 0 rfl) ?_
  refine lv_aload_n hx hb dX3_copyFrom_101 rfl (lv_at hl 1 rfl) ?_
  refine pwG_12_11 X hK hP mF_X3_28 dX3_copyFrom_102 ?_
  obtain ⟨x11, e1, h⟩ := letv_elim h
  refine pwP_24_11 X hK hP hD hS mF_X3_28 e1 dX3_copyFrom_105 (fun H locs hP hD hS => ?_)
  refine lv_aload_n hx hb dX3_copyFrom_108 rfl (lv_at hl 0 rfl) ?_
  refine lv_aload_n hx hb dX3_copyFrom_109 rfl (lv_at hl 1 rfl) ?_
  refine pwG_12_12 X hK hP mF_X3_53 dX3_copyFrom_110 ?_
  obtain ⟨x12, e1, h⟩ := letv_elim h
  refine pwP_24_12 X hK hP hD hS mF_X3_53 e1 dX3_copyFrom_113 (fun H locs hP hD hS => ?_)
  cases h
  exact mpr_v X hK hP hD hS dX3_copyFrom_116
def f_X5_keep_v2 (x : PD) : Option (Int32 × PD) :=
  bn1 (f_X5_slotAt_v2 x) fun _u =>
  bn1 (f_X3_copyFrom_24_12 x) fun x1 =>
  letv (wI x1 768 ((1 : Int32))) fun x2 =>
  gd (isB (rI x 768)) (some (rI x 768, x2))
set_option maxHeartbeats 4000000 in
set_option maxRecDepth 100000 in
theorem c_X5_keep_v2 (l : Launch) (D : va_G) (y : CY) (a : Nat → Nat) {x : PD} {x' : PD} {r : Int32} (h : f_X5_keep_v2 x = some (r, x')) : mpM l D y yX5_keep cX5_keep 4 (some .boolean) { frames := 2, cells := 0, slots := 0, locals := 61 } (pw y a x) (pw y a x') [.ref (a 0), .int ((2 : Int32))] (some (.int r)) := by
  refine mpM.mk (own := RX5) (by decide) rfl (Nat.le_of_ble_eq_true rfl) ?_
  intro p e s m below meth c A ls X hK hA hP hD hl
  have hS : va_S A s.heap s.heap [] := va_S.rf
  obtain ⟨⟨hx, hb, hml, hown, hts⟩, hr, hlk⟩ := id X
  have hl : lv_has ls 4 [(0, .ref (a 0)), (1, .int ((2 : Int32)))] := hl
  unfold f_X5_keep_v2 at h
  refine lv_aload_n hx hb dX5_keep_0 rfl (lv_at hl 0 rfl) ?_
  refine lv_iload_n hx hb dX5_keep_1 rfl (lv_at hl 1 rfl) ?_
  obtain ⟨u0, hr0, h⟩ := bn1_elim h
  refine mp_call1 (As := [.int ((2 : Int32))]) (rest := []) X (c_X5_slotAt_v2 l D y a hr0) (mp_cw (k := 1) hts mM_X5_216 mI_X5_slotAt mS_X5_slotAt mN_X5 mC_X5_slotAt rfl rfl (by decide +kernel) ⟨Nat.le_of_ble_eq_true rfl, Nat.le_of_ble_eq_true rfl⟩) hK hP hD hS hA 0 pwC_0 rfl rfl hl.1 rfl (Nat.le_of_ble_eq_true rfl) dX5_keep_2 ⟨Nat.zero_le _, Nat.zero_le _⟩ (fun H locs hP hD hS => ?_)
  refine lv_astore_n (lv' := [(2, .ref (a 24)), (0, .ref (a 0)), (1, .int ((2 : Int32)))]) hx hb dX5_keep_5 rfl hl (by decide) rfl (fun ls hl => ?_)
  refine lv_aload_n hx hb dX5_keep_6 rfl (lv_at hl 0 rfl) ?_
  refine pwG_24_0 X hK hP mF_X5_220 dX5_keep_7 ?_
  refine lv_istore_n (lv' := [(3, .int (rI x 768)), (2, .ref (a 24)), (0, .ref (a 0)), (1, .int ((2 : Int32)))]) hx hb dX5_keep_10 rfl hl (by decide) rfl (fun ls hl => ?_)
  refine lv_aload_n hx hb dX5_keep_11 rfl (lv_at hl 1 rfl) ?_
  refine lv_aload_n hx hb dX5_keep_12 rfl (lv_at hl 2 rfl) ?_
  refine pwG_0_1 X hK hP mF_X5_19 dX5_keep_13 ?_
  obtain ⟨x1, hr0, h⟩ := bn1_elim h
  refine mp_callv (As := [.ref (a 12)]) (rest := []) X (c_X3_copyFrom_24_12 l D y a hr0) (mp_cw (k := 1) hts mM_X5_224 mI_X3_copyFrom mS_X3_copyFrom mN_X3 mC_X3_copyFrom rfl rfl (by decide +kernel) ⟨Nat.le_of_ble_eq_true rfl, Nat.le_of_ble_eq_true rfl⟩) hK hP hD hS hA 24 pwC_24 rfl rfl hl.1 rfl (Nat.le_of_ble_eq_true rfl) dX5_keep_16 ⟨Nat.zero_le _, Nat.zero_le _⟩ (fun H locs hP hD hS => ?_)
  refine lv_aload_n hx hb dX5_keep_19 rfl (lv_at hl 1 rfl) ?_
  refine lv_iconst (v := 1) hx hb dX5_keep_20 (by decide) ?_
  obtain ⟨x2, e1, h⟩ := letv_elim h
  refine pwP_24_0 X hK hP hD hS mF_X5_220 rfl rfl e1 dX5_keep_21 (fun H locs hP hD hS => ?_)
  refine lv_iload_n hx hb dX5_keep_24 rfl (lv_at hl 0 rfl) ?_
  obtain ⟨hg, h⟩ := gd_elim h
  cases h
  exact mpr_z X hK hP hD hS (isB_nar hg) rfl dX5_keep_25
def f_X5_slotAt_v3 (x : PD) : Option (Unit) :=
  if ((3 : Int32)) < 0 then
  (none)
  else
  if ((4 : Int32)) ≤ ((3 : Int32)) then
  (none)
  else
  some ()
set_option maxHeartbeats 4000000 in
set_option maxRecDepth 100000 in
theorem c_X5_slotAt_v3 (l : Launch) (D : va_G) (y : CY) (a : Nat → Nat) {x : PD} {u' : Unit} (h : f_X5_slotAt_v3 x = some u') : mpM l D y yX5_slotAt cX5_slotAt 2 (some (.object "MoodPlayer$State")) { frames := 0, cells := 0, slots := 0, locals := 0 } (pw y a x) (pw y a x) [.ref (a 0), .int ((3 : Int32))] (some (.ref (a 28))) := by
  refine mpM.mk (own := RX5) (by decide) rfl (Nat.le_of_ble_eq_true rfl) ?_
  intro p e s m below meth c A ls X hK hA hP hD hl
  have hS : va_S A s.heap s.heap [] := va_S.rf
  obtain ⟨⟨hx, hb, hml, hown, hts⟩, hr, hlk⟩ := id X
  have hl : lv_has ls 2 [(0, .ref (a 0)), (1, .int ((3 : Int32)))] := hl
  unfold f_X5_slotAt_v3 at h
  refine lv_iload_n hx hb dX5_slotAt_0 rfl (lv_at hl 1 rfl) ?_
  refine lv_if_lt (tgt := 18) hx hb dX5_slotAt_1 (by decide) (fun hc => ?_) (fun hc => ?_)
  · replace h := ift hc h
    exact nons h
  · replace h := iff_ hc h
    refine lv_iload_n hx hb dX5_slotAt_4 rfl (lv_at hl 1 rfl) ?_
    refine lv_iconst (v := 4) hx hb dX5_slotAt_5 (by decide) ?_
    refine lv_icmp_ge (tgt := 18) hx hb dX5_slotAt_6 (by decide) (fun hc => ?_) (fun hc => ?_)
    · replace h := ift hc h
      exact nons h
    · replace h := iff_ hc h
      refine lv_aload_n hx hb dX5_slotAt_9 rfl (lv_at hl 0 rfl) ?_
      refine pwG_0_2 X hK hP mF_X5_23 dX5_slotAt_10 ?_
      refine lv_iload_n hx hb dX5_slotAt_13 rfl (lv_at hl 1 rfl) ?_
      refine pwSl_3 X hK hP dX5_slotAt_14 ?_
      refine lv_ifnonnull (tgt := 28) hx hb dX5_slotAt_15 (by decide) ?_
      refine lv_aload_n hx hb dX5_slotAt_28 rfl (lv_at hl 0 rfl) ?_
      refine pwG_0_2 X hK hP mF_X5_23 dX5_slotAt_29 ?_
      refine lv_iload_n hx hb dX5_slotAt_32 rfl (lv_at hl 1 rfl) ?_
      refine pwSl_3 X hK hP dX5_slotAt_33 ?_
      cases h
      exact mpr_a X hK hP hD hS dX5_slotAt_34
def f_X3_copyFrom_28_12 (x : PD) : Option (PD) :=
  letv (wL x 897 (rL x 385)) fun x1 =>
  letv (wI x1 898 (rI x1 386)) fun x2 =>
  letv (wI x2 899 (rI x2 387)) fun x3 =>
  letv (wI x3 900 (rI x3 388)) fun x4 =>
  letv (wL x4 901 (rL x4 389)) fun x5 =>
  letv (wI x5 902 (rI x5 390)) fun x6 =>
  letv (wA x6 29 (va_cpy (rA x6 13) (rA x6 29) 0 0 20)) fun x7 =>
  letv (wA x7 30 (va_cpy (rA x7 14) (rA x7 30) 0 0 20)) fun x8 =>
  letv (wA x8 31 (va_cpy (rA x8 15) (rA x8 31) 0 0 4)) fun x9 =>
  letv (wI x9 906 (rI x9 394)) fun x10 =>
  letv (wI x10 907 (rI x10 395)) fun x11 =>
  letv (wL x11 908 (rL x11 396)) fun x12 =>
  some x12
set_option maxHeartbeats 4000000 in
set_option maxRecDepth 100000 in
theorem c_X3_copyFrom_28_12 (l : Launch) (D : va_G) (y : CY) (a : Nat → Nat) {x : PD} {x' : PD} (h : f_X3_copyFrom_28_12 x = some x') : mpM l D y yX3_copyFrom cX3_copyFrom 2 none { frames := 1, cells := 0, slots := 0, locals := 40 } (pw y a x) (pw y a x') [.ref (a 28), .ref (a 12)] none := by
  refine mpM.mk (own := RX3) (by decide) rfl (Nat.le_of_ble_eq_true rfl) ?_
  intro p e s m below meth c A ls X hK hA hP hD hl
  have hS : va_S A s.heap s.heap [] := va_S.rf
  obtain ⟨⟨hx, hb, hml, hown, hts⟩, hr, hlk⟩ := id X
  have hl : lv_has ls 2 [(0, .ref (a 28)), (1, .ref (a 12))] := hl
  unfold f_X3_copyFrom_28_12 at h
  refine lv_aload_n hx hb dX3_copyFrom_0 rfl (lv_at hl 0 rfl) ?_
  refine lv_aload_n hx hb dX3_copyFrom_1 rfl (lv_at hl 1 rfl) ?_
  refine pwG_12_1 X hK hP mF_X3_31 dX3_copyFrom_2 ?_
  obtain ⟨x1, e1, h⟩ := letv_elim h
  refine pwP_28_1 X hK hP hD hS mF_X3_31 e1 dX3_copyFrom_5 (fun H locs hP hD hS => ?_)
  refine lv_aload_n hx hb dX3_copyFrom_8 rfl (lv_at hl 0 rfl) ?_
  refine lv_aload_n hx hb dX3_copyFrom_9 rfl (lv_at hl 1 rfl) ?_
  refine pwG_12_2 X hK hP mF_X3_9 dX3_copyFrom_10 ?_
  obtain ⟨x2, e1, h⟩ := letv_elim h
  refine pwP_28_2 X hK hP hD hS mF_X3_9 e1 dX3_copyFrom_13 (fun H locs hP hD hS => ?_)
  refine lv_aload_n hx hb dX3_copyFrom_16 rfl (lv_at hl 0 rfl) ?_
  refine lv_aload_n hx hb dX3_copyFrom_17 rfl (lv_at hl 1 rfl) ?_
  refine pwG_12_3 X hK hP mF_X3_35 dX3_copyFrom_18 ?_
  obtain ⟨x3, e1, h⟩ := letv_elim h
  refine pwP_28_3 X hK hP hD hS mF_X3_35 e1 dX3_copyFrom_21 (fun H locs hP hD hS => ?_)
  refine lv_aload_n hx hb dX3_copyFrom_24 rfl (lv_at hl 0 rfl) ?_
  refine lv_aload_n hx hb dX3_copyFrom_25 rfl (lv_at hl 1 rfl) ?_
  refine pwG_12_4 X hK hP mF_X3_38 dX3_copyFrom_26 ?_
  obtain ⟨x4, e1, h⟩ := letv_elim h
  refine pwP_28_4 X hK hP hD hS mF_X3_38 e1 dX3_copyFrom_29 (fun H locs hP hD hS => ?_)
  refine lv_aload_n hx hb dX3_copyFrom_32 rfl (lv_at hl 0 rfl) ?_
  refine lv_aload_n hx hb dX3_copyFrom_33 rfl (lv_at hl 1 rfl) ?_
  refine pwG_12_5 X hK hP mF_X3_41 dX3_copyFrom_34 ?_
  obtain ⟨x5, e1, h⟩ := letv_elim h
  refine pwP_28_5 X hK hP hD hS mF_X3_41 e1 dX3_copyFrom_37 (fun H locs hP hD hS => ?_)
  refine lv_aload_n hx hb dX3_copyFrom_40 rfl (lv_at hl 0 rfl) ?_
  refine lv_aload_n hx hb dX3_copyFrom_41 rfl (lv_at hl 1 rfl) ?_
  refine pwG_12_6 X hK hP mF_X3_15 dX3_copyFrom_42 ?_
  obtain ⟨x6, e1, h⟩ := letv_elim h
  refine pwP_28_6 X hK hP hD hS mF_X3_15 e1 dX3_copyFrom_45 (fun H locs hP hD hS => ?_)
  refine lv_aload_n hx hb dX3_copyFrom_48 rfl (lv_at hl 1 rfl) ?_
  refine pwG_12_7 X hK hP mF_X3_18 dX3_copyFrom_49 ?_
  refine lv_iconst (v := 0) hx hb dX3_copyFrom_52 (by decide) ?_
  refine lv_aload_n hx hb dX3_copyFrom_53 rfl (lv_at hl 0 rfl) ?_
  refine pwG_28_7 X hK hP mF_X3_18 dX3_copyFrom_54 ?_
  refine lv_iconst (v := 0) hx hb dX3_copyFrom_57 (by decide) ?_
  refine lv_bipush (v := 20) hx hb dX3_copyFrom_58 (by decide) ?_
  obtain ⟨x7, e1, h⟩ := letv_elim h
  refine pwCp_13_29 X hK hP hD hS (hml.trans hl.1.symm) mM_X3_44 e1 (Nat.le_of_ble_eq_true rfl) (Nat.le_of_ble_eq_true rfl) dX3_copyFrom_60 (fun H locs hP hD hS => ?_)
  refine lv_aload_n hx hb dX3_copyFrom_63 rfl (lv_at hl 1 rfl) ?_
  refine pwG_12_8 X hK hP mF_X3_22 dX3_copyFrom_64 ?_
  refine lv_iconst (v := 0) hx hb dX3_copyFrom_67 (by decide) ?_
  refine lv_aload_n hx hb dX3_copyFrom_68 rfl (lv_at hl 0 rfl) ?_
  refine pwG_28_8 X hK hP mF_X3_22 dX3_copyFrom_69 ?_
  refine lv_iconst (v := 0) hx hb dX3_copyFrom_72 (by decide) ?_
  refine lv_bipush (v := 20) hx hb dX3_copyFrom_73 (by decide) ?_
  obtain ⟨x8, e1, h⟩ := letv_elim h
  refine pwCp_14_30 X hK hP hD hS (hml.trans hl.1.symm) mM_X3_44 e1 (Nat.le_of_ble_eq_true rfl) (Nat.le_of_ble_eq_true rfl) dX3_copyFrom_75 (fun H locs hP hD hS => ?_)
  refine lv_aload_n hx hb dX3_copyFrom_78 rfl (lv_at hl 1 rfl) ?_
  refine pwG_12_9 X hK hP mF_X3_25 dX3_copyFrom_79 ?_
  refine lv_iconst (v := 0) hx hb dX3_copyFrom_82 (by decide) ?_
  refine lv_aload_n hx hb dX3_copyFrom_83 rfl (lv_at hl 0 rfl) ?_
  refine pwG_28_9 X hK hP mF_X3_25 dX3_copyFrom_84 ?_
  refine lv_iconst (v := 0) hx hb dX3_copyFrom_87 (by decide) ?_
  refine lv_iconst (v := 4) hx hb dX3_copyFrom_88 (by decide) ?_
  obtain ⟨x9, e1, h⟩ := letv_elim h
  refine pwCp_15_31 X hK hP hD hS (hml.trans hl.1.symm) mM_X3_44 e1 (Nat.le_of_ble_eq_true rfl) (Nat.le_of_ble_eq_true rfl) dX3_copyFrom_89 (fun H locs hP hD hS => ?_)
  refine lv_aload_n hx hb dX3_copyFrom_92 rfl (lv_at hl 0 rfl) ?_
  refine lv_aload_n hx hb dX3_copyFrom_93 rfl (lv_at hl 1 rfl) ?_
  refine pwG_12_10 X hK hP mF_X3_50 dX3_copyFrom_94 ?_
  obtain ⟨x10, e1, h⟩ := letv_elim h
  refine pwP_28_10 X hK hP hD hS mF_X3_50 e1 dX3_copyFrom_97 (fun H locs hP hD hS => ?_)
  refine lv_aload_n hx hb dX3_copyFrom_100 rfl (lv_at hl 0 rfl) ?_
  refine lv_aload_n hx hb dX3_copyFrom_101 rfl (lv_at hl 1 rfl) ?_
  refine pwG_12_11 X hK hP mF_X3_28 dX3_copyFrom_102 ?_
  obtain ⟨x11, e1, h⟩ := letv_elim h
  refine pwP_28_11 X hK hP hD hS mF_X3_28 e1 dX3_copyFrom_105 (fun H locs hP hD hS => ?_)
  refine lv_aload_n hx hb dX3_copyFrom_108 rfl (lv_at hl 0 rfl) ?_
  refine lv_aload_n hx hb dX3_copyFrom_109 rfl (lv_at hl 1 rfl) ?_
  refine pwG_12_12 X hK hP mF_X3_53 dX3_copyFrom_110 ?_
  obtain ⟨x12, e1, h⟩ := letv_elim h
  refine pwP_28_12 X hK hP hD hS mF_X3_53 e1 dX3_copyFrom_113 (fun H locs hP hD hS => ?_)
  cases h
  exact mpr_v X hK hP hD hS dX3_copyFrom_116
def f_X5_keep_v3 (x : PD) : Option (Int32 × PD) :=
  bn1 (f_X5_slotAt_v3 x) fun _u =>
  bn1 (f_X3_copyFrom_28_12 x) fun x1 =>
  letv (wI x1 896 ((1 : Int32))) fun x2 =>
  gd (isB (rI x 896)) (some (rI x 896, x2))
set_option maxHeartbeats 4000000 in
set_option maxRecDepth 100000 in
theorem c_X5_keep_v3 (l : Launch) (D : va_G) (y : CY) (a : Nat → Nat) {x : PD} {x' : PD} {r : Int32} (h : f_X5_keep_v3 x = some (r, x')) : mpM l D y yX5_keep cX5_keep 4 (some .boolean) { frames := 2, cells := 0, slots := 0, locals := 61 } (pw y a x) (pw y a x') [.ref (a 0), .int ((3 : Int32))] (some (.int r)) := by
  refine mpM.mk (own := RX5) (by decide) rfl (Nat.le_of_ble_eq_true rfl) ?_
  intro p e s m below meth c A ls X hK hA hP hD hl
  have hS : va_S A s.heap s.heap [] := va_S.rf
  obtain ⟨⟨hx, hb, hml, hown, hts⟩, hr, hlk⟩ := id X
  have hl : lv_has ls 4 [(0, .ref (a 0)), (1, .int ((3 : Int32)))] := hl
  unfold f_X5_keep_v3 at h
  refine lv_aload_n hx hb dX5_keep_0 rfl (lv_at hl 0 rfl) ?_
  refine lv_iload_n hx hb dX5_keep_1 rfl (lv_at hl 1 rfl) ?_
  obtain ⟨u0, hr0, h⟩ := bn1_elim h
  refine mp_call1 (As := [.int ((3 : Int32))]) (rest := []) X (c_X5_slotAt_v3 l D y a hr0) (mp_cw (k := 1) hts mM_X5_216 mI_X5_slotAt mS_X5_slotAt mN_X5 mC_X5_slotAt rfl rfl (by decide +kernel) ⟨Nat.le_of_ble_eq_true rfl, Nat.le_of_ble_eq_true rfl⟩) hK hP hD hS hA 0 pwC_0 rfl rfl hl.1 rfl (Nat.le_of_ble_eq_true rfl) dX5_keep_2 ⟨Nat.zero_le _, Nat.zero_le _⟩ (fun H locs hP hD hS => ?_)
  refine lv_astore_n (lv' := [(2, .ref (a 28)), (0, .ref (a 0)), (1, .int ((3 : Int32)))]) hx hb dX5_keep_5 rfl hl (by decide) rfl (fun ls hl => ?_)
  refine lv_aload_n hx hb dX5_keep_6 rfl (lv_at hl 0 rfl) ?_
  refine pwG_28_0 X hK hP mF_X5_220 dX5_keep_7 ?_
  refine lv_istore_n (lv' := [(3, .int (rI x 896)), (2, .ref (a 28)), (0, .ref (a 0)), (1, .int ((3 : Int32)))]) hx hb dX5_keep_10 rfl hl (by decide) rfl (fun ls hl => ?_)
  refine lv_aload_n hx hb dX5_keep_11 rfl (lv_at hl 1 rfl) ?_
  refine lv_aload_n hx hb dX5_keep_12 rfl (lv_at hl 2 rfl) ?_
  refine pwG_0_1 X hK hP mF_X5_19 dX5_keep_13 ?_
  obtain ⟨x1, hr0, h⟩ := bn1_elim h
  refine mp_callv (As := [.ref (a 12)]) (rest := []) X (c_X3_copyFrom_28_12 l D y a hr0) (mp_cw (k := 1) hts mM_X5_224 mI_X3_copyFrom mS_X3_copyFrom mN_X3 mC_X3_copyFrom rfl rfl (by decide +kernel) ⟨Nat.le_of_ble_eq_true rfl, Nat.le_of_ble_eq_true rfl⟩) hK hP hD hS hA 28 pwC_28 rfl rfl hl.1 rfl (Nat.le_of_ble_eq_true rfl) dX5_keep_16 ⟨Nat.zero_le _, Nat.zero_le _⟩ (fun H locs hP hD hS => ?_)
  refine lv_aload_n hx hb dX5_keep_19 rfl (lv_at hl 1 rfl) ?_
  refine lv_iconst (v := 1) hx hb dX5_keep_20 (by decide) ?_
  obtain ⟨x2, e1, h⟩ := letv_elim h
  refine pwP_28_0 X hK hP hD hS mF_X5_220 rfl rfl e1 dX5_keep_21 (fun H locs hP hD hS => ?_)
  refine lv_iload_n hx hb dX5_keep_24 rfl (lv_at hl 0 rfl) ?_
  obtain ⟨hg, h⟩ := gd_elim h
  cases h
  exact mpr_z X hK hP hD hS (isB_nar hg) rfl dX5_keep_25
def f_X3_copyFrom_12_16 (x : PD) : Option (PD) :=
  letv (wL x 385 (rL x 513)) fun x1 =>
  letv (wI x1 386 (rI x1 514)) fun x2 =>
  letv (wI x2 387 (rI x2 515)) fun x3 =>
  letv (wI x3 388 (rI x3 516)) fun x4 =>
  letv (wL x4 389 (rL x4 517)) fun x5 =>
  letv (wI x5 390 (rI x5 518)) fun x6 =>
  letv (wA x6 13 (va_cpy (rA x6 17) (rA x6 13) 0 0 20)) fun x7 =>
  letv (wA x7 14 (va_cpy (rA x7 18) (rA x7 14) 0 0 20)) fun x8 =>
  letv (wA x8 15 (va_cpy (rA x8 19) (rA x8 15) 0 0 4)) fun x9 =>
  letv (wI x9 394 (rI x9 522)) fun x10 =>
  letv (wI x10 395 (rI x10 523)) fun x11 =>
  letv (wL x11 396 (rL x11 524)) fun x12 =>
  some x12
set_option maxHeartbeats 4000000 in
set_option maxRecDepth 100000 in
theorem c_X3_copyFrom_12_16 (l : Launch) (D : va_G) (y : CY) (a : Nat → Nat) {x : PD} {x' : PD} (h : f_X3_copyFrom_12_16 x = some x') : mpM l D y yX3_copyFrom cX3_copyFrom 2 none { frames := 1, cells := 0, slots := 0, locals := 40 } (pw y a x) (pw y a x') [.ref (a 12), .ref (a 16)] none := by
  refine mpM.mk (own := RX3) (by decide) rfl (Nat.le_of_ble_eq_true rfl) ?_
  intro p e s m below meth c A ls X hK hA hP hD hl
  have hS : va_S A s.heap s.heap [] := va_S.rf
  obtain ⟨⟨hx, hb, hml, hown, hts⟩, hr, hlk⟩ := id X
  have hl : lv_has ls 2 [(0, .ref (a 12)), (1, .ref (a 16))] := hl
  unfold f_X3_copyFrom_12_16 at h
  refine lv_aload_n hx hb dX3_copyFrom_0 rfl (lv_at hl 0 rfl) ?_
  refine lv_aload_n hx hb dX3_copyFrom_1 rfl (lv_at hl 1 rfl) ?_
  refine pwG_16_1 X hK hP mF_X3_31 dX3_copyFrom_2 ?_
  obtain ⟨x1, e1, h⟩ := letv_elim h
  refine pwP_12_1 X hK hP hD hS mF_X3_31 e1 dX3_copyFrom_5 (fun H locs hP hD hS => ?_)
  refine lv_aload_n hx hb dX3_copyFrom_8 rfl (lv_at hl 0 rfl) ?_
  refine lv_aload_n hx hb dX3_copyFrom_9 rfl (lv_at hl 1 rfl) ?_
  refine pwG_16_2 X hK hP mF_X3_9 dX3_copyFrom_10 ?_
  obtain ⟨x2, e1, h⟩ := letv_elim h
  refine pwP_12_2 X hK hP hD hS mF_X3_9 e1 dX3_copyFrom_13 (fun H locs hP hD hS => ?_)
  refine lv_aload_n hx hb dX3_copyFrom_16 rfl (lv_at hl 0 rfl) ?_
  refine lv_aload_n hx hb dX3_copyFrom_17 rfl (lv_at hl 1 rfl) ?_
  refine pwG_16_3 X hK hP mF_X3_35 dX3_copyFrom_18 ?_
  obtain ⟨x3, e1, h⟩ := letv_elim h
  refine pwP_12_3 X hK hP hD hS mF_X3_35 e1 dX3_copyFrom_21 (fun H locs hP hD hS => ?_)
  refine lv_aload_n hx hb dX3_copyFrom_24 rfl (lv_at hl 0 rfl) ?_
  refine lv_aload_n hx hb dX3_copyFrom_25 rfl (lv_at hl 1 rfl) ?_
  refine pwG_16_4 X hK hP mF_X3_38 dX3_copyFrom_26 ?_
  obtain ⟨x4, e1, h⟩ := letv_elim h
  refine pwP_12_4 X hK hP hD hS mF_X3_38 e1 dX3_copyFrom_29 (fun H locs hP hD hS => ?_)
  refine lv_aload_n hx hb dX3_copyFrom_32 rfl (lv_at hl 0 rfl) ?_
  refine lv_aload_n hx hb dX3_copyFrom_33 rfl (lv_at hl 1 rfl) ?_
  refine pwG_16_5 X hK hP mF_X3_41 dX3_copyFrom_34 ?_
  obtain ⟨x5, e1, h⟩ := letv_elim h
  refine pwP_12_5 X hK hP hD hS mF_X3_41 e1 dX3_copyFrom_37 (fun H locs hP hD hS => ?_)
  refine lv_aload_n hx hb dX3_copyFrom_40 rfl (lv_at hl 0 rfl) ?_
  refine lv_aload_n hx hb dX3_copyFrom_41 rfl (lv_at hl 1 rfl) ?_
  refine pwG_16_6 X hK hP mF_X3_15 dX3_copyFrom_42 ?_
  obtain ⟨x6, e1, h⟩ := letv_elim h
  refine pwP_12_6 X hK hP hD hS mF_X3_15 e1 dX3_copyFrom_45 (fun H locs hP hD hS => ?_)
  refine lv_aload_n hx hb dX3_copyFrom_48 rfl (lv_at hl 1 rfl) ?_
  refine pwG_16_7 X hK hP mF_X3_18 dX3_copyFrom_49 ?_
  refine lv_iconst (v := 0) hx hb dX3_copyFrom_52 (by decide) ?_
  refine lv_aload_n hx hb dX3_copyFrom_53 rfl (lv_at hl 0 rfl) ?_
  refine pwG_12_7 X hK hP mF_X3_18 dX3_copyFrom_54 ?_
  refine lv_iconst (v := 0) hx hb dX3_copyFrom_57 (by decide) ?_
  refine lv_bipush (v := 20) hx hb dX3_copyFrom_58 (by decide) ?_
  obtain ⟨x7, e1, h⟩ := letv_elim h
  refine pwCp_17_13 X hK hP hD hS (hml.trans hl.1.symm) mM_X3_44 e1 (Nat.le_of_ble_eq_true rfl) (Nat.le_of_ble_eq_true rfl) dX3_copyFrom_60 (fun H locs hP hD hS => ?_)
  refine lv_aload_n hx hb dX3_copyFrom_63 rfl (lv_at hl 1 rfl) ?_
  refine pwG_16_8 X hK hP mF_X3_22 dX3_copyFrom_64 ?_
  refine lv_iconst (v := 0) hx hb dX3_copyFrom_67 (by decide) ?_
  refine lv_aload_n hx hb dX3_copyFrom_68 rfl (lv_at hl 0 rfl) ?_
  refine pwG_12_8 X hK hP mF_X3_22 dX3_copyFrom_69 ?_
  refine lv_iconst (v := 0) hx hb dX3_copyFrom_72 (by decide) ?_
  refine lv_bipush (v := 20) hx hb dX3_copyFrom_73 (by decide) ?_
  obtain ⟨x8, e1, h⟩ := letv_elim h
  refine pwCp_18_14 X hK hP hD hS (hml.trans hl.1.symm) mM_X3_44 e1 (Nat.le_of_ble_eq_true rfl) (Nat.le_of_ble_eq_true rfl) dX3_copyFrom_75 (fun H locs hP hD hS => ?_)
  refine lv_aload_n hx hb dX3_copyFrom_78 rfl (lv_at hl 1 rfl) ?_
  refine pwG_16_9 X hK hP mF_X3_25 dX3_copyFrom_79 ?_
  refine lv_iconst (v := 0) hx hb dX3_copyFrom_82 (by decide) ?_
  refine lv_aload_n hx hb dX3_copyFrom_83 rfl (lv_at hl 0 rfl) ?_
  refine pwG_12_9 X hK hP mF_X3_25 dX3_copyFrom_84 ?_
  refine lv_iconst (v := 0) hx hb dX3_copyFrom_87 (by decide) ?_
  refine lv_iconst (v := 4) hx hb dX3_copyFrom_88 (by decide) ?_
  obtain ⟨x9, e1, h⟩ := letv_elim h
  refine pwCp_19_15 X hK hP hD hS (hml.trans hl.1.symm) mM_X3_44 e1 (Nat.le_of_ble_eq_true rfl) (Nat.le_of_ble_eq_true rfl) dX3_copyFrom_89 (fun H locs hP hD hS => ?_)
  refine lv_aload_n hx hb dX3_copyFrom_92 rfl (lv_at hl 0 rfl) ?_
  refine lv_aload_n hx hb dX3_copyFrom_93 rfl (lv_at hl 1 rfl) ?_
  refine pwG_16_10 X hK hP mF_X3_50 dX3_copyFrom_94 ?_
  obtain ⟨x10, e1, h⟩ := letv_elim h
  refine pwP_12_10 X hK hP hD hS mF_X3_50 e1 dX3_copyFrom_97 (fun H locs hP hD hS => ?_)
  refine lv_aload_n hx hb dX3_copyFrom_100 rfl (lv_at hl 0 rfl) ?_
  refine lv_aload_n hx hb dX3_copyFrom_101 rfl (lv_at hl 1 rfl) ?_
  refine pwG_16_11 X hK hP mF_X3_28 dX3_copyFrom_102 ?_
  obtain ⟨x11, e1, h⟩ := letv_elim h
  refine pwP_12_11 X hK hP hD hS mF_X3_28 e1 dX3_copyFrom_105 (fun H locs hP hD hS => ?_)
  refine lv_aload_n hx hb dX3_copyFrom_108 rfl (lv_at hl 0 rfl) ?_
  refine lv_aload_n hx hb dX3_copyFrom_109 rfl (lv_at hl 1 rfl) ?_
  refine pwG_16_12 X hK hP mF_X3_53 dX3_copyFrom_110 ?_
  obtain ⟨x12, e1, h⟩ := letv_elim h
  refine pwP_12_12 X hK hP hD hS mF_X3_53 e1 dX3_copyFrom_113 (fun H locs hP hD hS => ?_)
  cases h
  exact mpr_v X hK hP hD hS dX3_copyFrom_116
def f_X5_goOn_v0 (x : PD) : Option (Int32 × PD) :=
  bn1 (f_X5_slotAt_v0 x) fun _u =>
  if (rI x 512) = 0 then
  some ((0 : Int32), x)
  else
  bn1 (f_X3_copyFrom_12_16 x) fun x1 =>
  bn1 (f_X1_findWay x1) fun x2 =>
  some ((1 : Int32), x2)
set_option maxHeartbeats 4000000 in
set_option maxRecDepth 100000 in
theorem c_X5_goOn_v0 (l : Launch) (D : va_G) (y : CY) (a : Nat → Nat) {x : PD} {x' : PD} {r : Int32} (h : f_X5_goOn_v0 x = some (r, x')) : mpM l D y yX5_goOn cX5_goOn 3 (some .boolean) { frames := 4, cells := 0, slots := 0, locals := 101 } (pw y a x) (pw y a x') [.ref (a 0), .int ((0 : Int32))] (some (.int r)) := by
  refine mpM.mk (own := RX5) (by decide) rfl (Nat.le_of_ble_eq_true rfl) ?_
  intro p e s m below meth c A ls X hK hA hP hD hl
  have hS : va_S A s.heap s.heap [] := va_S.rf
  obtain ⟨⟨hx, hb, hml, hown, hts⟩, hr, hlk⟩ := id X
  have hl : lv_has ls 3 [(0, .ref (a 0)), (1, .int ((0 : Int32)))] := hl
  unfold f_X5_goOn_v0 at h
  refine lv_aload_n hx hb dX5_goOn_0 rfl (lv_at hl 0 rfl) ?_
  refine lv_iload_n hx hb dX5_goOn_1 rfl (lv_at hl 1 rfl) ?_
  obtain ⟨u0, hr0, h⟩ := bn1_elim h
  refine mp_call1 (As := [.int ((0 : Int32))]) (rest := []) X (c_X5_slotAt_v0 l D y a hr0) (mp_cw (k := 1) hts mM_X5_216 mI_X5_slotAt mS_X5_slotAt mN_X5 mC_X5_slotAt rfl rfl (by decide +kernel) ⟨Nat.le_of_ble_eq_true rfl, Nat.le_of_ble_eq_true rfl⟩) hK hP hD hS hA 0 pwC_0 rfl rfl hl.1 rfl (Nat.le_of_ble_eq_true rfl) dX5_goOn_2 ⟨Nat.zero_le _, Nat.zero_le _⟩ (fun H locs hP hD hS => ?_)
  refine lv_astore_n (lv' := [(2, .ref (a 16)), (0, .ref (a 0)), (1, .int ((0 : Int32)))]) hx hb dX5_goOn_5 rfl hl (by decide) rfl (fun ls hl => ?_)
  refine lv_aload_n hx hb dX5_goOn_6 rfl (lv_at hl 0 rfl) ?_
  refine pwG_16_0 X hK hP mF_X5_220 dX5_goOn_7 ?_
  refine lv_if_ne (tgt := 15) hx hb dX5_goOn_10 (by decide) (fun hc => ?_) (fun hc => ?_)
  · replace h := iff_ hc h
    refine lv_aload_n hx hb dX5_goOn_15 rfl (lv_at hl 1 rfl) ?_
    refine pwG_0_1 X hK hP mF_X5_19 dX5_goOn_16 ?_
    refine lv_aload_n hx hb dX5_goOn_19 rfl (lv_at hl 0 rfl) ?_
    obtain ⟨x1, hr0, h⟩ := bn1_elim h
    refine mp_callv (As := [.ref (a 16)]) (rest := []) X (c_X3_copyFrom_12_16 l D y a hr0) (mp_cw (k := 1) hts mM_X5_224 mI_X3_copyFrom mS_X3_copyFrom mN_X3 mC_X3_copyFrom rfl rfl (by decide +kernel) ⟨Nat.le_of_ble_eq_true rfl, Nat.le_of_ble_eq_true rfl⟩) hK hP hD hS hA 12 pwC_12 rfl rfl hl.1 rfl (Nat.le_of_ble_eq_true rfl) dX5_goOn_20 ⟨Nat.zero_le _, Nat.zero_le _⟩ (fun H locs hP hD hS => ?_)
    refine lv_aload_n hx hb dX5_goOn_23 rfl (lv_at hl 1 rfl) ?_
    refine pwG_0_5 X hK hP mF_X5_48 dX5_goOn_24 ?_
    obtain ⟨x2, hr0, h⟩ := bn1_elim h
    refine mp_callv (As := []) (rest := []) X (c_X1_findWay l D y a hr0) (mp_cw (k := 0) hts mM_X5_89 mI_X1_findWay mS_X1_findWay mN_X1 mC_X1_findWay rfl rfl (by decide +kernel) ⟨Nat.le_of_ble_eq_true rfl, Nat.le_of_ble_eq_true rfl⟩) hK hP hD hS hA 40 pwC_40 rfl rfl hl.1 rfl (Nat.le_of_ble_eq_true rfl) dX5_goOn_27 ⟨Nat.zero_le _, Nat.zero_le _⟩ (fun H locs hP hD hS => ?_)
    refine lv_iconst (v := 1) hx hb dX5_goOn_30 (by decide) ?_
    cases h
    exact mpr_z X hK hP hD hS rfl rfl dX5_goOn_31
  · replace h := ift hc h
    refine lv_iconst (v := 0) hx hb dX5_goOn_13 (by decide) ?_
    cases h
    exact mpr_z X hK hP hD hS rfl rfl dX5_goOn_14
def f_X3_copyFrom_12_20 (x : PD) : Option (PD) :=
  letv (wL x 385 (rL x 641)) fun x1 =>
  letv (wI x1 386 (rI x1 642)) fun x2 =>
  letv (wI x2 387 (rI x2 643)) fun x3 =>
  letv (wI x3 388 (rI x3 644)) fun x4 =>
  letv (wL x4 389 (rL x4 645)) fun x5 =>
  letv (wI x5 390 (rI x5 646)) fun x6 =>
  letv (wA x6 13 (va_cpy (rA x6 21) (rA x6 13) 0 0 20)) fun x7 =>
  letv (wA x7 14 (va_cpy (rA x7 22) (rA x7 14) 0 0 20)) fun x8 =>
  letv (wA x8 15 (va_cpy (rA x8 23) (rA x8 15) 0 0 4)) fun x9 =>
  letv (wI x9 394 (rI x9 650)) fun x10 =>
  letv (wI x10 395 (rI x10 651)) fun x11 =>
  letv (wL x11 396 (rL x11 652)) fun x12 =>
  some x12
set_option maxHeartbeats 4000000 in
set_option maxRecDepth 100000 in
theorem c_X3_copyFrom_12_20 (l : Launch) (D : va_G) (y : CY) (a : Nat → Nat) {x : PD} {x' : PD} (h : f_X3_copyFrom_12_20 x = some x') : mpM l D y yX3_copyFrom cX3_copyFrom 2 none { frames := 1, cells := 0, slots := 0, locals := 40 } (pw y a x) (pw y a x') [.ref (a 12), .ref (a 20)] none := by
  refine mpM.mk (own := RX3) (by decide) rfl (Nat.le_of_ble_eq_true rfl) ?_
  intro p e s m below meth c A ls X hK hA hP hD hl
  have hS : va_S A s.heap s.heap [] := va_S.rf
  obtain ⟨⟨hx, hb, hml, hown, hts⟩, hr, hlk⟩ := id X
  have hl : lv_has ls 2 [(0, .ref (a 12)), (1, .ref (a 20))] := hl
  unfold f_X3_copyFrom_12_20 at h
  refine lv_aload_n hx hb dX3_copyFrom_0 rfl (lv_at hl 0 rfl) ?_
  refine lv_aload_n hx hb dX3_copyFrom_1 rfl (lv_at hl 1 rfl) ?_
  refine pwG_20_1 X hK hP mF_X3_31 dX3_copyFrom_2 ?_
  obtain ⟨x1, e1, h⟩ := letv_elim h
  refine pwP_12_1 X hK hP hD hS mF_X3_31 e1 dX3_copyFrom_5 (fun H locs hP hD hS => ?_)
  refine lv_aload_n hx hb dX3_copyFrom_8 rfl (lv_at hl 0 rfl) ?_
  refine lv_aload_n hx hb dX3_copyFrom_9 rfl (lv_at hl 1 rfl) ?_
  refine pwG_20_2 X hK hP mF_X3_9 dX3_copyFrom_10 ?_
  obtain ⟨x2, e1, h⟩ := letv_elim h
  refine pwP_12_2 X hK hP hD hS mF_X3_9 e1 dX3_copyFrom_13 (fun H locs hP hD hS => ?_)
  refine lv_aload_n hx hb dX3_copyFrom_16 rfl (lv_at hl 0 rfl) ?_
  refine lv_aload_n hx hb dX3_copyFrom_17 rfl (lv_at hl 1 rfl) ?_
  refine pwG_20_3 X hK hP mF_X3_35 dX3_copyFrom_18 ?_
  obtain ⟨x3, e1, h⟩ := letv_elim h
  refine pwP_12_3 X hK hP hD hS mF_X3_35 e1 dX3_copyFrom_21 (fun H locs hP hD hS => ?_)
  refine lv_aload_n hx hb dX3_copyFrom_24 rfl (lv_at hl 0 rfl) ?_
  refine lv_aload_n hx hb dX3_copyFrom_25 rfl (lv_at hl 1 rfl) ?_
  refine pwG_20_4 X hK hP mF_X3_38 dX3_copyFrom_26 ?_
  obtain ⟨x4, e1, h⟩ := letv_elim h
  refine pwP_12_4 X hK hP hD hS mF_X3_38 e1 dX3_copyFrom_29 (fun H locs hP hD hS => ?_)
  refine lv_aload_n hx hb dX3_copyFrom_32 rfl (lv_at hl 0 rfl) ?_
  refine lv_aload_n hx hb dX3_copyFrom_33 rfl (lv_at hl 1 rfl) ?_
  refine pwG_20_5 X hK hP mF_X3_41 dX3_copyFrom_34 ?_
  obtain ⟨x5, e1, h⟩ := letv_elim h
  refine pwP_12_5 X hK hP hD hS mF_X3_41 e1 dX3_copyFrom_37 (fun H locs hP hD hS => ?_)
  refine lv_aload_n hx hb dX3_copyFrom_40 rfl (lv_at hl 0 rfl) ?_
  refine lv_aload_n hx hb dX3_copyFrom_41 rfl (lv_at hl 1 rfl) ?_
  refine pwG_20_6 X hK hP mF_X3_15 dX3_copyFrom_42 ?_
  obtain ⟨x6, e1, h⟩ := letv_elim h
  refine pwP_12_6 X hK hP hD hS mF_X3_15 e1 dX3_copyFrom_45 (fun H locs hP hD hS => ?_)
  refine lv_aload_n hx hb dX3_copyFrom_48 rfl (lv_at hl 1 rfl) ?_
  refine pwG_20_7 X hK hP mF_X3_18 dX3_copyFrom_49 ?_
  refine lv_iconst (v := 0) hx hb dX3_copyFrom_52 (by decide) ?_
  refine lv_aload_n hx hb dX3_copyFrom_53 rfl (lv_at hl 0 rfl) ?_
  refine pwG_12_7 X hK hP mF_X3_18 dX3_copyFrom_54 ?_
  refine lv_iconst (v := 0) hx hb dX3_copyFrom_57 (by decide) ?_
  refine lv_bipush (v := 20) hx hb dX3_copyFrom_58 (by decide) ?_
  obtain ⟨x7, e1, h⟩ := letv_elim h
  refine pwCp_21_13 X hK hP hD hS (hml.trans hl.1.symm) mM_X3_44 e1 (Nat.le_of_ble_eq_true rfl) (Nat.le_of_ble_eq_true rfl) dX3_copyFrom_60 (fun H locs hP hD hS => ?_)
  refine lv_aload_n hx hb dX3_copyFrom_63 rfl (lv_at hl 1 rfl) ?_
  refine pwG_20_8 X hK hP mF_X3_22 dX3_copyFrom_64 ?_
  refine lv_iconst (v := 0) hx hb dX3_copyFrom_67 (by decide) ?_
  refine lv_aload_n hx hb dX3_copyFrom_68 rfl (lv_at hl 0 rfl) ?_
  refine pwG_12_8 X hK hP mF_X3_22 dX3_copyFrom_69 ?_
  refine lv_iconst (v := 0) hx hb dX3_copyFrom_72 (by decide) ?_
  refine lv_bipush (v := 20) hx hb dX3_copyFrom_73 (by decide) ?_
  obtain ⟨x8, e1, h⟩ := letv_elim h
  refine pwCp_22_14 X hK hP hD hS (hml.trans hl.1.symm) mM_X3_44 e1 (Nat.le_of_ble_eq_true rfl) (Nat.le_of_ble_eq_true rfl) dX3_copyFrom_75 (fun H locs hP hD hS => ?_)
  refine lv_aload_n hx hb dX3_copyFrom_78 rfl (lv_at hl 1 rfl) ?_
  refine pwG_20_9 X hK hP mF_X3_25 dX3_copyFrom_79 ?_
  refine lv_iconst (v := 0) hx hb dX3_copyFrom_82 (by decide) ?_
  refine lv_aload_n hx hb dX3_copyFrom_83 rfl (lv_at hl 0 rfl) ?_
  refine pwG_12_9 X hK hP mF_X3_25 dX3_copyFrom_84 ?_
  refine lv_iconst (v := 0) hx hb dX3_copyFrom_87 (by decide) ?_
  refine lv_iconst (v := 4) hx hb dX3_copyFrom_88 (by decide) ?_
  obtain ⟨x9, e1, h⟩ := letv_elim h
  refine pwCp_23_15 X hK hP hD hS (hml.trans hl.1.symm) mM_X3_44 e1 (Nat.le_of_ble_eq_true rfl) (Nat.le_of_ble_eq_true rfl) dX3_copyFrom_89 (fun H locs hP hD hS => ?_)
  refine lv_aload_n hx hb dX3_copyFrom_92 rfl (lv_at hl 0 rfl) ?_
  refine lv_aload_n hx hb dX3_copyFrom_93 rfl (lv_at hl 1 rfl) ?_
  refine pwG_20_10 X hK hP mF_X3_50 dX3_copyFrom_94 ?_
  obtain ⟨x10, e1, h⟩ := letv_elim h
  refine pwP_12_10 X hK hP hD hS mF_X3_50 e1 dX3_copyFrom_97 (fun H locs hP hD hS => ?_)
  refine lv_aload_n hx hb dX3_copyFrom_100 rfl (lv_at hl 0 rfl) ?_
  refine lv_aload_n hx hb dX3_copyFrom_101 rfl (lv_at hl 1 rfl) ?_
  refine pwG_20_11 X hK hP mF_X3_28 dX3_copyFrom_102 ?_
  obtain ⟨x11, e1, h⟩ := letv_elim h
  refine pwP_12_11 X hK hP hD hS mF_X3_28 e1 dX3_copyFrom_105 (fun H locs hP hD hS => ?_)
  refine lv_aload_n hx hb dX3_copyFrom_108 rfl (lv_at hl 0 rfl) ?_
  refine lv_aload_n hx hb dX3_copyFrom_109 rfl (lv_at hl 1 rfl) ?_
  refine pwG_20_12 X hK hP mF_X3_53 dX3_copyFrom_110 ?_
  obtain ⟨x12, e1, h⟩ := letv_elim h
  refine pwP_12_12 X hK hP hD hS mF_X3_53 e1 dX3_copyFrom_113 (fun H locs hP hD hS => ?_)
  cases h
  exact mpr_v X hK hP hD hS dX3_copyFrom_116
def f_X5_goOn_v1 (x : PD) : Option (Int32 × PD) :=
  bn1 (f_X5_slotAt_v1 x) fun _u =>
  if (rI x 640) = 0 then
  some ((0 : Int32), x)
  else
  bn1 (f_X3_copyFrom_12_20 x) fun x1 =>
  bn1 (f_X1_findWay x1) fun x2 =>
  some ((1 : Int32), x2)
set_option maxHeartbeats 4000000 in
set_option maxRecDepth 100000 in
theorem c_X5_goOn_v1 (l : Launch) (D : va_G) (y : CY) (a : Nat → Nat) {x : PD} {x' : PD} {r : Int32} (h : f_X5_goOn_v1 x = some (r, x')) : mpM l D y yX5_goOn cX5_goOn 3 (some .boolean) { frames := 4, cells := 0, slots := 0, locals := 101 } (pw y a x) (pw y a x') [.ref (a 0), .int ((1 : Int32))] (some (.int r)) := by
  refine mpM.mk (own := RX5) (by decide) rfl (Nat.le_of_ble_eq_true rfl) ?_
  intro p e s m below meth c A ls X hK hA hP hD hl
  have hS : va_S A s.heap s.heap [] := va_S.rf
  obtain ⟨⟨hx, hb, hml, hown, hts⟩, hr, hlk⟩ := id X
  have hl : lv_has ls 3 [(0, .ref (a 0)), (1, .int ((1 : Int32)))] := hl
  unfold f_X5_goOn_v1 at h
  refine lv_aload_n hx hb dX5_goOn_0 rfl (lv_at hl 0 rfl) ?_
  refine lv_iload_n hx hb dX5_goOn_1 rfl (lv_at hl 1 rfl) ?_
  obtain ⟨u0, hr0, h⟩ := bn1_elim h
  refine mp_call1 (As := [.int ((1 : Int32))]) (rest := []) X (c_X5_slotAt_v1 l D y a hr0) (mp_cw (k := 1) hts mM_X5_216 mI_X5_slotAt mS_X5_slotAt mN_X5 mC_X5_slotAt rfl rfl (by decide +kernel) ⟨Nat.le_of_ble_eq_true rfl, Nat.le_of_ble_eq_true rfl⟩) hK hP hD hS hA 0 pwC_0 rfl rfl hl.1 rfl (Nat.le_of_ble_eq_true rfl) dX5_goOn_2 ⟨Nat.zero_le _, Nat.zero_le _⟩ (fun H locs hP hD hS => ?_)
  refine lv_astore_n (lv' := [(2, .ref (a 20)), (0, .ref (a 0)), (1, .int ((1 : Int32)))]) hx hb dX5_goOn_5 rfl hl (by decide) rfl (fun ls hl => ?_)
  refine lv_aload_n hx hb dX5_goOn_6 rfl (lv_at hl 0 rfl) ?_
  refine pwG_20_0 X hK hP mF_X5_220 dX5_goOn_7 ?_
  refine lv_if_ne (tgt := 15) hx hb dX5_goOn_10 (by decide) (fun hc => ?_) (fun hc => ?_)
  · replace h := iff_ hc h
    refine lv_aload_n hx hb dX5_goOn_15 rfl (lv_at hl 1 rfl) ?_
    refine pwG_0_1 X hK hP mF_X5_19 dX5_goOn_16 ?_
    refine lv_aload_n hx hb dX5_goOn_19 rfl (lv_at hl 0 rfl) ?_
    obtain ⟨x1, hr0, h⟩ := bn1_elim h
    refine mp_callv (As := [.ref (a 20)]) (rest := []) X (c_X3_copyFrom_12_20 l D y a hr0) (mp_cw (k := 1) hts mM_X5_224 mI_X3_copyFrom mS_X3_copyFrom mN_X3 mC_X3_copyFrom rfl rfl (by decide +kernel) ⟨Nat.le_of_ble_eq_true rfl, Nat.le_of_ble_eq_true rfl⟩) hK hP hD hS hA 12 pwC_12 rfl rfl hl.1 rfl (Nat.le_of_ble_eq_true rfl) dX5_goOn_20 ⟨Nat.zero_le _, Nat.zero_le _⟩ (fun H locs hP hD hS => ?_)
    refine lv_aload_n hx hb dX5_goOn_23 rfl (lv_at hl 1 rfl) ?_
    refine pwG_0_5 X hK hP mF_X5_48 dX5_goOn_24 ?_
    obtain ⟨x2, hr0, h⟩ := bn1_elim h
    refine mp_callv (As := []) (rest := []) X (c_X1_findWay l D y a hr0) (mp_cw (k := 0) hts mM_X5_89 mI_X1_findWay mS_X1_findWay mN_X1 mC_X1_findWay rfl rfl (by decide +kernel) ⟨Nat.le_of_ble_eq_true rfl, Nat.le_of_ble_eq_true rfl⟩) hK hP hD hS hA 40 pwC_40 rfl rfl hl.1 rfl (Nat.le_of_ble_eq_true rfl) dX5_goOn_27 ⟨Nat.zero_le _, Nat.zero_le _⟩ (fun H locs hP hD hS => ?_)
    refine lv_iconst (v := 1) hx hb dX5_goOn_30 (by decide) ?_
    cases h
    exact mpr_z X hK hP hD hS rfl rfl dX5_goOn_31
  · replace h := ift hc h
    refine lv_iconst (v := 0) hx hb dX5_goOn_13 (by decide) ?_
    cases h
    exact mpr_z X hK hP hD hS rfl rfl dX5_goOn_14
def f_X3_copyFrom_12_24 (x : PD) : Option (PD) :=
  letv (wL x 385 (rL x 769)) fun x1 =>
  letv (wI x1 386 (rI x1 770)) fun x2 =>
  letv (wI x2 387 (rI x2 771)) fun x3 =>
  letv (wI x3 388 (rI x3 772)) fun x4 =>
  letv (wL x4 389 (rL x4 773)) fun x5 =>
  letv (wI x5 390 (rI x5 774)) fun x6 =>
  letv (wA x6 13 (va_cpy (rA x6 25) (rA x6 13) 0 0 20)) fun x7 =>
  letv (wA x7 14 (va_cpy (rA x7 26) (rA x7 14) 0 0 20)) fun x8 =>
  letv (wA x8 15 (va_cpy (rA x8 27) (rA x8 15) 0 0 4)) fun x9 =>
  letv (wI x9 394 (rI x9 778)) fun x10 =>
  letv (wI x10 395 (rI x10 779)) fun x11 =>
  letv (wL x11 396 (rL x11 780)) fun x12 =>
  some x12
set_option maxHeartbeats 4000000 in
set_option maxRecDepth 100000 in
theorem c_X3_copyFrom_12_24 (l : Launch) (D : va_G) (y : CY) (a : Nat → Nat) {x : PD} {x' : PD} (h : f_X3_copyFrom_12_24 x = some x') : mpM l D y yX3_copyFrom cX3_copyFrom 2 none { frames := 1, cells := 0, slots := 0, locals := 40 } (pw y a x) (pw y a x') [.ref (a 12), .ref (a 24)] none := by
  refine mpM.mk (own := RX3) (by decide) rfl (Nat.le_of_ble_eq_true rfl) ?_
  intro p e s m below meth c A ls X hK hA hP hD hl
  have hS : va_S A s.heap s.heap [] := va_S.rf
  obtain ⟨⟨hx, hb, hml, hown, hts⟩, hr, hlk⟩ := id X
  have hl : lv_has ls 2 [(0, .ref (a 12)), (1, .ref (a 24))] := hl
  unfold f_X3_copyFrom_12_24 at h
  refine lv_aload_n hx hb dX3_copyFrom_0 rfl (lv_at hl 0 rfl) ?_
  refine lv_aload_n hx hb dX3_copyFrom_1 rfl (lv_at hl 1 rfl) ?_
  refine pwG_24_1 X hK hP mF_X3_31 dX3_copyFrom_2 ?_
  obtain ⟨x1, e1, h⟩ := letv_elim h
  refine pwP_12_1 X hK hP hD hS mF_X3_31 e1 dX3_copyFrom_5 (fun H locs hP hD hS => ?_)
  refine lv_aload_n hx hb dX3_copyFrom_8 rfl (lv_at hl 0 rfl) ?_
  refine lv_aload_n hx hb dX3_copyFrom_9 rfl (lv_at hl 1 rfl) ?_
  refine pwG_24_2 X hK hP mF_X3_9 dX3_copyFrom_10 ?_
  obtain ⟨x2, e1, h⟩ := letv_elim h
  refine pwP_12_2 X hK hP hD hS mF_X3_9 e1 dX3_copyFrom_13 (fun H locs hP hD hS => ?_)
  refine lv_aload_n hx hb dX3_copyFrom_16 rfl (lv_at hl 0 rfl) ?_
  refine lv_aload_n hx hb dX3_copyFrom_17 rfl (lv_at hl 1 rfl) ?_
  refine pwG_24_3 X hK hP mF_X3_35 dX3_copyFrom_18 ?_
  obtain ⟨x3, e1, h⟩ := letv_elim h
  refine pwP_12_3 X hK hP hD hS mF_X3_35 e1 dX3_copyFrom_21 (fun H locs hP hD hS => ?_)
  refine lv_aload_n hx hb dX3_copyFrom_24 rfl (lv_at hl 0 rfl) ?_
  refine lv_aload_n hx hb dX3_copyFrom_25 rfl (lv_at hl 1 rfl) ?_
  refine pwG_24_4 X hK hP mF_X3_38 dX3_copyFrom_26 ?_
  obtain ⟨x4, e1, h⟩ := letv_elim h
  refine pwP_12_4 X hK hP hD hS mF_X3_38 e1 dX3_copyFrom_29 (fun H locs hP hD hS => ?_)
  refine lv_aload_n hx hb dX3_copyFrom_32 rfl (lv_at hl 0 rfl) ?_
  refine lv_aload_n hx hb dX3_copyFrom_33 rfl (lv_at hl 1 rfl) ?_
  refine pwG_24_5 X hK hP mF_X3_41 dX3_copyFrom_34 ?_
  obtain ⟨x5, e1, h⟩ := letv_elim h
  refine pwP_12_5 X hK hP hD hS mF_X3_41 e1 dX3_copyFrom_37 (fun H locs hP hD hS => ?_)
  refine lv_aload_n hx hb dX3_copyFrom_40 rfl (lv_at hl 0 rfl) ?_
  refine lv_aload_n hx hb dX3_copyFrom_41 rfl (lv_at hl 1 rfl) ?_
  refine pwG_24_6 X hK hP mF_X3_15 dX3_copyFrom_42 ?_
  obtain ⟨x6, e1, h⟩ := letv_elim h
  refine pwP_12_6 X hK hP hD hS mF_X3_15 e1 dX3_copyFrom_45 (fun H locs hP hD hS => ?_)
  refine lv_aload_n hx hb dX3_copyFrom_48 rfl (lv_at hl 1 rfl) ?_
  refine pwG_24_7 X hK hP mF_X3_18 dX3_copyFrom_49 ?_
  refine lv_iconst (v := 0) hx hb dX3_copyFrom_52 (by decide) ?_
  refine lv_aload_n hx hb dX3_copyFrom_53 rfl (lv_at hl 0 rfl) ?_
  refine pwG_12_7 X hK hP mF_X3_18 dX3_copyFrom_54 ?_
  refine lv_iconst (v := 0) hx hb dX3_copyFrom_57 (by decide) ?_
  refine lv_bipush (v := 20) hx hb dX3_copyFrom_58 (by decide) ?_
  obtain ⟨x7, e1, h⟩ := letv_elim h
  refine pwCp_25_13 X hK hP hD hS (hml.trans hl.1.symm) mM_X3_44 e1 (Nat.le_of_ble_eq_true rfl) (Nat.le_of_ble_eq_true rfl) dX3_copyFrom_60 (fun H locs hP hD hS => ?_)
  refine lv_aload_n hx hb dX3_copyFrom_63 rfl (lv_at hl 1 rfl) ?_
  refine pwG_24_8 X hK hP mF_X3_22 dX3_copyFrom_64 ?_
  refine lv_iconst (v := 0) hx hb dX3_copyFrom_67 (by decide) ?_
  refine lv_aload_n hx hb dX3_copyFrom_68 rfl (lv_at hl 0 rfl) ?_
  refine pwG_12_8 X hK hP mF_X3_22 dX3_copyFrom_69 ?_
  refine lv_iconst (v := 0) hx hb dX3_copyFrom_72 (by decide) ?_
  refine lv_bipush (v := 20) hx hb dX3_copyFrom_73 (by decide) ?_
  obtain ⟨x8, e1, h⟩ := letv_elim h
  refine pwCp_26_14 X hK hP hD hS (hml.trans hl.1.symm) mM_X3_44 e1 (Nat.le_of_ble_eq_true rfl) (Nat.le_of_ble_eq_true rfl) dX3_copyFrom_75 (fun H locs hP hD hS => ?_)
  refine lv_aload_n hx hb dX3_copyFrom_78 rfl (lv_at hl 1 rfl) ?_
  refine pwG_24_9 X hK hP mF_X3_25 dX3_copyFrom_79 ?_
  refine lv_iconst (v := 0) hx hb dX3_copyFrom_82 (by decide) ?_
  refine lv_aload_n hx hb dX3_copyFrom_83 rfl (lv_at hl 0 rfl) ?_
  refine pwG_12_9 X hK hP mF_X3_25 dX3_copyFrom_84 ?_
  refine lv_iconst (v := 0) hx hb dX3_copyFrom_87 (by decide) ?_
  refine lv_iconst (v := 4) hx hb dX3_copyFrom_88 (by decide) ?_
  obtain ⟨x9, e1, h⟩ := letv_elim h
  refine pwCp_27_15 X hK hP hD hS (hml.trans hl.1.symm) mM_X3_44 e1 (Nat.le_of_ble_eq_true rfl) (Nat.le_of_ble_eq_true rfl) dX3_copyFrom_89 (fun H locs hP hD hS => ?_)
  refine lv_aload_n hx hb dX3_copyFrom_92 rfl (lv_at hl 0 rfl) ?_
  refine lv_aload_n hx hb dX3_copyFrom_93 rfl (lv_at hl 1 rfl) ?_
  refine pwG_24_10 X hK hP mF_X3_50 dX3_copyFrom_94 ?_
  obtain ⟨x10, e1, h⟩ := letv_elim h
  refine pwP_12_10 X hK hP hD hS mF_X3_50 e1 dX3_copyFrom_97 (fun H locs hP hD hS => ?_)
  refine lv_aload_n hx hb dX3_copyFrom_100 rfl (lv_at hl 0 rfl) ?_
  refine lv_aload_n hx hb dX3_copyFrom_101 rfl (lv_at hl 1 rfl) ?_
  refine pwG_24_11 X hK hP mF_X3_28 dX3_copyFrom_102 ?_
  obtain ⟨x11, e1, h⟩ := letv_elim h
  refine pwP_12_11 X hK hP hD hS mF_X3_28 e1 dX3_copyFrom_105 (fun H locs hP hD hS => ?_)
  refine lv_aload_n hx hb dX3_copyFrom_108 rfl (lv_at hl 0 rfl) ?_
  refine lv_aload_n hx hb dX3_copyFrom_109 rfl (lv_at hl 1 rfl) ?_
  refine pwG_24_12 X hK hP mF_X3_53 dX3_copyFrom_110 ?_
  obtain ⟨x12, e1, h⟩ := letv_elim h
  refine pwP_12_12 X hK hP hD hS mF_X3_53 e1 dX3_copyFrom_113 (fun H locs hP hD hS => ?_)
  cases h
  exact mpr_v X hK hP hD hS dX3_copyFrom_116
