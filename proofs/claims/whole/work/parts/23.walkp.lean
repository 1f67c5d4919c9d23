def f_X5_goOn_v2 (x : PD) : Option (Int32 × PD) :=
  bn1 (f_X5_slotAt_v2 x) fun _u =>
  if (rI x 768) = 0 then
  some ((0 : Int32), x)
  else
  bn1 (f_X3_copyFrom_12_24 x) fun x1 =>
  bn1 (f_X1_findWay x1) fun x2 =>
  some ((1 : Int32), x2)
set_option maxHeartbeats 4000000 in
set_option maxRecDepth 100000 in
theorem c_X5_goOn_v2 (l : Launch) (D : va_G) (y : CY) (a : Nat → Nat) {x : PD} {x' : PD} {r : Int32} (h : f_X5_goOn_v2 x = some (r, x')) : mpM l D y yX5_goOn cX5_goOn 3 (some .boolean) { frames := 4, cells := 0, slots := 0, locals := 101 } (pw y a x) (pw y a x') [.ref (a 0), .int ((2 : Int32))] (some (.int r)) := by
  refine mpM.mk (own := RX5) (by decide) rfl (Nat.le_of_ble_eq_true rfl) ?_
  intro p e s m below meth c A ls X hK hA hP hD hl
  have hS : va_S A s.heap s.heap [] := va_S.rf
  obtain ⟨⟨hx, hb, hml, hown, hts⟩, hr, hlk⟩ := id X
  have hl : lv_has ls 3 [(0, .ref (a 0)), (1, .int ((2 : Int32)))] := hl
  unfold f_X5_goOn_v2 at h
  refine lv_aload_n hx hb dX5_goOn_0 rfl (lv_at hl 0 rfl) ?_
  refine lv_iload_n hx hb dX5_goOn_1 rfl (lv_at hl 1 rfl) ?_
  obtain ⟨u0, hr0, h⟩ := bn1_elim h
  refine mp_call1 (As := [.int ((2 : Int32))]) (rest := []) X (c_X5_slotAt_v2 l D y a hr0) (mp_cw (k := 1) hts mM_X5_216 mI_X5_slotAt mS_X5_slotAt mN_X5 mC_X5_slotAt rfl rfl (by decide +kernel) ⟨Nat.le_of_ble_eq_true rfl, Nat.le_of_ble_eq_true rfl⟩) hK hP hD hS hA 0 pwC_0 rfl rfl hl.1 rfl (Nat.le_of_ble_eq_true rfl) dX5_goOn_2 ⟨Nat.zero_le _, Nat.zero_le _⟩ (fun H locs hP hD hS => ?_)
  refine lv_astore_n (lv' := [(2, .ref (a 24)), (0, .ref (a 0)), (1, .int ((2 : Int32)))]) hx hb dX5_goOn_5 rfl hl (by decide) rfl (fun ls hl => ?_)
  refine lv_aload_n hx hb dX5_goOn_6 rfl (lv_at hl 0 rfl) ?_
  refine pwG_24_0 X hK hP mF_X5_220 dX5_goOn_7 ?_
  refine lv_if_ne (tgt := 15) hx hb dX5_goOn_10 (by decide) (fun hc => ?_) (fun hc => ?_)
  · replace h := iff_ hc h
    refine lv_aload_n hx hb dX5_goOn_15 rfl (lv_at hl 1 rfl) ?_
    refine pwG_0_1 X hK hP mF_X5_19 dX5_goOn_16 ?_
    refine lv_aload_n hx hb dX5_goOn_19 rfl (lv_at hl 0 rfl) ?_
    obtain ⟨x1, hr0, h⟩ := bn1_elim h
    refine mp_callv (As := [.ref (a 24)]) (rest := []) X (c_X3_copyFrom_12_24 l D y a hr0) (mp_cw (k := 1) hts mM_X5_224 mI_X3_copyFrom mS_X3_copyFrom mN_X3 mC_X3_copyFrom rfl rfl (by decide +kernel) ⟨Nat.le_of_ble_eq_true rfl, Nat.le_of_ble_eq_true rfl⟩) hK hP hD hS hA 12 pwC_12 rfl rfl hl.1 rfl (Nat.le_of_ble_eq_true rfl) dX5_goOn_20 ⟨Nat.zero_le _, Nat.zero_le _⟩ (fun H locs hP hD hS => ?_)
    refine lv_aload_n hx hb dX5_goOn_23 rfl (lv_at hl 1 rfl) ?_
    refine pwG_0_5 X hK hP mF_X5_48 dX5_goOn_24 ?_
    obtain ⟨x2, hr0, h⟩ := bn1_elim h
    refine mp_callv (As := []) (rest := []) X (c_X1_findWay l D y a hr0) (mp_cw (k := 0) hts mM_X5_89 mI_X1_findWay mS_X1_findWay mN_X1 mC_X1_findWay rfl rfl (by decide +kernel) ⟨Nat.le_of_ble_eq_true rfl, Nat.le_of_ble_eq_true rfl⟩) hK hP hD hS hA 40 pwC_40 rfl rfl hl.1 rfl (Nat.le_of_ble_eq_true rfl) dX5_goOn_27 ⟨Nat.zero_le _, Nat.zero_le _⟩ (fun H locs hP hD hS => ?_)
    refine lv_iconst (v := 1) hx hb dX5_goOn_30 (by decide) ?_
    cases h
    exact mpr_z X hK hP hD hS rfl rfl dX5_goOn_31
  · replace h := ift hc h
    refine lv_iconst (v := 0) hx hb dX5_goOn_13 (by decide) ?_
    cases h
    exact mpr_z X hK hP hD hS rfl rfl dX5_goOn_14
def f_X3_copyFrom_12_28 (x : PD) : Option (PD) :=
  letv (wL x 385 (rL x 897)) fun x1 =>
  letv (wI x1 386 (rI x1 898)) fun x2 =>
  letv (wI x2 387 (rI x2 899)) fun x3 =>
  letv (wI x3 388 (rI x3 900)) fun x4 =>
  letv (wL x4 389 (rL x4 901)) fun x5 =>
  letv (wI x5 390 (rI x5 902)) fun x6 =>
  letv (wA x6 13 (va_cpy (rA x6 29) (rA x6 13) 0 0 20)) fun x7 =>
  letv (wA x7 14 (va_cpy (rA x7 30) (rA x7 14) 0 0 20)) fun x8 =>
  letv (wA x8 15 (va_cpy (rA x8 31) (rA x8 15) 0 0 4)) fun x9 =>
  letv (wI x9 394 (rI x9 906)) fun x10 =>
  letv (wI x10 395 (rI x10 907)) fun x11 =>
  letv (wL x11 396 (rL x11 908)) fun x12 =>
  some x12
set_option maxHeartbeats 4000000 in
set_option maxRecDepth 100000 in
theorem c_X3_copyFrom_12_28 (l : Launch) (D : va_G) (y : CY) (a : Nat → Nat) {x : PD} {x' : PD} (h : f_X3_copyFrom_12_28 x = some x') : mpM l D y yX3_copyFrom cX3_copyFrom 2 none { frames := 1, cells := 0, slots := 0, locals := 40 } (pw y a x) (pw y a x') [.ref (a 12), .ref (a 28)] none := by
  refine mpM.mk (own := RX3) (by decide) rfl (Nat.le_of_ble_eq_true rfl) ?_
  intro p e s m below meth c A ls X hK hA hP hD hl
  have hS : va_S A s.heap s.heap [] := va_S.rf
  obtain ⟨⟨hx, hb, hml, hown, hts⟩, hr, hlk⟩ := id X
  have hl : lv_has ls 2 [(0, .ref (a 12)), (1, .ref (a 28))] := hl
  unfold f_X3_copyFrom_12_28 at h
  refine lv_aload_n hx hb dX3_copyFrom_0 rfl (lv_at hl 0 rfl) ?_
  refine lv_aload_n hx hb dX3_copyFrom_1 rfl (lv_at hl 1 rfl) ?_
  refine pwG_28_1 X hK hP mF_X3_31 dX3_copyFrom_2 ?_
  obtain ⟨x1, e1, h⟩ := letv_elim h
  refine pwP_12_1 X hK hP hD hS mF_X3_31 e1 dX3_copyFrom_5 (fun H locs hP hD hS => ?_)
  refine lv_aload_n hx hb dX3_copyFrom_8 rfl (lv_at hl 0 rfl) ?_
  refine lv_aload_n hx hb dX3_copyFrom_9 rfl (lv_at hl 1 rfl) ?_
  refine pwG_28_2 X hK hP mF_X3_9 dX3_copyFrom_10 ?_
  obtain ⟨x2, e1, h⟩ := letv_elim h
  refine pwP_12_2 X hK hP hD hS mF_X3_9 e1 dX3_copyFrom_13 (fun H locs hP hD hS => ?_)
  refine lv_aload_n hx hb dX3_copyFrom_16 rfl (lv_at hl 0 rfl) ?_
  refine lv_aload_n hx hb dX3_copyFrom_17 rfl (lv_at hl 1 rfl) ?_
  refine pwG_28_3 X hK hP mF_X3_35 dX3_copyFrom_18 ?_
  obtain ⟨x3, e1, h⟩ := letv_elim h
  refine pwP_12_3 X hK hP hD hS mF_X3_35 e1 dX3_copyFrom_21 (fun H locs hP hD hS => ?_)
  refine lv_aload_n hx hb dX3_copyFrom_24 rfl (lv_at hl 0 rfl) ?_
  refine lv_aload_n hx hb dX3_copyFrom_25 rfl (lv_at hl 1 rfl) ?_
  refine pwG_28_4 X hK hP mF_X3_38 dX3_copyFrom_26 ?_
  obtain ⟨x4, e1, h⟩ := letv_elim h
  refine pwP_12_4 X hK hP hD hS mF_X3_38 e1 dX3_copyFrom_29 (fun H locs hP hD hS => ?_)
  refine lv_aload_n hx hb dX3_copyFrom_32 rfl (lv_at hl 0 rfl) ?_
  refine lv_aload_n hx hb dX3_copyFrom_33 rfl (lv_at hl 1 rfl) ?_
  refine pwG_28_5 X hK hP mF_X3_41 dX3_copyFrom_34 ?_
  obtain ⟨x5, e1, h⟩ := letv_elim h
  refine pwP_12_5 X hK hP hD hS mF_X3_41 e1 dX3_copyFrom_37 (fun H locs hP hD hS => ?_)
  refine lv_aload_n hx hb dX3_copyFrom_40 rfl (lv_at hl 0 rfl) ?_
  refine lv_aload_n hx hb dX3_copyFrom_41 rfl (lv_at hl 1 rfl) ?_
  refine pwG_28_6 X hK hP mF_X3_15 dX3_copyFrom_42 ?_
  obtain ⟨x6, e1, h⟩ := letv_elim h
  refine pwP_12_6 X hK hP hD hS mF_X3_15 e1 dX3_copyFrom_45 (fun H locs hP hD hS => ?_)
  refine lv_aload_n hx hb dX3_copyFrom_48 rfl (lv_at hl 1 rfl) ?_
  refine pwG_28_7 X hK hP mF_X3_18 dX3_copyFrom_49 ?_
  refine lv_iconst (v := 0) hx hb dX3_copyFrom_52 (by decide) ?_
  refine lv_aload_n hx hb dX3_copyFrom_53 rfl (lv_at hl 0 rfl) ?_
  refine pwG_12_7 X hK hP mF_X3_18 dX3_copyFrom_54 ?_
  refine lv_iconst (v := 0) hx hb dX3_copyFrom_57 (by decide) ?_
  refine lv_bipush (v := 20) hx hb dX3_copyFrom_58 (by decide) ?_
  obtain ⟨x7, e1, h⟩ := letv_elim h
  refine pwCp_29_13 X hK hP hD hS (hml.trans hl.1.symm) mM_X3_44 e1 (Nat.le_of_ble_eq_true rfl) (Nat.le_of_ble_eq_true rfl) dX3_copyFrom_60 (fun H locs hP hD hS => ?_)
  refine lv_aload_n hx hb dX3_copyFrom_63 rfl (lv_at hl 1 rfl) ?_
  refine pwG_28_8 X hK hP mF_X3_22 dX3_copyFrom_64 ?_
  refine lv_iconst (v := 0) hx hb dX3_copyFrom_67 (by decide) ?_
  refine lv_aload_n hx hb dX3_copyFrom_68 rfl (lv_at hl 0 rfl) ?_
  refine pwG_12_8 X hK hP mF_X3_22 dX3_copyFrom_69 ?_
  refine lv_iconst (v := 0) hx hb dX3_copyFrom_72 (by decide) ?_
  refine lv_bipush (v := 20) hx hb dX3_copyFrom_73 (by decide) ?_
  obtain ⟨x8, e1, h⟩ := letv_elim h
  refine pwCp_30_14 X hK hP hD hS (hml.trans hl.1.symm) mM_X3_44 e1 (Nat.le_of_ble_eq_true rfl) (Nat.le_of_ble_eq_true rfl) dX3_copyFrom_75 (fun H locs hP hD hS => ?_)
  refine lv_aload_n hx hb dX3_copyFrom_78 rfl (lv_at hl 1 rfl) ?_
  refine pwG_28_9 X hK hP mF_X3_25 dX3_copyFrom_79 ?_
  refine lv_iconst (v := 0) hx hb dX3_copyFrom_82 (by decide) ?_
  refine lv_aload_n hx hb dX3_copyFrom_83 rfl (lv_at hl 0 rfl) ?_
  refine pwG_12_9 X hK hP mF_X3_25 dX3_copyFrom_84 ?_
  refine lv_iconst (v := 0) hx hb dX3_copyFrom_87 (by decide) ?_
  refine lv_iconst (v := 4) hx hb dX3_copyFrom_88 (by decide) ?_
  obtain ⟨x9, e1, h⟩ := letv_elim h
  refine pwCp_31_15 X hK hP hD hS (hml.trans hl.1.symm) mM_X3_44 e1 (Nat.le_of_ble_eq_true rfl) (Nat.le_of_ble_eq_true rfl) dX3_copyFrom_89 (fun H locs hP hD hS => ?_)
  refine lv_aload_n hx hb dX3_copyFrom_92 rfl (lv_at hl 0 rfl) ?_
  refine lv_aload_n hx hb dX3_copyFrom_93 rfl (lv_at hl 1 rfl) ?_
  refine pwG_28_10 X hK hP mF_X3_50 dX3_copyFrom_94 ?_
  obtain ⟨x10, e1, h⟩ := letv_elim h
  refine pwP_12_10 X hK hP hD hS mF_X3_50 e1 dX3_copyFrom_97 (fun H locs hP hD hS => ?_)
  refine lv_aload_n hx hb dX3_copyFrom_100 rfl (lv_at hl 0 rfl) ?_
  refine lv_aload_n hx hb dX3_copyFrom_101 rfl (lv_at hl 1 rfl) ?_
  refine pwG_28_11 X hK hP mF_X3_28 dX3_copyFrom_102 ?_
  obtain ⟨x11, e1, h⟩ := letv_elim h
  refine pwP_12_11 X hK hP hD hS mF_X3_28 e1 dX3_copyFrom_105 (fun H locs hP hD hS => ?_)
  refine lv_aload_n hx hb dX3_copyFrom_108 rfl (lv_at hl 0 rfl) ?_
  refine lv_aload_n hx hb dX3_copyFrom_109 rfl (lv_at hl 1 rfl) ?_
  refine pwG_28_12 X hK hP mF_X3_53 dX3_copyFrom_110 ?_
  obtain ⟨x12, e1, h⟩ := letv_elim h
  refine pwP_12_12 X hK hP hD hS mF_X3_53 e1 dX3_copyFrom_113 (fun H locs hP hD hS => ?_)
  cases h
  exact mpr_v X hK hP hD hS dX3_copyFrom_116
def f_X5_goOn_v3 (x : PD) : Option (Int32 × PD) :=
  bn1 (f_X5_slotAt_v3 x) fun _u =>
  if (rI x 896) = 0 then
  some ((0 : Int32), x)
  else
  bn1 (f_X3_copyFrom_12_28 x) fun x1 =>
  bn1 (f_X1_findWay x1) fun x2 =>
  some ((1 : Int32), x2)
set_option maxHeartbeats 4000000 in
set_option maxRecDepth 100000 in
theorem c_X5_goOn_v3 (l : Launch) (D : va_G) (y : CY) (a : Nat → Nat) {x : PD} {x' : PD} {r : Int32} (h : f_X5_goOn_v3 x = some (r, x')) : mpM l D y yX5_goOn cX5_goOn 3 (some .boolean) { frames := 4, cells := 0, slots := 0, locals := 101 } (pw y a x) (pw y a x') [.ref (a 0), .int ((3 : Int32))] (some (.int r)) := by
  refine mpM.mk (own := RX5) (by decide) rfl (Nat.le_of_ble_eq_true rfl) ?_
  intro p e s m below meth c A ls X hK hA hP hD hl
  have hS : va_S A s.heap s.heap [] := va_S.rf
  obtain ⟨⟨hx, hb, hml, hown, hts⟩, hr, hlk⟩ := id X
  have hl : lv_has ls 3 [(0, .ref (a 0)), (1, .int ((3 : Int32)))] := hl
  unfold f_X5_goOn_v3 at h
  refine lv_aload_n hx hb dX5_goOn_0 rfl (lv_at hl 0 rfl) ?_
  refine lv_iload_n hx hb dX5_goOn_1 rfl (lv_at hl 1 rfl) ?_
  obtain ⟨u0, hr0, h⟩ := bn1_elim h
  refine mp_call1 (As := [.int ((3 : Int32))]) (rest := []) X (c_X5_slotAt_v3 l D y a hr0) (mp_cw (k := 1) hts mM_X5_216 mI_X5_slotAt mS_X5_slotAt mN_X5 mC_X5_slotAt rfl rfl (by decide +kernel) ⟨Nat.le_of_ble_eq_true rfl, Nat.le_of_ble_eq_true rfl⟩) hK hP hD hS hA 0 pwC_0 rfl rfl hl.1 rfl (Nat.le_of_ble_eq_true rfl) dX5_goOn_2 ⟨Nat.zero_le _, Nat.zero_le _⟩ (fun H locs hP hD hS => ?_)
  refine lv_astore_n (lv' := [(2, .ref (a 28)), (0, .ref (a 0)), (1, .int ((3 : Int32)))]) hx hb dX5_goOn_5 rfl hl (by decide) rfl (fun ls hl => ?_)
  refine lv_aload_n hx hb dX5_goOn_6 rfl (lv_at hl 0 rfl) ?_
  refine pwG_28_0 X hK hP mF_X5_220 dX5_goOn_7 ?_
  refine lv_if_ne (tgt := 15) hx hb dX5_goOn_10 (by decide) (fun hc => ?_) (fun hc => ?_)
  · replace h := iff_ hc h
    refine lv_aload_n hx hb dX5_goOn_15 rfl (lv_at hl 1 rfl) ?_
    refine pwG_0_1 X hK hP mF_X5_19 dX5_goOn_16 ?_
    refine lv_aload_n hx hb dX5_goOn_19 rfl (lv_at hl 0 rfl) ?_
    obtain ⟨x1, hr0, h⟩ := bn1_elim h
    refine mp_callv (As := [.ref (a 28)]) (rest := []) X (c_X3_copyFrom_12_28 l D y a hr0) (mp_cw (k := 1) hts mM_X5_224 mI_X3_copyFrom mS_X3_copyFrom mN_X3 mC_X3_copyFrom rfl rfl (by decide +kernel) ⟨Nat.le_of_ble_eq_true rfl, Nat.le_of_ble_eq_true rfl⟩) hK hP hD hS hA 12 pwC_12 rfl rfl hl.1 rfl (Nat.le_of_ble_eq_true rfl) dX5_goOn_20 ⟨Nat.zero_le _, Nat.zero_le _⟩ (fun H locs hP hD hS => ?_)
    refine lv_aload_n hx hb dX5_goOn_23 rfl (lv_at hl 1 rfl) ?_
    refine pwG_0_5 X hK hP mF_X5_48 dX5_goOn_24 ?_
    obtain ⟨x2, hr0, h⟩ := bn1_elim h
    refine mp_callv (As := []) (rest := []) X (c_X1_findWay l D y a hr0) (mp_cw (k := 0) hts mM_X5_89 mI_X1_findWay mS_X1_findWay mN_X1 mC_X1_findWay rfl rfl (by decide +kernel) ⟨Nat.le_of_ble_eq_true rfl, Nat.le_of_ble_eq_true rfl⟩) hK hP hD hS hA 40 pwC_40 rfl rfl hl.1 rfl (Nat.le_of_ble_eq_true rfl) dX5_goOn_27 ⟨Nat.zero_le _, Nat.zero_le _⟩ (fun H locs hP hD hS => ?_)
    refine lv_iconst (v := 1) hx hb dX5_goOn_30 (by decide) ?_
    cases h
    exact mpr_z X hK hP hD hS rfl rfl dX5_goOn_31
  · replace h := ift hc h
    refine lv_iconst (v := 0) hx hb dX5_goOn_13 (by decide) ?_
    cases h
    exact mpr_z X hK hP hD hS rfl rfl dX5_goOn_14
