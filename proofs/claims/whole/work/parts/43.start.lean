def x0 : PD := (fun k => if k = 386 then -1 else if k = 390 then -1 else if k = 395 then -1 else if k = 514 then -1 else if k = 518 then -1 else if k = 523 then -1 else if k = 642 then -1 else if k = 646 then -1 else if k = 651 then -1 else if k = 770 then -1 else if k = 774 then -1 else if k = 779 then -1 else if k = 898 then -1 else if k = 902 then -1 else if k = 907 then -1 else if k = 1283 then -1 else  0, fun _ => 0, fun k => if k = 11 then upd (upd (fun _ => 0) 0 10) 1 1 else fun _ => 0, fun _ _ => 0)
def z0 : PD := (fun _ => 0, fun _ => 0, fun k => if k = 10 then upd (upd (fun _ => 0) 0 10) 1 1 else fun _ => 0, fun k => if k = 11 then vp_updL (vp_updL (vp_updL (fun _ => 0) 0 (-1)) 4 (-1)) 5 (-1) else fun _ => 0)
def aP (q0 q2 : Nat) (b1 : Nat → Nat) : Nat → Nat := fun k => [q0, (b1 0), (b1 1), (b1 2), (b1 3), (b1 4), (b1 5), (b1 6), (b1 7), (b1 8), (b1 9), (b1 10), (b1 11), (b1 12), (b1 13), (b1 14), (b1 28), (b1 29), (b1 30), (b1 31), (b1 32), (b1 33), (b1 34), (b1 35), (b1 36), (b1 37), (b1 38), (b1 39), (b1 40), (b1 41), (b1 42), (b1 43), (b1 15), (b1 16), (b1 17), (b1 18), (b1 19), (b1 20), (b1 21), (b1 22), (b1 23), (b1 24), (b1 25), (b1 26), (b1 27), q2].getD k 0
def aM (q1 : Nat) (b2 : Nat → Nat) : Nat → Nat := fun k => [q1, (b2 0), (b2 1), (b2 2), (b2 3), (b2 4), (b2 5), (b2 6), (b2 7), (b2 8), (b2 9), (b2 10), (b2 11), (b2 12), (b2 13), (b2 14), (b2 15), (b2 16), (b2 17), (b2 18), (b2 19), (b2 20), (b2 21)].getD k 0
set_option maxHeartbeats 8000000 in
set_option maxRecDepth 100000 in
theorem st_perm (y : CY) (q0 q1 q2 : Nat) (b1 b2 : Nat → Nat) : ([0, 1, 2, 3, 4, 5, 6, 7, 8, 9, 10, 11, 12, 13, 14, 15, 29, 30, 31, 32, 33, 34, 35, 36, 37, 38, 39, 40, 41, 42, 43, 44, 16, 17, 18, 19, 20, 21, 22, 23, 24, 25, 26, 27, 28, 68, 45, 46, 47, 48, 49, 50, 51, 52, 53, 54, 55, 56, 57, 58, 59, 60, 61, 62, 63, 64, 65, 66, 67] : List Nat).filterMap (fun i => ((w_X5 y q0 b1 ++ w_X6 y q1 b2) ++ [(q2, .inl (y.2.1, 1, .inr (.inl (fun _ => 0))))])[i]?) = pw y (aP q0 q2 b1) x0 ++ mw y (aM q1 b2) z0 := rfl
set_option maxHeartbeats 8000000 in
set_option maxRecDepth 100000 in
theorem st_permD (y : CY) (q0 q1 q2 : Nat) (b1 b2 : Nat → Nat) : ([0, 1, 2, 3, 4, 5, 6, 7, 8, 9, 10, 11, 12, 13, 14, 15, 29, 30, 31, 32, 33, 34, 35, 36, 37, 38, 39, 40, 41, 42, 43, 44, 16, 17, 18, 19, 20, 21, 22, 23, 24, 25, 26, 27, 28, 68, 45, 46, 47, 48, 49, 50, 51, 52, 53, 54, 55, 56, 57, 58, 59, 60, 61, 62, 63, 64, 65, 66, 67] : List Nat).map (fun i => ((w_X5 y q0 b1 ++ w_X6 y q1 b2) ++ [(q2, .inl (y.2.1, 1, .inr (.inl (fun _ => 0))))])[i]?) = (pw y (aP q0 q2 b1) x0 ++ mw y (aM q1 b2) z0).map some := rfl
theorem mpt1 {w : Cond} (i : Nat) (h : tables_1_1[i]? = some w) : w ∈ lw_tbl := List.mem_append_right _ (List.mem_append_left _ (List.mem_of_getElem? h))
theorem mpt2 {w : Cond} (i : Nat) (h : tables_1_2[i]? = some w) : w ∈ lw_tbl := List.mem_append_right _ (List.mem_append_right _ (List.mem_append_left _ (List.mem_of_getElem? h)))
theorem mpt3 {w : Cond} (i : Nat) (h : tables_1_3[i]? = some w) : w ∈ lw_tbl := List.mem_append_right _ (List.mem_append_right _ (List.mem_append_right _ (List.mem_append_left _ (List.mem_of_getElem? h))))
theorem mpt4 {w : Cond} (i : Nat) (h : tables_1_4[i]? = some w) : w ∈ lw_tbl := List.mem_append_right _ (List.mem_append_right _ (List.mem_append_right _ (List.mem_append_right _ (List.mem_append_left _ (List.mem_of_getElem? h)))))
theorem mpt5 {w : Cond} (i : Nat) (h : tables_1_5[i]? = some w) : w ∈ lw_tbl := List.mem_append_right _ (List.mem_append_right _ (List.mem_append_right _ (List.mem_append_right _ (List.mem_append_right _ (List.mem_of_getElem? h)))))
set_option maxRecDepth 100000 in
set_option maxHeartbeats 4000000 in
theorem st_thE {args : Array Value} {s : State} (hts : ∀ w ∈ lw_tbl, w.before args s = true) (hgv : (Jvm.Cond.and given_1 narrow_1).before args s = true) : thE (fun q => s.heap.size ≤ q) s s.heap := by
  have hs := flat_of_before _ hgv
  have hA : ∀ a : Nat, a < s.heap.size → ¬ (fun q : Nat => s.heap.size ≤ q) a := fun a h => Nat.not_le.mpr h
  have hstr : ∀ (k : Nat) (tx : String), Cond.stringRef RX5 k tx ∈ lw_tbl → Cond.exactly (Term.string RX5 k) "java/lang/String" ∈ flatC (Jvm.Cond.and given_1 narrow_1) → ∃ sa, vk_R RX5 k tx sa s := by
    intro k tx h1 h2
    obtain ⟨a, c, cell, kk, q1, -⟩ := Cond.exactly_spec (hs _ h2)
    refine ⟨a, ?_⟩
    have h3 := hts _ h1
    have h4 : (Cond.stringRef RX5 k tx).before #[] s = true := by
      first | exact h3 | (simp only [Cond.before, Cond.holds, Cond.value] at h3 ⊢; exact h3)
    exact ⟨h4, by first | exact q1 | (rw [Term.string_eval_of_vm (args := #[]) rfl]; exact q1) | (simp only [Term.eval] at q1 ⊢; exact q1)⟩
  refine ⟨⟨va_Nw.of rfl (hts _ (mpt2 116 rfl)), va_Nw.of rfl (hts _ (mpt2 204 rfl)), va_Nw.of rfl (hts _ (mpt2 118 rfl)), va_Nw.of rfl (hts _ (mpt2 120 rfl)), va_Nw.of rfl (hts _ (mpt2 122 rfl))⟩, va_Nc.of (hs (Cond.not (.castable xIAE xNSE)) (by decide +kernel)), ?_, vx_Zqof (hts _ (mpt2 141 rfl)) (hts (.initialized Bundle.tN) (mpt1 8 rfl)) (hs _ (by decide +kernel)) hA, vx_Zqof (hts _ (mpt2 143 rfl)) (hts (.initialized Bundle.tN) (mpt1 8 rfl)) (hs _ (by decide +kernel)) hA⟩
  intro q hq
  simp only [thS, List.mem_cons, List.not_mem_nil, or_false] at hq
  rcases hq with rfl | rfl | rfl | rfl | rfl | rfl | rfl | rfl | rfl
  · exact hstr 69 "no such price" (mpt2 211 rfl) (by decide +kernel)
  · exact hstr 115 "no such step" (mpt3 27 rfl) (by decide +kernel)
  · exact hstr 157 "n is not 0 to 20000" (mpt3 80 rfl) (by decide +kernel)
  · exact hstr 205 "no such what" (mpt3 168 rfl) (by decide +kernel)
  · exact hstr 210 "no such event" (mpt3 183 rfl) (by decide +kernel)
  · exact hstr 230 "no such piece" (mpt2 154 rfl) (by decide +kernel)
  · exact hstr 232 "no such loop or bridge" (mpt3 40 rfl) (by decide +kernel)
  · exact hstr 234 "no such mood" (mpt3 11 rfl) (by decide +kernel)
  · exact hstr 236 "no such slot" (mpt3 199 rfl) (by decide +kernel)
theorem st_kE {args : Array Value} {s : State} (hts : ∀ w ∈ lw_tbl, w.before args s = true) : kE s := ⟨va_Nw.of rfl (hts _ (mpt1 93 rfl)), va_Nw.of rfl (hts _ (mpt1 183 rfl)), va_Nw.of rfl (hts _ (mpt1 204 rfl)), va_AO.of (hts _ (mpt1 153 rfl))⟩
theorem st_arr {args : Array Value} {s : State} {ty : FieldType} (h : (Cond.arrayClass ty).before args s = true) : ∃ cA : ClassId, ArrOfT s cA ty ∧ s.vm.findClass ("[" ++ ty.toString) = some cA := by
  obtain ⟨c, k, comp, e1, e2, e3⟩ := Cond.arrayClass_spec h
  exact ⟨c, fun n z => ⟨fun k h => (by cases h), k, e2, comp, e3⟩, e1⟩
theorem st_arrS {s : State} (h : va_AO "MoodPlayer$State" s) : ∃ cA : ClassId, ArrOfT s cA (.object "MoodPlayer$State") ∧ va_RA s cA (.object "MoodPlayer$State") := by
  obtain ⟨comp, c, k, f1, -, f2, f3, f4⟩ := Cond.arrayOver_spec h
  exact ⟨c, fun n z => ⟨fun k h => (by cases h), k, f2, comp, f3⟩, k, comp, f2, f3, f1, f4⟩
theorem st_K {args : Array Value} {s : State} (hts : ∀ w ∈ WW, w.before args s = true) (hE : kE s) : ∃ (D : va_G) (y : CY), va_K D vwCl (mpT y) s := by
  obtain ⟨c0, i0, k0⟩ := u_known (C := RX0) (T := TX0) (N := 6) (n := 6) hts iW_X0 (hts _ mA_X0)
  obtain ⟨c1, i1, k1⟩ := u_known (C := RX1) (T := TX1) (N := 7) (n := 7) hts iW_X1 (hts _ mA_X1)
  obtain ⟨c2, i2, k2⟩ := u_known (C := RX2) (T := TX2) (N := 12) (n := 12) hts iW_X2 (hts _ mA_X2)
  obtain ⟨c3, i3, k3⟩ := u_known (C := RX3) (T := TX3) (N := 13) (n := 13) hts iW_X3 (hts _ mA_X3)
  obtain ⟨c4, i4, k4⟩ := u_known (C := RX4) (T := TX4) (N := 2) (n := 2) hts iW_X4 (hts _ mA_X4)
  obtain ⟨c5, i5, k5⟩ := u_known (C := RX5) (T := TX5) (N := 6) (n := 6) hts iW_X5 (hts _ mA_X5)
  obtain ⟨c6, i6, k6⟩ := u_known (C := RX6) (T := TX6) (N := 31) (n := 31) hts iW_X6 (hts _ mA_X6)
  obtain ⟨cI, aI, fI⟩ := st_arr (hts _ mJ_int)
  obtain ⟨cJ, aJ, fJ⟩ := st_arr (hts _ mJ_long)
  obtain ⟨cZ, aZ, fZ⟩ := st_arr (hts _ mJ_boolean)
  obtain ⟨cS, aS, fS⟩ := st_arrS hE.2.2.2
  refine ⟨(fun k => if k = 0 then c0 else if k = 1 then c1 else if k = 2 then c2 else if k = 3 then c3 else if k = 4 then c4 else if k = 5 then c5 else c6, fun k => if k = 0 then i0 else if k = 1 then i1 else if k = 2 then i2 else if k = 3 then i3 else if k = 4 then i4 else if k = 5 then i5 else i6), (cI, cJ, cZ, cS), ?_, ?_⟩
  · intro k q hq
    match k, hq with
    | 0, hq => cases hq; exact k0
    | 1, hq => cases hq; exact k1
    | 2, hq => cases hq; exact k2
    | 3, hq => cases hq; exact k3
    | 4, hq => cases hq; exact k4
    | 5, hq => cases hq; exact k5
    | 6, hq => cases hq; exact k6
    | k + 7, hq => simp [vwCl] at hq
  · intro k q hq
    match k, hq with
    | 0, hq => cases hq; exact ⟨aI, fI⟩
    | 1, hq => cases hq; exact ⟨aJ, fJ⟩
    | 2, hq => cases hq; exact ⟨aZ, fZ⟩
    | 3, hq => cases hq; exact ⟨aS, fS⟩
    | k + 4, hq => simp [mpT] at hq
set_option maxHeartbeats 8000000 in
set_option maxRecDepth 100000 in
theorem whole_startR {p : Program} {e : Env} {s : State} {m : MethodId} {below : List Frame} {meth : Method} {c : Code} (l : Launch) (hlt : l.stackTraces = false) {Rel : Nat → PD → PD → Prop} (HR : LawPure Rel) (h0 : Rel 0 x0 z0) {b L : Nat} {xs : Nat → Int32} (hL : L ≤ 3072) (C0 : lw_At p s m meth c b L xs) : W p l e room_1 s m #[Value.ref b] below meth c s.heap [] 0 0 (lw_Z below #[Value.ref b] s) (entryFrame m ([Value.ref b] : List Value).toArray 8) := by
  obtain ⟨hx, hb, hr, hml, hown, htl, hX, hbl, hlocks, hgv⟩ := C0
  have hts : ∀ w ∈ WW, w.before #[Value.ref b] s = true := fun w hw => htl w (mpw_good w hw).1
  have hT := st_thE htl hgv
  have hE := st_kE htl
  obtain ⟨D, y, hK⟩ := st_K hts hE
  have hown : s.vm.findClass RL = some m.cls := hown
  have X : mpX p s m #[Value.ref b] meth c code 8 ret RL := ⟨⟨hx, hb, hml, hown, hts⟩, hr, hlocks⟩
  have hA : ∀ q : Nat, s.heap.size ≤ q → (fun q : Nat => s.heap.size ≤ q) q := fun _ h => h
  have hS : va_S (fun q : Nat => s.heap.size ≤ q) s.heap s.heap [] := va_S.rf
  have hP : va_P D vwCl [] s.heap := fun k q h => by simp at h
  have hD : va_D (fun q : Nat => s.heap.size ≤ q) [] := ⟨fun i j p q h => by simp at h, fun k q h => by simp at h⟩
  have hl := lv_entry ([.ref b]) (n := 8) (Nat.le_of_ble_eq_true rfl)
  rw [lg_entry_eq]
  generalize (lg_sl ([.ref b]) ++ List.replicate (8 - (lg_sl ([.ref b])).length) Slot.unset).toArray = ls at hl ⊢
  have hl : lv_has ls 8 [(0, .ref b)] := hl
  refine va_new (ci := 5) (fs := [.null, .null, .null, .null, .null, .null]) (C := RX5) (T := TX5) (N := 6) hx hb hts iW_X5 tyX5 tyX5_ok hown (hts _ mG_L_8) (hts _ mA_X5) (hts _ mN_X5) hK hP hD hS hA rfl (by decide +kernel) (Nat.le_of_ble_eq_true rfl) (Nat.le_of_ble_eq_true rfl) dL_law_0 (fun q0 H hP hD hS => ?_)
  have hP : va_P D vwCl ([] ++ ([(q0, .inr (5, [.null, .null, .null, .null, .null, .null]))] ++ [])) H := hP
  have hD : va_D (fun q : Nat => s.heap.size ≤ q) ([] ++ ([(q0, .inr (5, [.null, .null, .null, .null, .null, .null]))] ++ [])) := hD
  refine W.widen (k := 1) (n := 6) (by decide) (by decide) ?_
  refine lv_dup hx hb dL_law_3 rfl ?_
  refine mp_kback (Wf := w_X5 y q0) (pre := []) (suf := []) (va_runI (As := []) (rest := [.ref q0]) X.1 (k_X5 l D y q0 H.size) (cwI (Ts := WW) (ws' := WW) 0 hts (mp_gk mC_X5_init) rfl rfl rfl (hts _ mN_X5) (hts _ mM_L_64) (hts _ mI_X5_init) rfl (by decide +kernel) ⟨(Nat.le_of_ble_eq_true rfl), (Nat.le_of_ble_eq_true rfl)⟩) (mp_kpre hE hK hP hD) rfl rfl hl.1 rfl (lv_room (Nat.le_of_ble_eq_true rfl)) dL_law_4 ⟨(Nat.le_of_ble_eq_true rfl), (Nat.le_of_ble_eq_true rfl)⟩) hP hD hS hA (fun b1 H locs hP hD hS => ?_)
  rw [List.nil_append, List.append_nil] at hP hD
  refine W.widen (k := 45) (n := 1827) (by decide) (by decide) ?_
  refine lv_astore_n (lv' := [(1, .ref q0), (0, .ref b)]) hx hb dL_law_7 rfl hl (by decide) rfl (fun ls hl => ?_)
  refine va_new (ci := 6) (fs := [.int 0, .int 0, .int 0, .null, .null, .null, .null, .null, .null, .null, .null, .null, .null, .null, .null, .long 0, .long 0, .null, .null, .null, .int 0, .int 0, .int 0, .null, .null, .null, .null, .int 0, .null, .null, .null]) (C := RX6) (T := TX6) (N := 31) hx hb hts iW_X6 tyX6 tyX6_ok hown (hts _ mG_L_65) (hts _ mA_X6) (hts _ mN_X6) hK hP hD hS hA rfl (by decide +kernel) (Nat.le_of_ble_eq_true rfl) (Nat.le_of_ble_eq_true rfl) dL_law_8 (fun q1 H hP hD hS => ?_)
  have hP : va_P D vwCl (w_X5 y q0 b1 ++ ([(q1, .inr (6, [.int 0, .int 0, .int 0, .null, .null, .null, .null, .null, .null, .null, .null, .null, .null, .null, .null, .long 0, .long 0, .null, .null, .null, .int 0, .int 0, .int 0, .null, .null, .null, .null, .int 0, .null, .null, .null]))] ++ [])) H := hP
  have hD : va_D (fun q : Nat => s.heap.size ≤ q) (w_X5 y q0 b1 ++ ([(q1, .inr (6, [.int 0, .int 0, .int 0, .null, .null, .null, .null, .null, .null, .null, .null, .null, .null, .null, .null, .long 0, .long 0, .null, .null, .null, .int 0, .int 0, .int 0, .null, .null, .null, .null, .int 0, .null, .null, .null]))] ++ [])) := hD
  refine W.widen (k := 46) (n := 1858) (by decide) (by decide) ?_
  refine lv_dup hx hb dL_law_11 rfl ?_
  refine mp_kback (Wf := w_X6 y q1) (pre := w_X5 y q0 b1) (suf := []) (va_runI (As := []) (rest := [.ref q1]) X.1 (k_X6 l D y q1 H.size) (cwI (Ts := WW) (ws' := WW) 0 hts (mp_gk mC_X6_init) rfl rfl rfl (hts _ mN_X6) (hts _ mM_L_67) (hts _ mI_X6_init) rfl (by decide +kernel) ⟨(Nat.le_of_ble_eq_true rfl), (Nat.le_of_ble_eq_true rfl)⟩) (mp_kpre hE hK hP hD) rfl rfl hl.1 rfl (lv_room (Nat.le_of_ble_eq_true rfl)) dL_law_12 ⟨(Nat.le_of_ble_eq_true rfl), (Nat.le_of_ble_eq_true rfl)⟩) hP hD hS hA (fun b2 H locs hP hD hS => ?_)
  rw [List.append_nil] at hP hD
  refine W.widen (k := 68) (n := 3644) (by decide) (by decide) ?_
  refine lv_astore_n (lv' := [(2, .ref q1), (1, .ref q0), (0, .ref b)]) hx hb dL_law_15 rfl hl (by decide) rfl (fun ls hl => ?_)
  refine lv_iconst (v := 1) hx hb dL_law_16 (by decide) ?_
  refine mp_newJ 1 X hK hP hD hS hA (by decide) (by decide) (by decide) (Nat.le_of_ble_eq_true rfl) (Nat.le_of_ble_eq_true rfl) dL_law_17 (fun q2 H hP hD hS => ?_)
  refine W.widen (k := 69) (n := 3645) (by decide) (by decide) ?_
  refine lv_astore_n (lv' := [(3, .ref q2), (2, .ref q1), (1, .ref q0), (0, .ref b)]) hx hb dL_law_19 rfl hl (by decide) rfl (fun ls hl => ?_)
  refine lv_iconst (v := 0) hx hb dL_law_20 (by decide) ?_
  refine lv_istore (lv' := [(4, .int 0), (3, .ref q2), (2, .ref q1), (1, .ref q0), (0, .ref b)]) hx hb dL_law_21 hl (by decide) rfl (fun ls hl => ?_)
  have hP := hP.sub [0, 1, 2, 3, 4, 5, 6, 7, 8, 9, 10, 11, 12, 13, 14, 15, 29, 30, 31, 32, 33, 34, 35, 36, 37, 38, 39, 40, 41, 42, 43, 44, 16, 17, 18, 19, 20, 21, 22, 23, 24, 25, 26, 27, 28, 68, 45, 46, 47, 48, 49, 50, 51, 52, 53, 54, 55, 56, 57, 58, 59, 60, 61, 62, 63, 64, 65, 66, 67] (st_perm y q0 q1 q2 b1 b2)
  have hD := hD.sub [0, 1, 2, 3, 4, 5, 6, 7, 8, 9, 10, 11, 12, 13, 14, 15, 29, 30, 31, 32, 33, 34, 35, 36, 37, 38, 39, 40, 41, 42, 43, 44, 16, 17, 18, 19, 20, 21, 22, 23, 24, 25, 26, 27, 28, 68, 45, 46, 47, 48, 49, 50, 51, 52, 53, 54, 55, 56, 57, 58, 59, 60, 61, 62, 63, 64, 65, 66, 67] (by decide) (st_permD y q0 q1 q2 b1 b2)
  exact law_loop (a := aP q0 q2 b1) (am := aM q1 b2) HR hL X hlt hT hK hX hbl 513 0 x0 z0 H locs ls (Nat.zero_le _) (by omega) h0 hP hD hS (lv_sub hl [4, 3, 2, 1, 0] rfl)
