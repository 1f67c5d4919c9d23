/-! ===== calls out of the law: the player's world beside the model's ===== -/
section LWB
variable {p : Program} {l : Launch} {e : Env} {R : Room} {s : State} {m : MethodId} {args : Array Value} {below : List Frame} {meth : Method} {c : Code} {H H0 : Heap} {locs : List Loc} {cells slots : Nat} {Q : State → Prop}
variable {D : va_G} {y : CY} {A : Nat → Prop} {cc : ByteArray} {nL : Nat} {ret : Option FieldType} {own : String} {pc : Nat} {ls : Array Slot} {rest st0 : List Value} {w0 w1 pre suf : va_W}
theorem mp_csH {n : MethodName} {cc2 : ByteArray} {nL2 index k mc ms : Nat} {ret2 : Option FieldType} {hh : List (Nat × Nat × Nat × Nat)} {rm : Room} (hts : ∀ w ∈ WW, w.before args s = true) (h1 : Cond.methodLink own index n ∈ WW) (h2 : Cond.static n ∈ WW) (h4 : Cond.initialized n.cls ∈ WW) (h5 : Cond.codeWith n cc2 nL2 ret2 hh ∈ WW) (hrc : rm.cells = mc) (hrs : rm.slots = ms)
    (hd : n.cls ≠ "java/lang/invoke/MethodHandle" ∧ n.cls ≠ "java/lang/invoke/VarHandle" ∧ (parseMethodDescriptor n.desc).map (fun d => d.parameters.length) = some k) (hR : rm.frames + 1 ≤ R.frames ∧ 8 + (nL2 + 11) + rm.locals ≤ R.locals) :
    vx_CSW R s args own index n cc2 nL2 ret2 hh (Cond.codeWith n cc2 nL2 ret2 hh :: WW) rm mc ms k :=
  vx_cwSW (Ts := WW) (ws' := WW) k hts (fun w hw => mpw_goodWW w (by
    rcases List.mem_append.mp hw with h | h
    · rcases List.mem_cons.mp h with rfl | h
      · exact h1
      rcases List.mem_cons.mp h with rfl | h
      · exact h2
      rcases List.mem_cons.mp h with rfl | h
      · exact h4
      · cases h
    · rcases List.mem_cons.mp h with rfl | h
      · exact h5
      · exact h)) rfl hrc hrs hd hR
/-- a helper that comes back -/
theorem lw_callH {n : MethodName} {cc2 : ByteArray} {nL2 index k : Nat} {ret2 : Option FieldType} {hh : List (Nat × Nat × Nat × Nat)} {rm : Room} {v : Value} {As : List Value} (X : mpX p s m args meth c cc nL ret own) (hM : mpMH l D y n cc2 nL2 ret2 hh rm w0 w1 As (some v)) (cw : vx_CSW R s args own index n cc2 nL2 ret2 hh (Cond.codeWith n cc2 nL2 ret2 hh :: WW) rm 0 0 k)
    (hK : va_K D vwCl (mpT y) s) (hP : va_P D vwCl (w0 ++ suf) H) (hD : va_D A (w0 ++ suf)) (hS : va_S A H0 H locs) (hA : ∀ q, H0.size ≤ q → A q) (hn : As.length = k) (hsz : ls.size = nL) (hst : st0 = As.reverse ++ rest) (hW : (rest.map fun v => v.category).sum ≤ 8) (hdg : decode cc pc = .ok (.invokestatic index, 3)) (hf : cells ≤ R.cells ∧ slots ≤ R.slots)
    (kk : ∀ (H1 : Heap) (locs1 : List Loc), va_P D vwCl (w1 ++ suf) H1 → va_D A (w1 ++ suf) → va_S A H0 H1 locs1 → W p l e R s m args below meth c H1 locs1 cells slots Q (F0 m (pc + 3) ls (v :: rest))) : W p l e R s m args below meth c H locs cells slots Q (F0 m pc ls st0) :=
  mp_backF (pre := []) (vx_runSW (As := As) (rest := rest) X.1 (hM H.size) cw ⟨mpB_blind, fun U hU hW => ⟨rfl, by rw [hU], by rw [hU]; exact fr_subP (pre := []) hP, va_K.moved hW.alike hK, (fr_sub (pre := []) hD).weaken (fun _ _ _ _ => trivial)⟩⟩ rfl hn hsz hst (lv_room hW) hdg hf) hP hD hS hA kk
/-- a helper in which something is thrown and caught -/
theorem lw_callT {n : MethodName} {cc2 : ByteArray} {nL2 index k : Nat} {ret2 : Option FieldType} {hh : List (Nat × Nat × Nat × Nat)} {rm : Room} {v : Value} {As : List Value} (X : mpX p s m args meth c cc nL ret own) (hT : thE A s s.heap) (hM : mpTH l D y n cc2 nL2 ret2 hh rm w0 As (some v)) (cw : vx_CSW R s args own index n cc2 nL2 ret2 hh (Cond.codeWith n cc2 nL2 ret2 hh :: WW) rm 1 6 k)
    (hK : va_K D vwCl (mpT y) s) (hP : va_P D vwCl (w0 ++ suf) H) (hD : va_D A (w0 ++ suf)) (hS : va_S A s.heap H locs) (hA : ∀ q, s.heap.size ≤ q → A q) (hn : As.length = k) (hsz : ls.size = nL) (hst : st0 = As.reverse ++ rest) (hW : (rest.map fun v => v.category).sum ≤ 8) (hdg : decode cc pc = .ok (.invokestatic index, 3)) (hf : cells + 1 ≤ R.cells ∧ slots + 6 ≤ R.slots)
    (kk : ∀ (H1 : Heap) (locs1 : List Loc), va_P D vwCl (w0 ++ suf) H1 → va_D A (w0 ++ suf) → va_S A s.heap H1 locs1 → W p l e R s m args below meth c H1 locs1 (cells + 1) (slots + 6) Q (F0 m (pc + 3) ls (v :: rest))) : W p l e R s m args below meth c H locs cells slots Q (F0 m pc ls st0) := by
  have hFr := mp_free (fr_sub (pre := []) hD) hS hA
  refine mp_backF (pre := []) (vx_runSW (As := As) (rest := rest) X.1 (hM H.size) cw ⟨mpTB_blind, fun U hU hW => ⟨rfl, ⟨by rw [hU], by rw [hU]; exact fr_subP (pre := []) hP, va_K.moved hW.alike hK, (fr_sub (pre := []) hD).weaken (fun _ _ _ _ => trivial)⟩, ?_⟩⟩ rfl hn hsz hst (lv_room hW) hdg hf) hP hD hS hA kk
  rw [hU]
  exact ((hT.kept hS.2.1).narrow hFr).warm hW
/-- a call of the player itself -/
theorem lw_callP {n : MethodName} {cc2 : ByteArray} {nL2 index k ci b : Nat} {ret2 : Option FieldType} {rm : Room} {v : Value} {As : List Value} {C : String} {T9 : u_T} {N9 : Nat} {fs : List Value} (X : mpX p s m args meth c cc nL ret own) (hM : mpM l D y n cc2 nL2 ret2 rm w0 w1 (.ref b :: As) (some v)) (cw : CallW R s args own C index n cc2 nL2 ret2 (Cond.code n cc2 nL2 ret2 :: WW) rm 0 0 k)
    (hK : va_K D vwCl (mpT y) s) (hP : va_P D vwCl (w0 ++ suf) H) (hD : va_D A (w0 ++ suf)) (hS : va_S A H0 H locs) (hA : ∀ q, H0.size ≤ q → A q) (q0 : Nat) (he : w0[q0]? = some (b, .inr (ci, fs))) (hc : vwCl[ci]? = some (C, T9, N9)) (hn : As.length = k) (hsz : ls.size = nL) (hst : st0 = As.reverse ++ .ref b :: rest) (hW : (rest.map fun v => v.category).sum ≤ 8) (hdg : decode cc pc = .ok (.invokevirtual index, 3)) (hf : cells ≤ R.cells ∧ slots ≤ R.slots)
    (kk : ∀ (H1 : Heap) (locs1 : List Loc), va_P D vwCl (w1 ++ suf) H1 → va_D A (w1 ++ suf) → va_S A H0 H1 locs1 → W p l e R s m args below meth c H1 locs1 cells slots Q (F0 m (pc + 3) ls (v :: rest))) : W p l e R s m args below meth c H locs cells slots Q (F0 m pc ls st0) :=
  mp_backF (pre := []) (va_runV (As := As) (rest := rest) X.1 (hM H.size) cw ⟨mpB_blind, va_recv hK (fr_subP (pre := []) hP) hc he, fun U hU hW => ⟨rfl, by rw [hU], by rw [hU]; exact fr_subP (pre := []) hP, va_K.moved hW.alike hK, (fr_sub (pre := []) hD).weaken (fun _ _ _ _ => trivial)⟩⟩ rfl hn hsz hst (lv_room hW) hdg hf) hP hD hS hA kk
/-- a call of the model -/
theorem lw_callM {n : MethodName} {cc2 : ByteArray} {nL2 index k ci b : Nat} {ret2 : Option FieldType} {rm : Room} {v : Value} {As : List Value} {C : String} {T9 : u_T} {N9 : Nat} {fs : List Value} (X : mpX p s m args meth c cc nL ret own) (hM : mpM l D y n cc2 nL2 ret2 rm w0 w1 (.ref b :: As) (some v)) (cw : CallW R s args own C index n cc2 nL2 ret2 (Cond.code n cc2 nL2 ret2 :: WW) rm 0 0 k)
    (hK : va_K D vwCl (mpT y) s) (hP : va_P D vwCl (pre ++ w0) H) (hD : va_D A (pre ++ w0)) (hS : va_S A H0 H locs) (hA : ∀ q, H0.size ≤ q → A q) (q0 : Nat) (he : w0[q0]? = some (b, .inr (ci, fs))) (hc : vwCl[ci]? = some (C, T9, N9)) (hn : As.length = k) (hsz : ls.size = nL) (hst : st0 = As.reverse ++ .ref b :: rest) (hW : (rest.map fun v => v.category).sum ≤ 8) (hdg : decode cc pc = .ok (.invokevirtual index, 3)) (hf : cells ≤ R.cells ∧ slots ≤ R.slots)
    (kk : ∀ (H1 : Heap) (locs1 : List Loc), va_P D vwCl (pre ++ w1) H1 → va_D A (pre ++ w1) → va_S A H0 H1 locs1 → W p l e R s m args below meth c H1 locs1 cells slots Q (F0 m (pc + 3) ls (v :: rest))) : W p l e R s m args below meth c H locs cells slots Q (F0 m pc ls st0) := by
  have hP' : va_P D vwCl (pre ++ (w0 ++ [])) H := by rw [List.append_nil]; exact hP
  have hD' : va_D A (pre ++ (w0 ++ [])) := by rw [List.append_nil]; exact hD
  refine mp_backF (suf := []) (va_runV (As := As) (rest := rest) X.1 (hM H.size) cw ⟨mpB_blind, va_recv hK (fr_subP hP') hc he, fun U hU hW => ⟨rfl, by rw [hU], by rw [hU]; exact fr_subP hP', va_K.moved hW.alike hK, (fr_sub hD').weaken (fun _ _ _ _ => trivial)⟩⟩ rfl hn hsz hst (lv_room hW) hdg hf) hP' hD' hS hA (fun H1 locs1 k1 k2 k3 => kk H1 locs1 ?_ ?_ k3)
  · rw [List.append_nil] at k1; exact k1
  · rw [List.append_nil] at k2; exact k2
end LWB
