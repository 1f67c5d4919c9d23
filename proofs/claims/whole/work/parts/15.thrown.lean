/-! ===== methods that throw: what a throw rests on, their contracts ===== -/
def xNSE : String := "java/util/NoSuchElementException"
def xIAE : String := "java/lang/IllegalArgumentException"
def xUp : List String := ["java/lang/RuntimeException", "java/lang/Exception"]
/-- the exception of a number: 1 the one, else the other -/
def exN (e : Nat) : String := if e = 1 then xNSE else xIAE
def orT {α : Type} (o k : Option α) : Option α := match o with
  | some a => some a
  | none => k
theorem orT_elim {α : Type} {o k : Option α} {z : α} (h : orT o k = some z) : o = some z ∨ (o = none ∧ k = some z) := by
  cases o with
  | none => exact Or.inr ⟨rfl, h⟩
  | some a => exact Or.inl h
def thS : List (Nat × String) := [(69, "no such price"), (115, "no such step"), (157, "n is not 0 to 20000"), (205, "no such what"), (210, "no such event"), (230, "no such piece"), (232, "no such loop or bridge"), (234, "no such mood"), (236, "no such slot")]
abbrev xRx : ByteArray := prog_17_method_4_code
theorem xRx_0 : decode xRx 0 = .ok (.aload_n 0, 1) := by decide +kernel
theorem xRx_1 : decode xRx 1 = .ok (.aload_n 1, 1) := by decide +kernel
theorem xRx_2 : decode xRx 2 = .ok (.invokespecial 13, 3) := by decide +kernel
theorem xRx_5 : decode xRx 5 = .ok (.return_, 1) := by decide +kernel
abbrev xB (X : String) : List Cond := [Cond.castable X X, Cond.declares (Bundle.initS "java/lang/RuntimeException"), Cond.declares (Bundle.initS "java/lang/Exception"), Cond.declares (Bundle.initS Bundle.tN)]
set_option maxRecDepth 20000 in
theorem thW_N : ∀ w ∈ (mp_atSX RX5 117 xNSE 13 xRx xUp).filter goodWord, w ∈ lw_tbl := by decide +kernel
set_option maxRecDepth 20000 in
theorem thW_I : ∀ w ∈ (vx_atS RX5 71 xIAE xUp).filter goodWord, w ∈ lw_tbl := by decide +kernel
set_option maxRecDepth 20000 in
theorem thB_N : ∀ w ∈ (mp_atSX RX5 117 xNSE 13 xRx xUp).filter (fun w => !goodWord w), w ∈ xB xNSE := by decide +kernel
set_option maxRecDepth 20000 in
theorem thB_I : ∀ w ∈ (vx_atS RX5 71 xIAE xUp).filter (fun w => !goodWord w), w ∈ xB xIAE := by decide +kernel
set_option maxRecDepth 20000 in
theorem thG_N : ∀ w ∈ Cond.classLink RX5 113 xNSE :: Cond.initialized xNSE :: mp_atSX RX5 117 xNSE 13 xRx xUp, vx_ot w = true := by decide +kernel
set_option maxRecDepth 20000 in
theorem thG_I : ∀ w ∈ Cond.classLink RX5 67 xIAE :: Cond.initialized xIAE :: vx_atS RX5 71 xIAE xUp, vx_ot w = true := by decide +kernel
/-- what a throw rests on, beside the words -/
def thE (A : Nat → Prop) (U : State) (H : Heap) : Prop :=
  (va_Nw (.castable xNSE xNSE) U ∧ va_Nw (.castable xIAE xIAE) U ∧ va_Nw (.declares (Bundle.initS "java/lang/RuntimeException")) U ∧ va_Nw (.declares (Bundle.initS "java/lang/Exception")) U ∧ va_Nw (.declares (Bundle.initS Bundle.tN)) U) ∧ va_Nc xIAE xNSE U ∧ (∀ q ∈ thS, ∃ sa, vk_R RX5 q.1 q.2 sa U) ∧ vx_Zq Bundle.tN "UNASSIGNED_STACK" Bundle.steD A U H ∧ vx_Zq Bundle.tN "SUPPRESSED_SENTINEL" Bundle.listD A U H
theorem thE.warm {A : Nat → Prop} {s U : State} {H : Heap} (hW : s.WarmedH U.vm) (h : thE A s H) : thE A U H := by
  obtain ⟨⟨h1, h2, d1, d2, d3⟩, h3, h4, h5, h6⟩ := h
  exact ⟨⟨va_Nw.warmC hW h1, va_Nw.warmC hW h2, va_Nw.warmD hW d1, va_Nw.warmD hW d2, va_Nw.warmD hW d3⟩, h3.moved hW.alike, fun q hq => (h4 q hq).elim (fun sa h => ⟨sa, h.warm hW⟩), h5.moved hW.alike, h6.moved hW.alike⟩
theorem thE.same {A : Nat → Prop} {s U : State} {H : Heap} (hv : U.vm = s.vm) (h : thE A s H) : thE A U H := by
  obtain ⟨⟨h1, h2, d1, d2, d3⟩, h3, h4, h5, h6⟩ := h
  have hal : s.vm.Alike U.vm := by rw [hv]; exact Vm.Alike.refl s.vm
  exact ⟨⟨va_Nw.same rfl hv.symm h1, va_Nw.same rfl hv.symm h2, va_Nw.same rfl hv.symm d1, va_Nw.same rfl hv.symm d2, va_Nw.same rfl hv.symm d3⟩, h3.moved hal, fun q hq => (h4 q hq).elim (fun sa h => ⟨sa, h.same hv⟩), h5.moved hal, h6.moved hal⟩
theorem thE.kept {A : Nat → Prop} {U : State} {H H1 : Heap} (h : thE A U H) (hq : ∀ a : Nat, a < H.size → ¬ A a → H1[a]? = H[a]?) : thE A U H1 := by
  obtain ⟨h1, h3, h4, h5, h6⟩ := h
  exact ⟨h1, h3, h4, h5.kept hq, h6.kept hq⟩
theorem thE.narrow {A B : Nat → Prop} {U : State} {H : Heap} (h : thE A U H) (hAB : ∀ q, B q → A q) : thE B U H := by
  obtain ⟨h1, h3, h4, h5, h6⟩ := h
  exact ⟨h1, h3, h4, h5.narrow hAB, h6.narrow hAB⟩
def mpTB (D : va_G) (y : CY) (w0 : va_W) (sz : Nat) : State → Prop := fun U => (U.heap.size = sz ∧ va_P D vwCl w0 U.heap ∧ va_K D vwCl (mpT y) U ∧ va_D (fun _ => True) w0) ∧ thE (va_A w0 sz) U U.heap
def mpTX (D : va_G) (y : CY) (A : Nat → Prop) (w0 : va_W) (e : Nat) : String → State → State → Prop := fun E st t => E = exN e ∧ va_P D vwCl w0 t.heap ∧ va_K D vwCl (mpT y) t ∧ va_F A st t
def mpTQ : Array Value → State → Outcome → State → Prop := fun _ _ _ _ => False
def mpTM (l : Launch) (D : va_G) (y : CY) (n : MethodName) (cc : ByteArray) (nL : Nat) (ret : Option FieldType) (rm : Room) (w0 : va_W) (av : List Value) (e : Nat) : Prop :=
  ∀ sz : Nat, vx_Met l n (Cond.code n cc nL ret :: WW) rm (va_Pc av (mpTB D y w0 sz)) mpTQ (mpTX D y (va_A w0 sz) w0 e) 1 6 (va_A w0 sz)
theorem mpTM.mk {l : Launch} {D : va_G} {y : CY} {n : MethodName} {cc : ByteArray} {nL : Nat} {ret : Option FieldType} {rm : Room} {w0 : va_W} {av : List Value} {e0 : Nat} {own : String} (hy : plainName n.cls = true) (ho : n.cls = own) (hn : (lg_sl av).length ≤ nL)
    (body : ∀ (p : Program) (e : Env) (s : State) (m : MethodId) (below : List Frame) (meth : Method) (c : Code) (A : Nat → Prop) (ls : Array Slot), mpX p s m av.toArray meth c cc nL ret own → (∀ x ∈ c.exceptionTable.toList, False) → thE A s s.heap → va_K D vwCl (mpT y) s → (∀ q, s.heap.size ≤ q → A q) → va_P D vwCl w0 s.heap → va_D A w0 → lv_has ls nL (lv_args 0 av) →
      W p l e rm s m av.toArray below meth c s.heap [] 0 0 (vx_MQ below mpTQ (mpTX D y A w0 e0) av.toArray s 1 6 A) (F0 m 0 ls [])) : mpTM l D y n cc nL ret rm w0 av e0 := by
  intro sz
  refine vx_ofW (cc := cc) (maxL := nL) (ret := ret) hy rfl ?_
  intro p e s m args below meth c s₁ B hml ht hv
  obtain ⟨rfl, ⟨hsz, hP, hK, hD0⟩, hT⟩ := hv
  subst hsz
  have hts := atoms_spec (ws := Cond.code n cc nL ret :: WW) B.pre
  have hown : s.vm.findClass own = some m.cls := by rw [← ho]; exact findClass_of_methodNamed B.named
  have hD := hD0.self (sz := s.heap.size)
  rw [lg_entry_eq]
  exact body p e s m below meth c (va_A w0 s.heap.size) _ ⟨⟨B.exec, B.bytes, hml, hown, fun w h => hts w (List.mem_cons_of_mem _ h)⟩, B.returns, B.notSynchronized⟩ ht hT hK (fun q h => Or.inr h) hP hD (lv_entry av hn)
section MPT
variable {p : Program} {l : Launch} {e : Env} {R : Room} {s : State} {m : MethodId} {args : Array Value} {below : List Frame} {meth : Method} {c : Code} {H H0 : Heap} {locs : List Loc} {cells slots : Nat} {Q : State → Prop}
variable {D : va_G} {y : CY} {A : Nat → Prop} {cc : ByteArray} {nL : Nat} {ret : Option FieldType} {own : String} {pc : Nat} {ls : Array Slot} {rest st0 : List Value} {w0 w1 : va_W}
theorem mp_thx {e0 : Nat} {E : String} (hE : E = exN e0) (hK : va_K D vwCl (mpT y) s) (hP : va_P D vwCl w0 H) (hS : va_S A s.heap H locs) : ∀ t : State, s.vm.Alike t.vm → H.size ≤ t.heap.size → (∀ q : Nat, q < H.size → t.heap[q]? = H[q]?) → mpTX D y A w0 e0 E s t := by
  intro t hal hz hk
  refine ⟨hE, fun k q hq => (hP k q hq).kept (hk _ (hP k q hq).lt), va_K.moved hal hK, Nat.le_trans hS.1 hz, fun q h1 h2 => ?_⟩
  rw [hk q (Nat.lt_of_lt_of_le h1 hS.1)]
  exact hS.2.1 q h1 h2
/-- throw new NoSuchElementException(text) in the player -/
theorem mp_throwN {k : Nat} {text : String} (X : mpX p s m args meth c cc nL ret RX5) (hl : l.stackTraces = false) (ht : ∀ x ∈ c.exceptionTable.toList, False) (hT : thE A s s.heap) (hK : va_K D vwCl (mpT y) s) (hP : va_P D vwCl w0 H) (hS : va_S A s.heap H locs) (hq : (k, text) ∈ thS) (hsz : ls.size = nL)
    (d0 : decode cc pc = .ok (.new 113, 3)) (d3 : decode cc (pc + 3) = .ok (.dup, 1)) (d4 : decode cc (pc + 4) = .ok (.ldc k, 2)) (d6 : decode cc (pc + 6) = .ok (.invokespecial 117, 3)) (d9 : decode cc (pc + 9) = .ok (.athrow, 1)) (hR : 5 < R.frames ∧ (rest.map fun v => v.category).sum + 82 ≤ R.locals ∧ 1 ≤ R.cells ∧ 6 ≤ R.slots) :
    W p l e R s m args below meth c H locs 0 0 (vx_MQ below mpTQ (mpTX D y A w0 1) args s 1 6 A) (F0 m pc ls rest) := by
  obtain ⟨⟨hx, hb, hml, hown, hts⟩, hr, hlk⟩ := X
  obtain ⟨⟨h1, h2, z1, z2, z3⟩, h3, h4, h5, h6⟩ := hT
  obtain ⟨sa, hstr⟩ := h4 _ hq
  exact mp_throwSX xRx_0 xRx_1 xRx_2 xRx_5 (names := xUp) (cls := xNSE) hx hb hl hown (by decide +kernel) (by decide +kernel) (hts _ mG_X5_113) (hts _ mN_NoSuchElementException) hstr
    (vx_hat (fun w hw => hts w (mpw_in (thW_N w hw) (List.mem_filter.mp hw).2)) thB_N (vx_c (va_Nw.use rfl h1) (vx_c (va_Nw.use rfl z1) (vx_c (va_Nw.use rfl z2) (vx_c (va_Nw.use rfl z3) vx_n))))) thG_N h5 h6 hS (hsz.trans hml.symm) d0 d3 d4 d6 d9 (fun x hx => (ht x hx).elim) hR.1 hR.2.1 (by have := hR.2.2.1; omega) (by have := hR.2.2.2; omega) hlk (mp_thx rfl hK hP hS) hS.2.2 (Nat.le_refl _) (Nat.le_refl _)
theorem mp_throwI {k : Nat} {text : String} (X : mpX p s m args meth c cc nL ret RX5) (hl : l.stackTraces = false) (ht : ∀ x ∈ c.exceptionTable.toList, False) (hT : thE A s s.heap) (hK : va_K D vwCl (mpT y) s) (hP : va_P D vwCl w0 H) (hS : va_S A s.heap H locs) (hq : (k, text) ∈ thS) (hsz : ls.size = nL)
    (d0 : decode cc pc = .ok (.new 67, 3)) (d3 : decode cc (pc + 3) = .ok (.dup, 1)) (d4 : decode cc (pc + 4) = .ok (.ldc k, 2)) (d6 : decode cc (pc + 6) = .ok (.invokespecial 71, 3)) (d9 : decode cc (pc + 9) = .ok (.athrow, 1)) (hR : 5 < R.frames ∧ (rest.map fun v => v.category).sum + 82 ≤ R.locals ∧ 1 ≤ R.cells ∧ 6 ≤ R.slots) :
    W p l e R s m args below meth c H locs 0 0 (vx_MQ below mpTQ (mpTX D y A w0 2) args s 1 6 A) (F0 m pc ls rest) := by
  obtain ⟨⟨hx, hb, hml, hown, hts⟩, hr, hlk⟩ := X
  obtain ⟨⟨h1, h2, z1, z2, z3⟩, h3, h4, h5, h6⟩ := hT
  obtain ⟨sa, hstr⟩ := h4 _ hq
  exact vx_throwS (names := xUp) (cls := xIAE) hx hb hl hown (by decide +kernel) (by decide +kernel) (hts _ mG_X5_67) (hts _ mN_IllegalArgumentException) hstr
    (vx_hat (fun w hw => hts w (mpw_in (thW_I w hw) (List.mem_filter.mp hw).2)) thB_I (vx_c (va_Nw.use rfl h2) (vx_c (va_Nw.use rfl z1) (vx_c (va_Nw.use rfl z2) (vx_c (va_Nw.use rfl z3) vx_n))))) thG_I h5 h6 hS (hsz.trans hml.symm) d0 d3 d4 d6 d9 (fun x hx => (ht x hx).elim) hR.1 hR.2.1 (by have := hR.2.2.1; omega) (by have := hR.2.2.2; omega) hlk (mp_thx rfl hK hP hS) hS.2.2 (Nat.le_refl _) (Nat.le_refl _)
theorem mpTB_blind {av : List Value} {sz : Nat} : FrameBlind (va_Pc av (mpTB D y w0 sz)) := fun a U g mk q => by
  obtain ⟨q0, ⟨q1, qP, qK, qD⟩, qT⟩ := q
  exact ⟨q0, ⟨q1, qP, va_K.moved (u := U) (U := U.calling g mk a) (Vm.Alike.refl U.vm) qK, qD⟩, qT.same rfl⟩
theorem mp_cwT {n : MethodName} {cc2 : ByteArray} {nL2 index k : Nat} {ret2 : Option FieldType} {rm : Room} {C : String} (hts : ∀ w ∈ WW, w.before args s = true) (h1 : Cond.methodLink own index n ∈ WW) (h2 : Cond.instanceMethod n ∈ WW) (h3 : Cond.selects C n n ∈ WW) (h4 : Cond.initialized C ∈ WW) (h5 : Cond.code n cc2 nL2 ret2 ∈ WW) (hrc : rm.cells = 1) (hrs : rm.slots = 6)
    (hd : n.cls = C ∧ n.cls ≠ "java/lang/invoke/MethodHandle" ∧ n.cls ≠ "java/lang/invoke/VarHandle" ∧ (parseMethodDescriptor n.desc).map (fun d => d.parameters.length) = some k) (hR : rm.frames + 1 ≤ R.frames ∧ 8 + (nL2 + 11) + rm.locals ≤ R.locals) :
    CallW R s args own C index n cc2 nL2 ret2 (Cond.code n cc2 nL2 ret2 :: WW) rm 1 6 k :=
  cwV (Ts := WW) (ws' := WW) k hts (fun w hw => mpw_goodWW w (by
    rcases List.mem_append.mp hw with h | h
    · rcases List.mem_cons.mp h with rfl | h
      · exact h1
      rcases List.mem_cons.mp h with rfl | h
      · exact h2
      rcases List.mem_cons.mp h with rfl | h
      · exact h3
      rcases List.mem_cons.mp h with rfl | h
      · exact h4
      · cases h
    · rcases List.mem_cons.mp h with rfl | h
      · exact h5
      · exact h)) rfl hrc hrs hd hR
/-- a call that throws: what holds then -/
theorem mp_tback {a0 : Array Value} {e0 : Nat} (hr : vx_Run p l e R s m args below meth c H locs cells slots 1 6 (F0 m pc ls st0) rest (mpTQ a0) (mpTX D y (va_A w0 H.size) w0 e0) (va_A w0 H.size)) (hD : va_D A w0) (hS : va_S A H0 H locs) (hA : ∀ q, H0.size ≤ q → A q)
    (kk : ∀ (H1 : Heap) (locs1 : List Loc) (q9 : Addr) (ce : Cell), va_P D vwCl w0 H1 → va_D A w0 → va_S A H0 H1 locs1 → H1[q9]? = some ce → ce.vm = .none → s.vm.findClass (exN e0) = some ce.cls → vx_W p l e R s m args below meth c H1 locs1 (cells + 1) (slots + 6) Q (F0 m pc ls rest) q9) : W p l e R s m args below meth c H locs cells slots Q (F0 m pc ls st0) := by
  have hF := mp_free hD hS hA
  intro T hT X
  rcases hr T hT X with ⟨v, st₀, t, T', L, h0, X', hL, e1, e2, hq, st⟩ | ⟨q, st₀, t, T', L, E, ce, h0, X', hL, e1, e2, ⟨hE, hP1, hK1, hF1⟩, hce, hcv, hcl, st⟩
  · exact hq.elim
  · subst hE
    have hz : H.size ≤ T'.heap.size := by rw [e1, ← h0]; exact hF1.1
    have hS1 : va_S A H0 T'.heap (locs ++ L) := by
      refine ⟨Nat.le_trans hS.1 hz, fun q h1 h2 => ?_, fun q hq => ?_⟩
      · have h3 : q < H.size := Nat.lt_of_lt_of_le h1 hS.1
        have h4 := hF1.2 q (by rw [h0]; exact h3) (fun h => h2 (hF q h))
        rw [e1, h4, h0]
        exact hS.2.1 q h1 h2
      · rcases List.mem_append.mp hq with h | h
        · exact hS.2.2 q h
        · exact hF _ (hL q h)
    obtain ⟨t2, a1, b1⟩ := kk T'.heap (locs ++ L) q ce (by rw [e1]; exact hP1) hD hS1 (by rw [e1]; exact hce) hcv hcl T' rfl X'
    exact ⟨t2, st.trans a1, b1⟩
/-- a call of an instance method that throws, out of a method that doesn't catch it -/
theorem mp_tcall {n : MethodName} {cc2 : ByteArray} {nL2 index k ci b e0 : Nat} {ret2 : Option FieldType} {rm : Room} {As : List Value} {C : String} {T9 : u_T} {N9 : Nat} {fs : List Value} (X : mpX p s m args meth c cc nL ret own) (ht : ∀ x ∈ c.exceptionTable.toList, False) (hT : thE A s s.heap) (hM : mpTM l D y n cc2 nL2 ret2 rm w0 (.ref b :: As) e0) (cw : CallW R s args own C index n cc2 nL2 ret2 (Cond.code n cc2 nL2 ret2 :: WW) rm 1 6 k)
    (hK : va_K D vwCl (mpT y) s) (hP : va_P D vwCl w0 H) (hD : va_D A w0) (hS : va_S A s.heap H locs) (hA : ∀ q, s.heap.size ≤ q → A q) (q0 : Nat) (he : w0[q0]? = some (b, .inr (ci, fs))) (hc : vwCl[ci]? = some (C, T9, N9)) (hn : As.length = k) (hsz : ls.size = nL) (hst : st0 = As.reverse ++ .ref b :: rest) (hW : (rest.map fun v => v.category).sum ≤ 8) (hdg : decode cc pc = .ok (.invokevirtual index, 3)) (hf : 0 + 1 ≤ R.cells ∧ 0 + 6 ≤ R.slots) :
    W p l e R s m args below meth c H locs 0 0 (vx_MQ below mpTQ (mpTX D y A w0 e0) args s 1 6 A) (F0 m pc ls st0) := by
  have hFr := mp_free hD hS hA
  refine mp_tback (vx_runV (As := As) (rest := rest) X.1 (hM H.size) cw ⟨mpTB_blind, va_recv hK hP hc he, fun U hU hW => ⟨rfl, ⟨by rw [hU], by rw [hU]; exact hP, va_K.moved hW.alike hK, hD.weaken (fun _ _ _ _ => trivial)⟩, ?_⟩⟩ rfl hn hsz hst (lv_room hW) hdg hf) hD hS hA ?_
  · rw [hU]
    exact ((hT.kept hS.2.1).narrow hFr).warm hW
  · intro H1 locs1 q9 ce hP1 hD1 hS1 hce hcv hcl
    exact vx_out (fun x hx => (ht x hx).elim) X.2.2 hce hcv hcl (fun t ht9 hal => ⟨rfl, by rw [ht9]; exact hP1, va_K.moved hal hK, hS1.F ht9⟩) hS1.2.2 (Nat.le_refl _) (Nat.le_refl _)
end MPT
