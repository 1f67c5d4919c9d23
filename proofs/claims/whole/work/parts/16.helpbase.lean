/-! ===== the law's own helpers, with their tables of handlers ===== -/
def mpMH (l : Launch) (D : va_G) (y : CY) (n : MethodName) (cc : ByteArray) (nL : Nat) (ret : Option FieldType) (hh : List (Nat × Nat × Nat × Nat)) (rm : Room) (w0 w1 : va_W) (av : List Value) (rv : Option Value) : Prop :=
  ∀ sz : Nat, Met l n (Cond.codeWith n cc nL ret hh :: WW) rm (va_Pc av (mpB D y w0 sz)) (mpC D y (va_A w0 sz) w1 rv) 0 0 (va_A w0 sz)
def mpTH (l : Launch) (D : va_G) (y : CY) (n : MethodName) (cc : ByteArray) (nL : Nat) (ret : Option FieldType) (hh : List (Nat × Nat × Nat × Nat)) (rm : Room) (w0 : va_W) (av : List Value) (rv : Option Value) : Prop :=
  ∀ sz : Nat, Met l n (Cond.codeWith n cc nL ret hh :: WW) rm (va_Pc av (mpTB D y w0 sz)) (mpC D y (va_A w0 sz) w0 rv) 1 6 (va_A w0 sz)
theorem mpMH.mk {l : Launch} {D : va_G} {y : CY} {n : MethodName} {cc : ByteArray} {nL : Nat} {ret : Option FieldType} {hh : List (Nat × Nat × Nat × Nat)} {rm : Room} {w0 w1 : va_W} {av : List Value} {rv : Option Value} {own : String} (hy : plainName n.cls = true) (ho : n.cls = own) (hn : (lg_sl av).length ≤ nL)
    (body : ∀ (p : Program) (e : Env) (s : State) (m : MethodId) (below : List Frame) (meth : Method) (c : Code) (A : Nat → Prop) (ls : Array Slot), mpX p s m av.toArray meth c cc nL ret own → va_K D vwCl (mpT y) s → (∀ q, s.heap.size ≤ q → A q) → va_P D vwCl w0 s.heap → va_D A w0 → lv_has ls nL (lv_args 0 av) →
      W p l e rm s m av.toArray below meth c s.heap [] 0 0 (MQ below (mpC D y A w1 rv) av.toArray s 0 0 A) (F0 m 0 ls [])) : mpMH l D y n cc nL ret hh rm w0 w1 av rv := by
  intro sz
  refine va_MetW (cc := cc) (maxL := nL) (ret := ret) (hh := hh) hy rfl ?_
  intro p e s m args below meth c s₁ B hml hv
  obtain ⟨rfl, hsz, hP, hK, hD0⟩ := hv
  subst hsz
  have hts := atoms_spec (ws := Cond.codeWith n cc nL ret hh :: WW) B.pre
  have hown : s.vm.findClass own = some m.cls := by rw [← ho]; exact findClass_of_methodNamed B.named
  have hD := hD0.self (sz := s.heap.size)
  rw [lg_entry_eq]
  exact body p e s m below meth c (va_A w0 s.heap.size) _ ⟨⟨B.exec, B.bytes, hml, hown, fun w h => hts w (List.mem_cons_of_mem _ h)⟩, B.returns, B.notSynchronized⟩ hK (fun q h => Or.inr h) hP hD (lv_entry av hn)
theorem mpTH.mk {l : Launch} {D : va_G} {y : CY} {n : MethodName} {cc : ByteArray} {nL : Nat} {ret : Option FieldType} {hh : List (Nat × Nat × Nat × Nat)} {rm : Room} {w0 : va_W} {av : List Value} {rv : Option Value} {own : String} (hy : plainName n.cls = true) (ho : n.cls = own) (hn : (lg_sl av).length ≤ nL)
    (body : ∀ (p : Program) (e : Env) (s : State) (m : MethodId) (below : List Frame) (meth : Method) (c : Code) (A : Nat → Prop) (ls : Array Slot), mpX p s m av.toArray meth c cc nL ret own → c.exceptionTable.toList = tableOf hh → thE A s s.heap → va_K D vwCl (mpT y) s → (∀ q, s.heap.size ≤ q → A q) → va_P D vwCl w0 s.heap → va_D A w0 → lv_has ls nL (lv_args 0 av) →
      W p l e rm s m av.toArray below meth c s.heap [] 0 0 (MQ below (mpC D y A w0 rv) av.toArray s 1 6 A) (F0 m 0 ls [])) : mpTH l D y n cc nL ret hh rm w0 av rv := by
  intro sz
  refine va_MetW (cc := cc) (maxL := nL) (ret := ret) (hh := hh) hy rfl ?_
  intro p e s m args below meth c s₁ B hml hv
  obtain ⟨rfl, ⟨hsz, hP, hK, hD0⟩, hT⟩ := hv
  subst hsz
  have hts := atoms_spec (ws := Cond.codeWith n cc nL ret hh :: WW) B.pre
  have htab := vx_table (x := n) B (hts (Cond.codeWith n cc nL ret hh) List.mem_cons_self)
  have hown : s.vm.findClass own = some m.cls := by rw [← ho]; exact findClass_of_methodNamed B.named
  have hD := hD0.self (sz := s.heap.size)
  rw [lg_entry_eq]
  exact body p e s m below meth c (va_A w0 s.heap.size) _ ⟨⟨B.exec, B.bytes, hml, hown, fun w h => hts w (List.mem_cons_of_mem _ h)⟩, B.returns, B.notSynchronized⟩ htab hT hK (fun q h => Or.inr h) hP hD (lv_entry av hn)
section MPH
variable {p : Program} {l : Launch} {e : Env} {R : Room} {s : State} {m : MethodId} {args : Array Value} {below : List Frame} {meth : Method} {c : Code} {H H0 : Heap} {locs : List Loc} {cells slots : Nat} {Q : State → Prop}
variable {D : va_G} {y : CY} {A : Nat → Prop} {cc : ByteArray} {nL : Nat} {ret : Option FieldType} {own : String} {pc : Nat} {ls : Array Slot} {rest st0 : List Value} {w0 w1 : va_W}
/-- a call that throws, inside a table: what is thrown goes to kk -/
theorem mp_tcallK {n : MethodName} {cc2 : ByteArray} {nL2 index k ci b e0 : Nat} {ret2 : Option FieldType} {rm : Room} {As : List Value} {C : String} {T9 : u_T} {N9 : Nat} {fs : List Value} (X : mpX p s m args meth c cc nL ret own) (hT : thE A s s.heap) (hM : mpTM l D y n cc2 nL2 ret2 rm w0 (.ref b :: As) e0) (cw : CallW R s args own C index n cc2 nL2 ret2 (Cond.code n cc2 nL2 ret2 :: WW) rm 1 6 k)
    (hK : va_K D vwCl (mpT y) s) (hP : va_P D vwCl w0 H) (hD : va_D A w0) (hS : va_S A s.heap H locs) (hA : ∀ q, s.heap.size ≤ q → A q) (q0 : Nat) (he : w0[q0]? = some (b, .inr (ci, fs))) (hc : vwCl[ci]? = some (C, T9, N9)) (hn : As.length = k) (hsz : ls.size = nL) (hst : st0 = As.reverse ++ .ref b :: rest) (hW : (rest.map fun v => v.category).sum ≤ 8) (hdg : decode cc pc = .ok (.invokevirtual index, 3)) (hf : 0 + 1 ≤ R.cells ∧ 0 + 6 ≤ R.slots)
    (kk : ∀ (H1 : Heap) (locs1 : List Loc) (q9 : Addr) (ce : Cell), va_P D vwCl w0 H1 → va_D A w0 → va_S A s.heap H1 locs1 → H1[q9]? = some ce → ce.vm = .none → s.vm.findClass (exN e0) = some ce.cls → vx_W p l e R s m args below meth c H1 locs1 1 6 Q (F0 m pc ls rest) q9) :
    W p l e R s m args below meth c H locs 0 0 Q (F0 m pc ls st0) := by
  have hFr := mp_free hD hS hA
  refine mp_tback (vx_runV (As := As) (rest := rest) X.1 (hM H.size) cw ⟨mpTB_blind, va_recv hK hP hc he, fun U hU hW => ⟨rfl, ⟨by rw [hU], by rw [hU]; exact hP, va_K.moved hW.alike hK, hD.weaken (fun _ _ _ _ => trivial)⟩, ?_⟩⟩ rfl hn hsz hst (lv_room hW) hdg hf) hD hS hA kk
  rw [hU]
  exact ((hT.kept hS.2.1).narrow hFr).warm hW
end MPH
