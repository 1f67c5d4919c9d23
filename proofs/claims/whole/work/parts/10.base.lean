/-! ===== data of a world: int fields, long fields, int arrays, long arrays, by their numbers ===== -/
abbrev PD : Type := (Nat → Int32) × (Nat → Int64) × (Nat → Nat → Int32) × (Nat → Nat → Int64)
def rI (x : PD) (k : Nat) : Int32 := x.1 k
def rL (x : PD) (k : Nat) : Int64 := x.2.1 k
def rA (x : PD) (k : Nat) : Nat → Int32 := x.2.2.1 k
def rB (x : PD) (k : Nat) : Nat → Int64 := x.2.2.2 k
def wI (x : PD) (k : Nat) (v : Int32) : PD := (va_up x.1 k v, x.2)
def wL (x : PD) (k : Nat) (v : Int64) : PD := (x.1, va_up x.2.1 k v, x.2.2)
def wA (x : PD) (k : Nat) (f : Nat → Int32) : PD := (x.1, x.2.1, va_up x.2.2.1 k f, x.2.2.2)
def wB (x : PD) (k : Nat) (f : Nat → Int64) : PD := (x.1, x.2.1, x.2.2.1, va_up x.2.2.2 k f)
/-! ===== the words of the programs told as functions: none where the machine would throw, or the fuel is out ===== -/
def letv {α β : Type} (v : α) (k : α → β) : β := k v
def bn1 {α β : Type} (o : Option α) (k : α → Option β) : Option β := match o with
  | some a => k a
  | none => none
def bn2 {α β γ : Type} (o : Option (α × β)) (k : α → β → Option γ) : Option γ := match o with
  | some (a, b) => k a b
  | none => none
def gd {α : Type} (b : Bool) (k : Option α) : Option α := match b with
  | true => k
  | false => none
def inR (i : Int32) (n : Nat) : Bool := decide (0 ≤ i) && decide (i.toNatClampNeg < n)
def isB (v : Int32) : Bool := decide (v = 0) || decide (v = 1)
def FU : Nat := 1000000
theorem letv_elim {α β : Type} {v : α} {k : α → β} {z : β} (h : letv v k = z) : ∃ y, y = v ∧ k y = z := ⟨v, rfl, h⟩
theorem bn1_elim {α β : Type} {o : Option α} {k : α → Option β} {z : β} (h : bn1 o k = some z) : ∃ a, o = some a ∧ k a = some z := by
  cases o with
  | none => cases h
  | some a => exact ⟨a, rfl, h⟩
theorem bn2_elim {α β γ : Type} {o : Option (α × β)} {k : α → β → Option γ} {z : γ} (h : bn2 o k = some z) : ∃ a b, o = some (a, b) ∧ k a b = some z := by
  cases o with
  | none => cases h
  | some a => exact ⟨a.1, a.2, rfl, h⟩
theorem gd_elim {α : Type} {b : Bool} {k : Option α} {z : α} (h : gd b k = some z) : b = true ∧ k = some z := by
  cases b with
  | true => exact ⟨rfl, h⟩
  | false => cases h
theorem inR_vp {i : Int32} {n : Nat} (h : inR i n = true) : vp_in i n := by
  unfold inR at h
  rw [Bool.and_eq_true, decide_eq_true_eq, decide_eq_true_eq] at h
  intro hc
  rcases hc with h1 | h1
  · exact absurd h1 (Int32.not_lt.mpr h.1)
  · omega
theorem isB_nar {v : Int32} (h : isB v = true) : narrow .boolean (.int v) = .int v := by
  unfold isB at h
  rw [Bool.or_eq_true, decide_eq_true_eq, decide_eq_true_eq] at h
  rcases h with rfl | rfl <;> rfl
/-! ===== contracts over a world that a callee gets whole ===== -/
abbrev CY : Type := ClassId × ClassId × ClassId × ClassId
def mpT (y : CY) : List (ClassId × FieldType) := [(y.1, .int), (y.2.1, .long), (y.2.2.1, .boolean), (y.2.2.2, .object "MoodPlayer$State")]
def mpB (D : va_G) (y : CY) (w0 : va_W) (sz : Nat) : State → Prop := fun U => U.heap.size = sz ∧ va_P D vwCl w0 U.heap ∧ va_K D vwCl (mpT y) U ∧ va_D (fun _ => True) w0
def mpC (D : va_G) (y : CY) (A : Nat → Prop) (w1 : va_W) (rv : Option Value) : Array Value → State → Outcome → State → Prop := fun _ st oc t => (oc = .returned rv ∧ va_P D vwCl w1 t.heap ∧ va_K D vwCl (mpT y) t ∧ va_D A w1) ∧ va_F A st t
def mpM (l : Launch) (D : va_G) (y : CY) (n : MethodName) (cc : ByteArray) (nL : Nat) (ret : Option FieldType) (rm : Room) (w0 w1 : va_W) (av : List Value) (rv : Option Value) : Prop :=
  ∀ sz : Nat, Met l n (Cond.code n cc nL ret :: WW) rm (va_Pc av (mpB D y w0 sz)) (mpC D y (va_A w0 sz) w1 rv) 0 0 (va_A w0 sz)
def mpX (p : Program) (s : State) (m : MethodId) (args : Array Value) (meth : Method) (c : Code) (cc : ByteArray) (nL : Nat) (ret : Option FieldType) (own : String) : Prop :=
  (p.tables.exec = Jvm.exec ∧ c.code = cc ∧ c.maxLocals = nL ∧ s.vm.findClass own = some m.cls ∧ ∀ w ∈ WW, w.before args s = true) ∧ meth.sig.returnType = ret ∧ meth.locks = false
theorem mpM.mk {l : Launch} {D : va_G} {y : CY} {n : MethodName} {cc : ByteArray} {nL : Nat} {ret : Option FieldType} {rm : Room} {w0 w1 : va_W} {av : List Value} {rv : Option Value} {own : String} (hy : plainName n.cls = true) (ho : n.cls = own) (hn : (lg_sl av).length ≤ nL)
    (body : ∀ (p : Program) (e : Env) (s : State) (m : MethodId) (below : List Frame) (meth : Method) (c : Code) (A : Nat → Prop) (ls : Array Slot), mpX p s m av.toArray meth c cc nL ret own → va_K D vwCl (mpT y) s → (∀ q, s.heap.size ≤ q → A q) → va_P D vwCl w0 s.heap → va_D A w0 → lv_has ls nL (lv_args 0 av) →
      W p l e rm s m av.toArray below meth c s.heap [] 0 0 (MQ below (mpC D y A w1 rv) av.toArray s 0 0 A) (F0 m 0 ls [])) : mpM l D y n cc nL ret rm w0 w1 av rv := by
  intro sz
  refine Met.ofW (cc := cc) (maxL := nL) (ret := ret) hy rfl ?_
  intro p e s m args below meth c s₁ B hml hv
  obtain ⟨rfl, hsz, hP, hK, hD0⟩ := hv
  subst hsz
  have hts := atoms_spec (ws := Cond.code n cc nL ret :: WW) B.pre
  have hown : s.vm.findClass own = some m.cls := by rw [← ho]; exact findClass_of_methodNamed B.named
  have hD := hD0.self (sz := s.heap.size)
  rw [lg_entry_eq]
  exact body p e s m below meth c (va_A w0 s.heap.size) _ ⟨⟨B.exec, B.bytes, hml, hown, fun w h => hts w (List.mem_cons_of_mem _ h)⟩, B.returns, B.notSynchronized⟩ hK (fun q h => Or.inr h) hP hD (lv_entry av hn)
section MPA
variable {p : Program} {l : Launch} {e : Env} {R : Room} {s : State} {m : MethodId} {args : Array Value} {below : List Frame} {meth : Method} {c : Code} {H H0 : Heap} {locs : List Loc} {cells slots : Nat} {Q : State → Prop}
variable {D : va_G} {y : CY} {A : Nat → Prop} {cc : ByteArray} {nL : Nat} {ret : Option FieldType} {own : String} {pc : Nat} {ls : Array Slot} {rest st0 : List Value} {w0 w1 : va_W}
/-- the ends -/
theorem mpr_i {r v : Int32} (X : mpX p s m args meth c cc nL (some .int) own) (hK : va_K D vwCl (mpT y) s) (hP : va_P D vwCl w1 H) (hD : va_D A w1) (hS : va_S A s.heap H locs) (hrv : v = r) (hdg : decode cc pc = .ok (.ireturn, 1)) : W p l e R s m args below meth c H locs cells slots (MQ below (mpC D y A w1 (some (.int r))) args s cells slots A) (F0 m pc ls [.int v]) := by
  subst hrv
  obtain ⟨⟨hx, hb, -⟩, hr, hlk⟩ := X
  exact W.iret hx hb hr (fun t ht hW => ⟨⟨rfl, by rw [ht]; exact hP, va_K.moved hW.alike hK, hD⟩, hS.F ht⟩) hS.2.2 hdg hlk
theorem mpr_z {r v : Int32} (X : mpX p s m args meth c cc nL (some .boolean) own) (hK : va_K D vwCl (mpT y) s) (hP : va_P D vwCl w1 H) (hD : va_D A w1) (hS : va_S A s.heap H locs) (hz : narrow .boolean (.int v) = .int v) (hrv : v = r) (hdg : decode cc pc = .ok (.ireturn, 1)) : W p l e R s m args below meth c H locs cells slots (MQ below (mpC D y A w1 (some (.int r))) args s cells slots A) (F0 m pc ls [.int v]) := by
  subst hrv
  obtain ⟨⟨hx, hb, -⟩, hr, hlk⟩ := X
  exact W.zret hx hb hr hz (fun t ht hW => ⟨⟨rfl, by rw [ht]; exact hP, va_K.moved hW.alike hK, hD⟩, hS.F ht⟩) hS.2.2 hdg hlk
theorem mpr_l {r v : Int64} (X : mpX p s m args meth c cc nL (some .long) own) (hK : va_K D vwCl (mpT y) s) (hP : va_P D vwCl w1 H) (hD : va_D A w1) (hS : va_S A s.heap H locs) (hrv : v = r) (hdg : decode cc pc = .ok (.lreturn, 1)) : W p l e R s m args below meth c H locs cells slots (MQ below (mpC D y A w1 (some (.long r))) args s cells slots A) (F0 m pc ls [.long v]) := by
  subst hrv
  obtain ⟨⟨hx, hb, -⟩, hr, hlk⟩ := X
  exact W.lret hx hb hr (fun t ht hW => ⟨⟨rfl, by rw [ht]; exact hP, va_K.moved hW.alike hK, hD⟩, hS.F ht⟩) hS.2.2 hdg hlk
theorem mpr_v (X : mpX p s m args meth c cc nL none own) (hK : va_K D vwCl (mpT y) s) (hP : va_P D vwCl w1 H) (hD : va_D A w1) (hS : va_S A s.heap H locs) (hdg : decode cc pc = .ok (.return_, 1)) : W p l e R s m args below meth c H locs cells slots (MQ below (mpC D y A w1 none) args s cells slots A) (F0 m pc ls []) := by
  obtain ⟨⟨hx, hb, -⟩, hr, hlk⟩ := X
  exact W.vret hx hb hr (fun t ht hW => ⟨⟨rfl, by rw [ht]; exact hP, va_K.moved hW.alike hK, hD⟩, hS.F ht⟩) hS.2.2 hdg hlk
theorem mpr_a {C : String} {a : Nat} (X : mpX p s m args meth c cc nL (some (.object C)) own) (hK : va_K D vwCl (mpT y) s) (hP : va_P D vwCl w1 H) (hD : va_D A w1) (hS : va_S A s.heap H locs) (hdg : decode cc pc = .ok (.areturn, 1)) : W p l e R s m args below meth c H locs cells slots (MQ below (mpC D y A w1 (some (.ref a))) args s cells slots A) (F0 m pc ls [.ref a]) := by
  obtain ⟨⟨hx, hb, -⟩, hr, hlk⟩ := X
  exact W.aret hx hb hr (Or.inl ⟨C, rfl⟩) (Or.inr ⟨a, rfl⟩) (fun t ht hW => ⟨⟨rfl, by rw [ht]; exact hP, va_K.moved hW.alike hK, hD⟩, hS.F ht⟩) hS.2.2 hdg hlk
/-- calls -/
theorem mp_free (hD : va_D A w0) (hS : va_S A H0 H locs) (hA : ∀ q, H0.size ≤ q → A q) : ∀ q, va_A w0 H.size q → A q := by
  intro q hq
  rcases hq with ⟨k, e, hk⟩ | hq
  · exact hD.2 k _ hk
  · exact hA q (Nat.le_trans hS.1 hq)
theorem mp_back {rv : Option Value} {a0 : Array Value} (hr : va_Run p l e R s m args below meth c H locs cells slots 0 0 (F0 m pc ls st0) rest (mpC D y (va_A w0 H.size) w1 rv a0) (va_A w0 H.size)) (hD : va_D A w0) (hS : va_S A H0 H locs) (hA : ∀ q, H0.size ≤ q → A q)
    (kk : ∀ (H1 : Heap) (locs1 : List Loc), va_P D vwCl w1 H1 → va_D A w1 → va_S A H0 H1 locs1 → W p l e R s m args below meth c H1 locs1 cells slots Q (F0 m (pc + 3) ls (rv.toList ++ rest))) : W p l e R s m args below meth c H locs cells slots Q (F0 m pc ls st0) := by
  have hF := mp_free hD hS hA
  intro T hT X
  obtain ⟨v, st₀, t, T', L, h0, X', hL, e1, e2, ⟨⟨hv, hP1, hK1, hD1⟩, hF1⟩, st⟩ := hr T hT X
  cases hv
  have hz : H.size ≤ T'.heap.size := by rw [e1, ← h0]; exact hF1.1
  have hS1 : va_S A H0 T'.heap (locs ++ L) := by
    refine ⟨Nat.le_trans hS.1 hz, fun q h1 h2 => ?_, fun q hq => ?_⟩
    · have h3 : q < H.size := Nat.lt_of_lt_of_le h1 hS.1
      have h4 := hF1.2 q (by rw [h0]; exact h3) (fun h => h2 (hF q h))
      rw [e1, h4, h0]
      exact hS.2.1 q h1 h2
    · rcases List.mem_append.mp hq with h | h
      · exact hS.2.2 q h
      · exact hF _ (hL q h)
  obtain ⟨t2, a1, b1⟩ := kk T'.heap (locs ++ L) (by rw [e1]; exact hP1) (hD1.weaken (fun k q _ h => hF q.1 h)) hS1 T' rfl X'
  exact ⟨t2, st t2 a1, b1⟩
theorem mp_cw {n : MethodName} {cc2 : ByteArray} {nL2 index k : Nat} {ret2 : Option FieldType} {rm : Room} {C : String} (hts : ∀ w ∈ WW, w.before args s = true) (h1 : Cond.methodLink own index n ∈ WW) (h2 : Cond.instanceMethod n ∈ WW) (h3 : Cond.selects C n n ∈ WW) (h4 : Cond.initialized C ∈ WW) (h5 : Cond.code n cc2 nL2 ret2 ∈ WW) (hrc : rm.cells = 0) (hrs : rm.slots = 0)
    (hd : n.cls = C ∧ n.cls ≠ "java/lang/invoke/MethodHandle" ∧ n.cls ≠ "java/lang/invoke/VarHandle" ∧ (parseMethodDescriptor n.desc).map (fun d => d.parameters.length) = some k) (hR : rm.frames + 1 ≤ R.frames ∧ 8 + (nL2 + 11) + rm.locals ≤ R.locals) :
    CallW R s args own C index n cc2 nL2 ret2 (Cond.code n cc2 nL2 ret2 :: WW) rm 0 0 k :=
  cwV (Ts := WW) (ws' := WW) k hts (fun w hw => mpw_goodWW w (by
    rcases List.mem_append.mp hw with h | h
    · rcases List.mem_cons.mp h with rfl | h
      · exact h1
      rcases List.mem_cons.mp h with rfl | h
      · exact h2
      rcases List.mem_cons.mp h with rfl | h
      · exact h3
      rcases List.mem_cons.mp h with rfl | h
      · exact h4
      · cases h
    · rcases List.mem_cons.mp h with rfl | h
      · exact h5
      · exact h)) rfl hrc hrs hd hR
theorem mp_cs {n : MethodName} {cc2 : ByteArray} {nL2 index k : Nat} {ret2 : Option FieldType} {rm : Room} (hts : ∀ w ∈ WW, w.before args s = true) (h1 : Cond.methodLink own index n ∈ WW) (h2 : Cond.static n ∈ WW) (h4 : Cond.initialized n.cls ∈ WW) (h5 : Cond.code n cc2 nL2 ret2 ∈ WW) (hrc : rm.cells = 0) (hrs : rm.slots = 0)
    (hd : n.cls ≠ "java/lang/invoke/MethodHandle" ∧ n.cls ≠ "java/lang/invoke/VarHandle" ∧ (parseMethodDescriptor n.desc).map (fun d => d.parameters.length) = some k) (hR : rm.frames + 1 ≤ R.frames ∧ 8 + (nL2 + 11) + rm.locals ≤ R.locals) :
    CallB R s args own index n cc2 nL2 ret2 (Cond.code n cc2 nL2 ret2 :: WW) rm 0 0 k ∧ (Cond.static n).before args s = true :=
  va_cwS (Ts := WW) (ws' := WW) k hts (fun w hw => mpw_goodWW w (by
    rcases List.mem_append.mp hw with h | h
    · rcases List.mem_cons.mp h with rfl | h
      · exact h1
      rcases List.mem_cons.mp h with rfl | h
      · exact h2
      rcases List.mem_cons.mp h with rfl | h
      · exact h4
      · cases h
    · rcases List.mem_cons.mp h with rfl | h
      · exact h5
      · exact h)) rfl hrc hrs hd hR
theorem mpB_blind {av : List Value} {sz : Nat} : FrameBlind (va_Pc av (mpB D y w0 sz)) := fun a U g mk q => by
  obtain ⟨q0, q1, qP, qK, qD⟩ := q
  exact ⟨q0, q1, qP, va_K.moved (u := U) (U := U.calling g mk a) (Vm.Alike.refl U.vm) qK, qD⟩
/-- a call of an instance method -/
theorem mp_call {n : MethodName} {cc2 : ByteArray} {nL2 index k q0 ci b : Nat} {ret2 : Option FieldType} {rm : Room} {rv : Option Value} {As : List Value} {C : String} {T9 : u_T} {N9 : Nat} {fs : List Value} (X : mpX p s m args meth c cc nL ret own) (hM : mpM l D y n cc2 nL2 ret2 rm w0 w1 (.ref b :: As) rv) (cw : CallW R s args own C index n cc2 nL2 ret2 (Cond.code n cc2 nL2 ret2 :: WW) rm 0 0 k)
    (hK : va_K D vwCl (mpT y) s) (hP : va_P D vwCl w0 H) (hD : va_D A w0) (hS : va_S A H0 H locs) (hA : ∀ q, H0.size ≤ q → A q) (he : w0[q0]? = some (b, .inr (ci, fs))) (hc : vwCl[ci]? = some (C, T9, N9)) (hn : As.length = k) (hsz : ls.size = nL) (hst : st0 = As.reverse ++ .ref b :: rest) (hW : (rest.map fun v => v.category).sum ≤ 8) (hdg : decode cc pc = .ok (.invokevirtual index, 3)) (hf : cells ≤ R.cells ∧ slots ≤ R.slots)
    (kk : ∀ (H1 : Heap) (locs1 : List Loc), va_P D vwCl w1 H1 → va_D A w1 → va_S A H0 H1 locs1 → W p l e R s m args below meth c H1 locs1 cells slots Q (F0 m (pc + 3) ls (rv.toList ++ rest))) : W p l e R s m args below meth c H locs cells slots Q (F0 m pc ls st0) :=
  mp_back (va_runV (As := As) (rest := rest) X.1 (hM H.size) cw ⟨mpB_blind, va_recv hK hP hc he, fun U hU hW => ⟨rfl, by rw [hU], by rw [hU]; exact hP, va_K.moved hW.alike hK, hD.weaken (fun _ _ _ _ => trivial)⟩⟩ rfl hn hsz hst (lv_room hW) hdg hf) hD hS hA kk
/-- a call of a static method -/
theorem mp_callS {n : MethodName} {cc2 : ByteArray} {nL2 index k : Nat} {ret2 : Option FieldType} {rm : Room} {rv : Option Value} {As : List Value} (X : mpX p s m args meth c cc nL ret own) (hM : mpM l D y n cc2 nL2 ret2 rm w0 w1 As rv) (cw : CallB R s args own index n cc2 nL2 ret2 (Cond.code n cc2 nL2 ret2 :: WW) rm 0 0 k ∧ (Cond.static n).before args s = true)
    (hK : va_K D vwCl (mpT y) s) (hP : va_P D vwCl w0 H) (hD : va_D A w0) (hS : va_S A H0 H locs) (hA : ∀ q, H0.size ≤ q → A q) (hn : As.length = k) (hsz : ls.size = nL) (hst : st0 = As.reverse ++ rest) (hW : (rest.map fun v => v.category).sum ≤ 8) (hdg : decode cc pc = .ok (.invokestatic index, 3)) (hf : cells ≤ R.cells ∧ slots ≤ R.slots)
    (kk : ∀ (H1 : Heap) (locs1 : List Loc), va_P D vwCl w1 H1 → va_D A w1 → va_S A H0 H1 locs1 → W p l e R s m args below meth c H1 locs1 cells slots Q (F0 m (pc + 3) ls (rv.toList ++ rest))) : W p l e R s m args below meth c H locs cells slots Q (F0 m pc ls st0) :=
  mp_back (va_runS (As := As) (rest := rest) X.1 (hM H.size) cw ⟨mpB_blind, fun U hU hW => ⟨rfl, by rw [hU], by rw [hU]; exact hP, va_K.moved hW.alike hK, hD.weaken (fun _ _ _ _ => trivial)⟩⟩ rfl hn hsz hst (lv_room hW) hdg hf) hD hS hA kk
end MPA
