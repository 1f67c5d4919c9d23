theorem mJ_int : Cond.arrayClass .int ∈ WW := mpw1 90 rfl rfl
theorem mJ_long : Cond.arrayClass .long ∈ WW := mpw1 180 rfl rfl
theorem mJ_byte : Cond.arrayClass .byte ∈ WW := mpw2 180 rfl rfl
theorem mJ_boolean : Cond.arrayClass .boolean ∈ WW := mpw4 75 rfl rfl
/-! ===== worlds beside worlds: a callee that gets a part of the caller's world ===== -/
theorem vP_iff {D : va_G} {cl : List vw_C} {ws : va_W} {H : Heap} : va_P D cl ws H ↔ ∀ q ∈ ws, va_at D cl q H := by
  constructor
  · intro h q hq
    obtain ⟨i, hi⟩ := List.getElem?_of_mem hq
    exact h i q hi
  · intro h k q hk
    exact h q (List.mem_of_getElem? hk)
theorem vD_iff {A : Nat → Prop} {ws : va_W} : va_D A ws ↔ (ws.map Prod.fst).Nodup ∧ ∀ q ∈ ws, A q.1 := by
  constructor
  · intro h
    refine ⟨?_, fun q hq => ?_⟩
    · rw [List.Nodup, List.pairwise_map, List.pairwise_iff_getElem]
      intro i j hi hj hij heq
      have := h.1 i j ws[i] ws[j] (List.getElem?_eq_getElem hi) (List.getElem?_eq_getElem hj) heq
      omega
    · obtain ⟨i, hi⟩ := List.getElem?_of_mem hq
      exact h.2 i q hi
  · intro h
    refine ⟨fun i j p q hi hj heq => ?_, fun k q hk => h.2 q (List.mem_of_getElem? hk)⟩
    have hlt : i < ws.length := by
      rcases Nat.lt_or_ge i ws.length with h1 | h1
      · exact h1
      · rw [List.getElem?_eq_none h1] at hi; cases hi
    refine (List.getElem?_inj (l := ws.map Prod.fst) (by rw [List.length_map]; exact hlt) h.1).mp ?_
    rw [List.getElem?_map, List.getElem?_map, hi, hj]
    simp [heq]
theorem fr_PD {A : Nat → Prop} {D : va_G} {cl : List vw_C} {pre w0 w1 suf : va_W} {H H1 : Heap} (hP : va_P D cl (pre ++ (w0 ++ suf)) H) (hD : va_D A (pre ++ (w0 ++ suf))) (hk : ∀ q : Nat, q < H.size → ¬ va_A w0 H.size q → H1[q]? = H[q]?) (hF : ∀ q, va_A w0 H.size q → A q) (hP1 : va_P D cl w1 H1) (hD1 : va_D (va_A w0 H.size) w1) :
    va_P D cl (pre ++ (w1 ++ suf)) H1 ∧ va_D A (pre ++ (w1 ++ suf)) := by
  rw [vP_iff] at hP hP1 ⊢
  rw [vD_iff] at hD hD1 ⊢
  have hA0 : ∀ q, va_A w0 H.size q ↔ (∃ e ∈ w0, e.1 = q) ∨ H.size ≤ q := by
    intro q
    constructor
    · rintro (⟨k, e, h⟩ | h)
      · exact Or.inl ⟨_, List.mem_of_getElem? h, rfl⟩
      · exact Or.inr h
    · rintro (⟨e, he, rfl⟩ | h)
      · obtain ⟨i, hi⟩ := List.getElem?_of_mem he
        exact Or.inl ⟨i, e.2, hi⟩
      · exact Or.inr h
  have hnd := hD.1
  rw [List.map_append, List.map_append, List.nodup_append, List.nodup_append] at hnd
  obtain ⟨n1, ⟨n2, n3, n23⟩, n1x⟩ := hnd
  have hout : ∀ q ∈ pre ++ suf, ¬ va_A w0 H.size q.1 ∧ q.1 < H.size := by
    intro q hq
    have hq' : q ∈ pre ++ (w0 ++ suf) := by
      rcases List.mem_append.mp hq with h | h
      · exact List.mem_append_left _ h
      · exact List.mem_append_right _ (List.mem_append_right _ h)
    have hlt : q.1 < H.size := (hP q hq').lt
    refine ⟨fun hc => ?_, hlt⟩
    rcases (hA0 q.1).mp hc with ⟨e, he, heq⟩ | h
    · rcases List.mem_append.mp hq with h | h
      · exact n1x q.1 (List.mem_map_of_mem h) e.1 (List.mem_append_left _ (List.mem_map_of_mem he)) heq.symm
      · exact n23 e.1 (List.mem_map_of_mem he) q.1 (List.mem_map_of_mem h) heq
    · omega
  have hdis : ∀ q ∈ pre ++ suf, ∀ e ∈ w1, q.1 ≠ e.1 := by
    intro q hq e he heq
    have := hD1.2 e he
    rw [← heq] at this
    exact (hout q hq).1 this
  refine ⟨fun q hq => ?_, ?_, fun q hq => ?_⟩
  · rcases List.mem_append.mp hq with h | h
    · exact (hP q (List.mem_append_left _ h)).kept (hk _ (hout q (List.mem_append_left _ h)).2 (hout q (List.mem_append_left _ h)).1)
    · rcases List.mem_append.mp h with h | h
      · exact hP1 q h
      · exact (hP q (List.mem_append_right _ (List.mem_append_right _ h))).kept (hk _ (hout q (List.mem_append_right _ h)).2 (hout q (List.mem_append_right _ h)).1)
  · rw [List.map_append, List.map_append, List.nodup_append, List.nodup_append]
    refine ⟨n1, ⟨hD1.1, n3, ?_⟩, ?_⟩
    · intro a ha b hb heq
      obtain ⟨e, he, rfl⟩ := List.mem_map.mp ha
      obtain ⟨q, hq, rfl⟩ := List.mem_map.mp hb
      exact hdis q (List.mem_append_right _ hq) e he heq.symm
    · intro a ha b hb heq
      obtain ⟨q, hq, rfl⟩ := List.mem_map.mp ha
      rcases List.mem_append.mp hb with h | h
      · obtain ⟨e, he, rfl⟩ := List.mem_map.mp h
        exact hdis q (List.mem_append_left _ hq) e he heq
      · exact n1x q.1 ha b (List.mem_append_right _ h) heq
  · rcases List.mem_append.mp hq with h | h
    · exact hD.2 q (List.mem_append_left _ h)
    · rcases List.mem_append.mp h with h | h
      · exact hF _ (hD1.2 q h)
      · exact hD.2 q (List.mem_append_right _ (List.mem_append_right _ h))
theorem fr_sub {A : Nat → Prop} {pre w0 suf : va_W} (hD : va_D A (pre ++ (w0 ++ suf))) : va_D A w0 := by
  rw [vD_iff] at hD ⊢
  have hnd := hD.1
  rw [List.map_append, List.map_append, List.nodup_append, List.nodup_append] at hnd
  exact ⟨hnd.2.1.1, fun q hq => hD.2 q (List.mem_append_right _ (List.mem_append_left _ hq))⟩
theorem fr_subP {D : va_G} {cl : List vw_C} {pre w0 suf : va_W} {H : Heap} (hP : va_P D cl (pre ++ (w0 ++ suf)) H) : va_P D cl w0 H := by
  rw [vP_iff] at hP ⊢
  exact fun q hq => hP q (List.mem_append_right _ (List.mem_append_left _ hq))
section FRC
variable {p : Program} {l : Launch} {e : Env} {R : Room} {s : State} {m : MethodId} {args : Array Value} {below : List Frame} {meth : Method} {c : Code} {H H0 : Heap} {locs : List Loc} {cells slots mc ms : Nat} {Q : State → Prop}
variable {D : va_G} {y : CY} {A : Nat → Prop} {cc : ByteArray} {nL : Nat} {ret : Option FieldType} {own : String} {pc : Nat} {ls : Array Slot} {rest st0 : List Value} {w0 w1 pre suf : va_W}
/-- behind a call of a method whose world is a part of ours -/
theorem mp_backF {rv : Option Value} {a0 : Array Value} (hr : va_Run p l e R s m args below meth c H locs cells slots mc ms (F0 m pc ls st0) rest (mpC D y (va_A w0 H.size) w1 rv a0) (va_A w0 H.size)) (hP : va_P D vwCl (pre ++ (w0 ++ suf)) H) (hD : va_D A (pre ++ (w0 ++ suf))) (hS : va_S A H0 H locs) (hA : ∀ q, H0.size ≤ q → A q)
    (kk : ∀ (H1 : Heap) (locs1 : List Loc), va_P D vwCl (pre ++ (w1 ++ suf)) H1 → va_D A (pre ++ (w1 ++ suf)) → va_S A H0 H1 locs1 → W p l e R s m args below meth c H1 locs1 (cells + mc) (slots + ms) Q (F0 m (pc + 3) ls (rv.toList ++ rest))) : W p l e R s m args below meth c H locs cells slots Q (F0 m pc ls st0) := by
  have hF := mp_free (fr_sub hD) hS hA
  intro T hT X
  obtain ⟨v, st₀, t, T', L, h0, X', hL, e1, e2, ⟨⟨hv, hP1, hK1, hD1⟩, hF1⟩, st⟩ := hr T hT X
  cases hv
  have hz : H.size ≤ T'.heap.size := by rw [e1, ← h0]; exact hF1.1
  have hkk : ∀ q : Nat, q < H.size → ¬ va_A w0 H.size q → T'.heap[q]? = H[q]? := by
    intro q h1 h2
    rw [e1, hF1.2 q (by rw [h0]; exact h1) h2, h0]
  have hS1 : va_S A H0 T'.heap (locs ++ L) := by
    refine ⟨Nat.le_trans hS.1 hz, fun q h1 h2 => ?_, fun q hq => ?_⟩
    · rw [hkk q (Nat.lt_of_lt_of_le h1 hS.1) (fun h => h2 (hF q h))]
      exact hS.2.1 q h1 h2
    · rcases List.mem_append.mp hq with h | h
      · exact hS.2.2 q h
      · exact hF _ (hL q h)
  obtain ⟨q1, q2⟩ := fr_PD hP hD hkk hF (by rw [e1]; exact hP1) hD1
  obtain ⟨t2, a1, b1⟩ := kk T'.heap (locs ++ L) q1 q2 hS1 T' rfl X'
  exact ⟨t2, st t2 a1, b1⟩
end FRC
/-! ===== constructors: a world that grows ===== -/
def kE (U : State) : Prop := va_Nw (.methodLinkNest RX5 18 yX3_init RX5) U ∧ va_Nw (.methodLinkNest RX5 38 yX4_init RX5) U ∧ va_Nw (.methodLinkNest RX1 11 yX4_init RX5) U ∧ va_AO "MoodPlayer$State" U
theorem kE.warm {s U : State} (hW : s.WarmedH U.vm) (h : kE s) : kE U := ⟨va_Nw.warmM hW h.1, va_Nw.warmM hW h.2.1, va_Nw.warmM hW h.2.2.1, va_AO.moved hW.alike h.2.2.2⟩
theorem kE.same {s U : State} (hv : U.vm = s.vm) (h : kE s) : kE U := ⟨va_Nw.same rfl hv.symm h.1, va_Nw.same rfl hv.symm h.2.1, va_Nw.same rfl hv.symm h.2.2.1, va_AO.moved (by rw [hv]; exact Vm.Alike.refl s.vm) h.2.2.2⟩
def mpKB (D : va_G) (y : CY) (w0 : va_W) (sz : Nat) : State → Prop := fun U => (U.heap.size = sz ∧ va_P D vwCl w0 U.heap ∧ va_K D vwCl (mpT y) U ∧ va_D (fun _ => True) w0) ∧ kE U
def mpKQ (D : va_G) (y : CY) (A : Nat → Prop) (Wf : (Nat → Nat) → va_W) : Array Value → State → Outcome → State → Prop := fun _ st oc t => (oc = .returned none ∧ ∃ b : Nat → Nat, va_P D vwCl (Wf b) t.heap ∧ va_K D vwCl (mpT y) t ∧ va_D A (Wf b)) ∧ va_F A st t
def mpK (l : Launch) (D : va_G) (y : CY) (n : MethodName) (cc : ByteArray) (nL : Nat) (rm : Room) (mc ms : Nat) (w0 : va_W) (Wf : (Nat → Nat) → va_W) (av : List Value) : Prop :=
  ∀ sz : Nat, Met l n (Cond.code n cc nL none :: WW) rm (va_Pc av (mpKB D y w0 sz)) (mpKQ D y (va_A w0 sz) Wf) mc ms (va_A w0 sz)
theorem mpK.mk {l : Launch} {D : va_G} {y : CY} {n : MethodName} {cc : ByteArray} {nL : Nat} {rm : Room} {mc ms : Nat} {w0 : va_W} {Wf : (Nat → Nat) → va_W} {av : List Value} {own : String} (hy : plainName n.cls = true) (ho : n.cls = own) (hni : n.name = "<init>") (hn : (lg_sl av).length ≤ nL)
    (body : ∀ (p : Program) (e : Env) (s : State) (m : MethodId) (below : List Frame) (meth : Method) (c : Code) (A : Nat → Prop) (ls : Array Slot), mpX p s m av.toArray meth c cc nL none own → meth.name = "<init>" → kE s → va_K D vwCl (mpT y) s → (∀ q, s.heap.size ≤ q → A q) → va_P D vwCl w0 s.heap → va_D A w0 → lv_has ls nL (lv_args 0 av) →
      W p l e rm s m av.toArray below meth c s.heap [] 0 0 (MQ below (mpKQ D y A Wf) av.toArray s mc ms A) (F0 m 0 ls [])) : mpK l D y n cc nL rm mc ms w0 Wf av := by
  intro sz
  refine Met.ofW (cc := cc) (maxL := nL) (ret := none) hy rfl ?_
  intro p e s m args below meth c s₁ B hml hv
  obtain ⟨rfl, ⟨hsz, hP, hK, hD0⟩, hE⟩ := hv
  subst hsz
  have hts := atoms_spec (ws := Cond.code n cc nL none :: WW) B.pre
  have hown : s.vm.findClass own = some m.cls := by rw [← ho]; exact findClass_of_methodNamed B.named
  have hin : meth.name = "<init>" := by rw [← hni]; exact (name_of_methodNamed B.named B.method).1
  have hD := hD0.self (sz := s.heap.size)
  rw [lg_entry_eq]
  exact body p e s m below meth c (va_A w0 s.heap.size) _ ⟨⟨B.exec, B.bytes, hml, hown, fun w h => hts w (List.mem_cons_of_mem _ h)⟩, B.returns, B.notSynchronized⟩ hin hE hK (fun q h => Or.inr h) hP hD (lv_entry av hn)
section KON
variable {p : Program} {l : Launch} {e : Env} {R : Room} {s : State} {m : MethodId} {args : Array Value} {below : List Frame} {meth : Method} {c : Code} {H H0 : Heap} {locs : List Loc} {cells slots mc ms : Nat} {Q : State → Prop}
variable {D : va_G} {y : CY} {A : Nat → Prop} {cc : ByteArray} {nL : Nat} {ret : Option FieldType} {own : String} {pc : Nat} {ls : Array Slot} {rest st0 : List Value} {w0 ws : va_W} {Wf : (Nat → Nat) → va_W}
theorem mpr_k {b : Nat → Nat} (X : mpX p s m args meth c cc nL none own) (hK : va_K D vwCl (mpT y) s) (hP : va_P D vwCl (Wf b) H) (hD : va_D A (Wf b)) (hS : va_S A s.heap H locs) (hdg : decode cc pc = .ok (.return_, 1)) : W p l e R s m args below meth c H locs cells slots (MQ below (mpKQ D y A Wf) args s cells slots A) (F0 m pc ls []) := by
  obtain ⟨⟨hx, hb, -⟩, hr, hlk⟩ := X
  exact W.vret hx hb hr (fun t ht hW => ⟨⟨rfl, b, by rw [ht]; exact hP, va_K.moved hW.alike hK, hD⟩, hS.F ht⟩) hS.2.2 hdg hlk
theorem mpKB_blind {av : List Value} {sz : Nat} : FrameBlind (va_Pc av (mpKB D y w0 sz)) := fun a U g mk q => by
  obtain ⟨q0, ⟨q1, qP, qK, qD⟩, qE⟩ := q
  exact ⟨q0, ⟨q1, qP, va_K.moved (u := U) (U := U.calling g mk a) (Vm.Alike.refl U.vm) qK, qD⟩, qE.same rfl⟩
theorem mp_kpre {av : List Value} {pre suf : va_W} (hE : kE s) (hK : va_K D vwCl (mpT y) s) (hP : va_P D vwCl (pre ++ (w0 ++ suf)) H) (hD : va_D A (pre ++ (w0 ++ suf))) : PreS s H (va_Pc av (mpKB D y w0 H.size)) av :=
  ⟨mpKB_blind, fun U hU hW => ⟨rfl, ⟨by rw [hU], by rw [hU]; exact fr_subP hP, va_K.moved hW.alike hK, (fr_sub hD).weaken (fun _ _ _ _ => trivial)⟩, hE.warm hW⟩⟩
/-- behind a constructor's call: its object was the last cell -/
theorem mp_kback {a0 : Array Value} {pre suf : va_W} (hr : va_Run p l e R s m args below meth c H locs cells slots mc ms (F0 m pc ls st0) rest (mpKQ D y (va_A w0 H.size) Wf a0) (va_A w0 H.size)) (hP : va_P D vwCl (pre ++ (w0 ++ suf)) H) (hD : va_D A (pre ++ (w0 ++ suf))) (hS : va_S A H0 H locs) (hA : ∀ q, H0.size ≤ q → A q)
    (kk : ∀ (b : Nat → Nat) (H1 : Heap) (locs1 : List Loc), va_P D vwCl (pre ++ (Wf b ++ suf)) H1 → va_D A (pre ++ (Wf b ++ suf)) → va_S A H0 H1 locs1 → W p l e R s m args below meth c H1 locs1 (cells + mc) (slots + ms) Q (F0 m (pc + 3) ls rest)) : W p l e R s m args below meth c H locs cells slots Q (F0 m pc ls st0) := by
  have hF := mp_free (fr_sub hD) hS hA
  intro T hT X
  obtain ⟨v, st₀, t, T', L, h0, X', hL, e1, e2, ⟨⟨hv, b, hP1, hK1, hD1⟩, hF1⟩, st⟩ := hr T hT X
  cases hv
  have hz : H.size ≤ T'.heap.size := by rw [e1, ← h0]; exact hF1.1
  have hkk : ∀ q : Nat, q < H.size → ¬ va_A w0 H.size q → T'.heap[q]? = H[q]? := by
    intro q h1 h2
    rw [e1, hF1.2 q (by rw [h0]; exact h1) h2, h0]
  have hS1 : va_S A H0 T'.heap (locs ++ L) := by
    refine ⟨Nat.le_trans hS.1 hz, fun q h1 h2 => ?_, fun q hq => ?_⟩
    · rw [hkk q (Nat.lt_of_lt_of_le h1 hS.1) (fun h => h2 (hF q h))]
      exact hS.2.1 q h1 h2
    · rcases List.mem_append.mp hq with h | h
      · exact hS.2.2 q h
      · exact hF _ (hL q h)
  obtain ⟨q1, q2⟩ := fr_PD hP hD hkk hF (by rw [e1]; exact hP1) hD1
  obtain ⟨t2, a1, b1⟩ := kk b T'.heap (locs ++ L) q1 q2 hS1 T' rfl X'
  exact ⟨t2, st t2 a1, b1⟩
/-- new arrays of a length that is told -/
theorem mp_newI {n : Int32} (N : Nat) (X : mpX p s m args meth c cc nL ret own) (hK : va_K D vwCl (mpT y) s) (hP : va_P D vwCl ws H) (hD : va_D A ws) (hS : va_S A H0 H locs) (hA : ∀ q, H0.size ≤ q → A q) (hn : ¬ n < 0) (hN : n.toNatClampNeg = N) (hby : N * 4 ≤ 536870912) (hc : cells + 1 ≤ R.cells) (hs : slots + N ≤ R.slots) (hdg : decode cc pc = .ok (.newarray .int, 2))
    (kk : ∀ (q : Nat) (H1 : Heap), va_P D vwCl (ws ++ [(q, .inl (y.1, N, .inl (fun _ => 0)))]) H1 → va_D A (ws ++ [(q, .inl (y.1, N, .inl (fun _ => 0)))]) → va_S A H0 H1 locs → W p l e R s m args below meth c H1 locs (cells + 1) (slots + N) Q (F0 m (pc + 2) ls (.ref q :: rest))) : W p l e R s m args below meth c H locs cells slots Q (F0 m pc ls (.int n :: rest)) := by
  refine va_newa (atype := .int) (ty := .int) (a0 := (N, .inl (fun _ => 0))) X.1.1 X.1.2.1 (X.1.2.2.2.2 _ mJ_int) rfl hK hP hD hS hA (fun _ => rfl) hn hN hby hc hs hdg (fun q cA H1 k1 k2 k3 k4 => ?_)
  have e1 : cA = y.1 := Option.some.inj ((k1.2 4 (cA, .int) rfl).2.symm.trans (hK.2 0 (y.1, .int) rfl).2)
  subst e1
  exact kk q H1 k2 k3 k4
theorem mp_newJ {n : Int32} (N : Nat) (X : mpX p s m args meth c cc nL ret own) (hK : va_K D vwCl (mpT y) s) (hP : va_P D vwCl ws H) (hD : va_D A ws) (hS : va_S A H0 H locs) (hA : ∀ q, H0.size ≤ q → A q) (hn : ¬ n < 0) (hN : n.toNatClampNeg = N) (hby : N * 8 ≤ 536870912) (hc : cells + 1 ≤ R.cells) (hs : slots + N ≤ R.slots) (hdg : decode cc pc = .ok (.newarray .long, 2))
    (kk : ∀ (q : Nat) (H1 : Heap), va_P D vwCl (ws ++ [(q, .inl (y.2.1, N, .inr (.inl (fun _ => 0))))]) H1 → va_D A (ws ++ [(q, .inl (y.2.1, N, .inr (.inl (fun _ => 0))))]) → va_S A H0 H1 locs → W p l e R s m args below meth c H1 locs (cells + 1) (slots + N) Q (F0 m (pc + 2) ls (.ref q :: rest))) : W p l e R s m args below meth c H locs cells slots Q (F0 m pc ls (.int n :: rest)) := by
  refine va_newa (atype := .long) (ty := .long) (a0 := (N, .inr (.inl (fun _ => 0)))) X.1.1 X.1.2.1 (X.1.2.2.2.2 _ mJ_long) rfl hK hP hD hS hA (fun _ => rfl) hn hN hby hc hs hdg (fun q cA H1 k1 k2 k3 k4 => ?_)
  have e1 : cA = y.2.1 := Option.some.inj ((k1.2 4 (cA, .long) rfl).2.symm.trans (hK.2 1 (y.2.1, .long) rfl).2)
  subst e1
  exact kk q H1 k2 k3 k4
theorem mp_newZ {n : Int32} (N : Nat) (X : mpX p s m args meth c cc nL ret own) (hK : va_K D vwCl (mpT y) s) (hP : va_P D vwCl ws H) (hD : va_D A ws) (hS : va_S A H0 H locs) (hA : ∀ q, H0.size ≤ q → A q) (hn : ¬ n < 0) (hN : n.toNatClampNeg = N) (hby : N * 1 ≤ 536870912) (hc : cells + 1 ≤ R.cells) (hs : slots + N ≤ R.slots) (hdg : decode cc pc = .ok (.newarray .boolean, 2))
    (kk : ∀ (q : Nat) (H1 : Heap), va_P D vwCl (ws ++ [(q, .inl (y.2.2.1, N, .inl (fun _ => 0)))]) H1 → va_D A (ws ++ [(q, .inl (y.2.2.1, N, .inl (fun _ => 0)))]) → va_S A H0 H1 locs → W p l e R s m args below meth c H1 locs (cells + 1) (slots + N) Q (F0 m (pc + 2) ls (.ref q :: rest))) : W p l e R s m args below meth c H locs cells slots Q (F0 m pc ls (.int n :: rest)) := by
  refine va_newa (atype := .boolean) (ty := .boolean) (a0 := (N, .inl (fun _ => 0))) X.1.1 X.1.2.1 (X.1.2.2.2.2 _ mJ_boolean) rfl hK hP hD hS hA (fun _ => rfl) hn hN hby hc hs hdg (fun q cA H1 k1 k2 k3 k4 => ?_)
  have e1 : cA = y.2.2.1 := Option.some.inj ((k1.2 4 (cA, .boolean) rfl).2.symm.trans (hK.2 2 (y.2.2.1, .boolean) rfl).2)
  subst e1
  exact kk q H1 k2 k3 k4
end KON
