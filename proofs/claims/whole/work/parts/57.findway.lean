/-! ===== PURE: the class's findWay, whole ===== -/
def wyX (x : PD) (F : Nat → Int64) (G W : Nat → Int32) (a b c : Int32) : PD := wI (wI (wI (wA (stT 42 43 x F G) 44 W) 1283 a) 1285 b) 1286 c
def XW (x x' : PD) : Prop := (∀ i, i ≠ 1283 → i ≠ 1285 → i ≠ 1286 → rI x' i = rI x i) ∧ (∀ i, rL x' i = rL x i) ∧ (∀ i, i ≠ 43 → i ≠ 44 → rA x' i = rA x i) ∧ (∀ i, i ≠ 42 → rB x' i = rB x i)
theorem Ch_y {x y : PD} {t : Tb} {W : Nat → Int32} (h1 : cnp y = cnp x) (h2 : Fst y t = Fst x t) (h3 : ctt y = ctt x) (n i q : Nat) (h : Ch x t W n i q) : Ch y t W n i q := by
  unfold Ch at *
  rw [h1, h2, h3]
  exact h
theorem PD_ext {x y : PD} (h1 : ∀ i, rI x i = rI y i) (h2 : ∀ i, rL x i = rL y i) (h3 : ∀ i, rA x i = rA y i) (h4 : ∀ i, rB x i = rB y i) : x = y := by
  obtain ⟨a, b, c, d⟩ := x
  obtain ⟨a', b', c', d'⟩ := y
  have e1 : a = a' := funext h1
  have e2 : b = b' := funext h2
  have e3 : c = c' := funext h3
  have e4 : d = d' := funext h4
  rw [e1, e2, e3, e4]
theorem XW_form {x x' : PD} (h : XW x x') : x' = wyX x (rB x' 42) (rA x' 43) (rA x' 44) (rI x' 1283) (rI x' 1285) (rI x' 1286) := by
  obtain ⟨h1, h2, h3, h4⟩ := h
  unfold wyX stT
  apply PD_ext
  · intro i
    simp only [rI_wI, rI_wA, rI_wB]
    split
    · next e => rw [e]
    · split
      · next e => rw [e]
      · split
        · next e => rw [e]
        · exact h1 i ‹_› ‹_› ‹_›
  · intro i; exact h2 i
  · intro i
    simp only [rA_wI, rA_wA, rA_wB]
    split
    · next e => rw [e]
    · split
      · next e => rw [e]
      · exact h3 i ‹_› ‹_›
  · intro i
    simp only [rB_wI, rB_wA, rB_wB]
    split
    · next e => rw [e]
    · exact h4 i ‹_›
/-- the class's table: none, or a final one of the mood that it names -/
def TV (x : PD) : Prop := rI x 1283 = -1 ∨ ∃ m t, rI x 1283 = nI m ∧ m ≤ 7 ∧ TabR (cnp x) (rB x 42) (rA x 43) t ∧ bdT 3000 t ∧ FinT x 24 (cpL x) m t
theorem findWay81_c {x : PD} (hV : ScV x) {m : Nat} {t : Tb} (hT : TabR (cnp x) (rB x 42) (rA x 43) t) (hB : bdT 3000 t) (hF : FinT x 24 (cpL x) m t) {p d o : Nat} (hL : LV x p d o) (h5 : rI x 1285 = 0) : ∃ r, Bst x t p d o 101 r ∧ match r with
    | none => f_X1_findWay_b81 x = some x
    | some (s, v) => ∃ W n, v.2 = n + 1 ∧ n < 20 ∧ f_X1_findWay_b81 x = some (swX x W (n + 1)) ∧ W 0 = nI s ∧ Ch x t W n 1 (lds x p s) := by
  have hnp := hV.np.2
  have hnj := hV.nj.2
  obtain ⟨r, hr, hfs⟩ := firstStep_c hV hT hB hL
  refine ⟨r, hr, ?_⟩
  unfold f_X1_findWay_b81
  rw [hfs, bn1_s]
  cases r with
  | none => rfl
  | some w =>
    obtain ⟨s, v⟩ := w
    have hc := hr.2.1
    have hs : s = 100 ∨ s < cnj x := by rcases hc.1 with ⟨h, -⟩ | ⟨h, -⟩; exact Or.inl h; exact Or.inr h
    simp only
    rw [if_neg (nI_ne_m1 (by omega))]
    have hx0 : x = swX x (rA x 44) 0 := by
      unfold swX
      apply PD_ext
      · intro i
        simp only [rI_wI, rI_wA]
        split
        · next e => rw [e, h5]; rfl
        · rfl
      · intro i; rfl
      · intro i
        simp only [rA_wI, rA_wA]
        split
        · next e => rw [e]
        · rfl
      · intro i; rfl
    have ha := addStep_c (x := x) (W := rA x 44) (len := 0) (j := s) (by omega)
    rw [← hx0] at ha
    rw [ha, bn1_s]
    have hpb : f_X1_pieceBehind (swX x (upd (rA x 44) 0 (nI s)) (0 + 1)) (nI s) = some (nI (lds x p s)) := pieceBehind_c (x := swX x (upd (rA x 44) 0 (nI s)) (0 + 1)) (o := o) hV hL hs
    rw [hpb, bn1_s]
    have hlt := lds_lt hV hL.2.1 hc.1
    have hvl := hc.2
    unfold vls at hvl
    cases hto : t (lds x p s) with
    | none => rw [hto] at hvl; cases hvl
    | some u =>
      rw [hto] at hvl
      have hv2 : v.2 = u.2 + 1 := by cases hvl; rfl
      have hsh := Fin_short hV hF hlt hto
      obtain ⟨W', h1, h2, h3⟩ := follow_c hV hT hB hF u.2 FU 1 1 (lds x p s) (upd (rA x 44) 0 (nI s)) (by unfold FU; omega) (by omega) (by omega) hlt ⟨u.1, hto⟩
      have e9 : f_X1_followTable (swX x (upd (rA x 44) 0 (nI s)) (0 + 1)) (nI (lds x p s)) = some (swX x W' (1 + u.2)) := h1
      rw [e9, bn1_s]
      refine ⟨W', u.2, hv2, by omega, by rw [Nat.add_comm], ?_, h2⟩
      rw [h3 0 (by omega)]
      rfl
theorem findWay_c {x : PD} (hV : ScV x) (hTV : TV x) (hpl : rI x 386 = -1 ∨ ∃ p d o, LV x p d o) (hmd : rI x 390 = -1 ∨ ∃ m, rI x 390 = nI m ∧ m ≤ 7) :
    ((rI x 386 = -1 ∨ rI x 390 = -1) ∧ f_X1_findWay x = some (wyX x (rB x 42) (rA x 43) (rA x 44) (rI x 1283) 0 0)) ∨
    ∃ m t p d o F G, rI x 390 = nI m ∧ m ≤ 7 ∧ LV x p d o ∧ TabR (cnp x) F G t ∧ bdT 3000 t ∧ FinT x 24 (cpL x) m t ∧ ∃ r, Bst x t p d o 101 r ∧ match r with
      | none => ∃ W, f_X1_findWay x = some (wyX x F G W (nI m) 0 0)
      | some (s, v) => ∃ W n, v.2 = n + 1 ∧ n < 20 ∧ f_X1_findWay x = some (wyX x F G W (nI m) (nI (n + 1)) 0) ∧ W 0 = nI s ∧ Ch x t W n 1 (lds x p s) := by
  have hpL := hV.pL
  have e0 : wI (wI x 1285 0) 1286 0 = wyX x (rB x 42) (rA x 43) (rA x 44) (rI x 1283) 0 0 := by
    refine XW_form (x := x) (x' := wI (wI x 1285 0) 1286 0) ⟨fun i h1 h2 h3 => ?_, fun i => rfl, fun i _ _ => rfl, fun i _ => rfl⟩
    simp only [rI_wI, if_neg h2, if_neg h3]
  unfold f_X1_findWay f_X1_forget
  simp only [letv_e, bn1_s]
  rw [e0]
  have r386 : rI (wyX x (rB x 42) (rA x 43) (rA x 44) (rI x 1283) 0 0) 386 = rI x 386 := rfl
  have r390 : rI (wyX x (rB x 42) (rA x 43) (rA x 44) (rI x 1283) 0 0) 390 = rI x 390 := rfl
  have r1283 : rI (wyX x (rB x 42) (rA x 43) (rA x 44) (rI x 1283) 0 0) 1283 = rI x 1283 := rfl
  have r11 : rA (wyX x (rB x 42) (rA x 43) (rA x 44) (rI x 1283) 0 0) 11 (Int32.toNatClampNeg 1) = nI (cpL x) := hpL.1
  rw [r386, r390, r1283, r11]
  by_cases a1 : rI x 386 = -1
  · exact Or.inl ⟨Or.inl a1, if_pos a1⟩
  · by_cases a2 : rI x 390 = -1
    · exact Or.inl ⟨Or.inr a2, by rw [if_neg a1, if_pos a2]⟩
    · right
      rw [if_neg a1, if_neg a2]
      obtain ⟨p, d, o, hL⟩ := hpl.resolve_left a1
      obtain ⟨m, hm, hm7⟩ := hmd.resolve_left a2
      -- from a world with a good table on
      have fin : ∀ (y : PD) (F : Nat → Int64) (G : Nat → Int32) (t : Tb), y = wyX x F G (rA x 44) (nI m) 0 0 → TabR (cnp x) F G t → bdT 3000 t → FinT x 24 (cpL x) m t → ∃ m t p d o F G, rI x 390 = nI m ∧ m ≤ 7 ∧ LV x p d o ∧ TabR (cnp x) F G t ∧ bdT 3000 t ∧ FinT x 24 (cpL x) m t ∧ ∃ r, Bst x t p d o 101 r ∧ match r with
          | none => ∃ W, f_X1_findWay_b81 y = some (wyX x F G W (nI m) 0 0)
          | some (s, v) => ∃ W n, v.2 = n + 1 ∧ n < 20 ∧ f_X1_findWay_b81 y = some (wyX x F G W (nI m) (nI (n + 1)) 0) ∧ W 0 = nI s ∧ Ch x t W n 1 (lds x p s) := by
        intro y F G t hy hT hB hF
        subst hy
        obtain ⟨r, hr, hm'⟩ := findWay81_c (x := wyX x F G (rA x 44) (nI m) 0 0) hV hT hB hF hL rfl
        refine ⟨m, t, p, d, o, F, G, hm, hm7, hL, hT, hB, hF, r, hr, ?_⟩
        cases r with
        | none => exact ⟨_, hm'⟩
        | some w =>
          obtain ⟨s, v⟩ := w
          obtain ⟨W, n, k1, k2, k3, k4, k5⟩ := hm'
          refine ⟨W, n, k1, k2, ?_, k4, Ch_y (x := wyX x F G (rA x 44) (nI m) 0 0) (y := x) rfl rfl rfl _ _ _ k5⟩
          rw [k3]
          refine congrArg some (XW_form (x := x) (x' := swX (wyX x F G (rA x 44) (nI m) 0 0) W (n + 1)) ⟨fun i h1 h2 h3 => ?_, fun i => rfl, fun i h1 h2 => ?_, fun i h1 => ?_⟩)
          · unfold swX wyX stT
            simp only [rI_wI, rI_wA, rI_wB, if_neg h1, if_neg h2, if_neg h3]
          · unfold swX wyX stT
            simp only [rA_wI, rA_wA, rA_wB, if_neg h1, if_neg h2]
          · unfold swX wyX stT
            simp only [rB_wI, rB_wA, rB_wB, if_neg h1]
      by_cases a3 : rI x 1283 = rI x 390
      · rw [if_pos a3]
        have h1283 : ¬ rI x 1283 = -1 := by rw [a3]; exact a2
        obtain ⟨m', t, q1, q2, q3, q4, q5⟩ := hTV.resolve_left h1283
        have hmm : m' = m := nI_inj (by omega) (by omega) (by rw [← q1, ← hm, a3])
        subst hmm
        exact fin _ (rB x 42) (rA x 43) t (by rw [q1]) q3 q4 q5
      · rw [if_neg a3]
        obtain ⟨F, G, t, k1, k2, k3, k4⟩ := fill_41 (wyX x (rB x 42) (rA x 43) (rA x 44) (rI x 1283) 0 0) hV (a := 24) (b := cpL x) (m := m) (by omega) hpL.2 hm7
        have e24 : (24 : Int32) = nI 24 := by decide
        rw [← hm] at k1
        rw [e24, k1, bn1_s]
        refine fin _ F G t ?_ k2 k3 k4
        rw [← hm]
        refine XW_form (x := x) ⟨fun i h1 h2 h3 => ?_, fun i => rfl, fun i h1 h2 => ?_, fun i h1 => ?_⟩
        · unfold wyX stT
          simp only [rI_wI, rI_wA, rI_wB, if_neg h1, if_neg h2, if_neg h3]
        · unfold wyX stT
          simp only [rA_wI, rA_wA, rA_wB, if_neg h1, if_neg h2]
        · unfold wyX stT
          simp only [rB_wI, rB_wA, rB_wB, if_neg h1]
