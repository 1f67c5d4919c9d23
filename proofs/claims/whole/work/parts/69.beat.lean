/-! ===== PURE: a beat is done ===== -/
theorem cheap_both {x z : PD} (hV : ScV x) (hS : SEq x z) {p : Nat} (hp : p < cnp x) : ∀ (n j : Nat) (b : Int32), cnj x - j < n → j ≤ cnj x → (b = -1 ∨ ∃ i, b = nI i ∧ i < cnj x) → ∃ r, f_X2_cheapestAtEnd_b4 x n (nI p) b (nI j) = some r ∧ f_X6_cheapest_b4 z n (nI p) b (nI j) = some r ∧ (r = -1 ∨ ∃ i, r = nI i ∧ i < cnj x) := by
  have hnp := hV.np.2
  have hnj := hV.nj.2
  intro n
  induction n with
  | zero => intro j b h; omega
  | succ n ih =>
    intro j b hn hj hb
    rw [f_X2_cheapestAtEnd_b4, f_X6_cheapest_b4, hV.nj.1, hS.nj hV]
    by_cases hlt : j < cnj x
    · have c1 : ¬ nI (cnj x) ≤ nI j := by rw [nI_leI (by omega) (by omega)]; omega
      have i100 : inR (nI j) 100 = true := inR_nI (by omega) (by decide)
      have ip : inR (nI p) 20 = true := inR_nI (by omega) (by decide)
      have cl : Int32.toNatClampNeg (nI j) = j := nI_clamp (by omega)
      have cp : Int32.toNatClampNeg (nI p) = p := nI_clamp (by omega)
      obtain ⟨h7, h8, -, h10, -⟩ := hV.jt hlt
      obtain ⟨m6, m7, -, m9, -⟩ := hS.jt hV hlt
      obtain ⟨-, -, k3, -⟩ := hV.pc hp
      obtain ⟨-, m2, -⟩ := hS.pc hV hp
      rw [if_neg c1, if_neg c1]
      simp only [i100, ip, gd_t, cl, cp, h7, h8, m6, m7, k3, m2, nI_1, f_X2_cheapestAtEnd_b42]
      have same : ∃ r, f_X2_cheapestAtEnd_b4 x n (nI p) b (nI (j + 1)) = some r ∧ f_X6_cheapest_b4 z n (nI p) b (nI (j + 1)) = some r ∧ (r = -1 ∨ ∃ i, r = nI i ∧ i < cnj x) := ih (j + 1) b (by omega) (by omega) hb
      have new : ∃ r, f_X2_cheapestAtEnd_b4 x n (nI p) (nI j) (nI (j + 1)) = some r ∧ f_X6_cheapest_b4 z n (nI p) (nI j) (nI (j + 1)) = some r ∧ (r = -1 ∨ ∃ i, r = nI i ∧ i < cnj x) := ih (j + 1) (nI j) (by omega) (by omega) (Or.inr ⟨j, rfl, hlt⟩)
      have n10 : ¬ (1 : Int32) = 0 := by decide
      by_cases a1 : nI (cfr x j) = nI p
      · rw [if_pos a1, if_pos a1]
        by_cases a2 : nI (cbh x j) = nI (cbs x p)
        · rw [if_pos a2, if_pos a2, if_neg n10]
          rcases hb with rfl | ⟨i, rfl, hi⟩
          · rw [if_pos rfl, if_pos rfl]
            exact new
          · have ii : inR (nI i) 100 = true := inR_nI (by omega) (by decide)
            have ci : Int32.toNatClampNeg (nI i) = i := nI_clamp (by omega)
            obtain ⟨-, -, -, i10, -⟩ := hV.jt hi
            obtain ⟨-, -, -, i9, -⟩ := hS.jt hV hi
            have ne : ¬ nI i = -1 := nI_ne_m1 (by omega)
            rw [if_neg ne, if_neg ne, ii, gd_t, gd_t, ci, i10, i9, h10, m9]
            by_cases a3 : nI (ccs x i) ≤ nI (ccs x j)
            · rw [if_pos a3, if_pos a3]
              exact same
            · rw [if_neg a3, if_neg a3]
              exact new
        · rw [if_neg a2, if_neg a2, if_pos trivial]
          exact same
      · rw [if_neg a1, if_neg a1, if_pos trivial]
        exact same
    · have c1 : nI (cnj x) ≤ nI j := by rw [nI_leI (by omega) (by omega)]; omega
      rw [if_pos c1, if_pos c1]
      exact ⟨b, rfl, rfl, hb⟩
theorem log_N {B M : Nat} {x z : PD} (a b : Int32) (hM : M < 2 ^ 30) (h : RelN B M x z) : ∃ P A1 A2 e c n, f_X0_add x a b = some (lgX x P A1 A2 e c) ∧ f_X6_logs z a b = some (lgZ z P A1 A2 n) ∧ RelN B (M + 1) (lgX x P A1 A2 e c) (lgZ z P A1 A2 n) := by
  obtain ⟨h1, h2, h3, h4, h5, h6, h7, h8, h9, h10⟩ := h
  obtain ⟨P, A1, A2, e, c, n, k1, k2, k3⟩ := add_both a b hM h4.2.2.2.2.2.2.1 h5
  exact ⟨P, A1, A2, e, c, n, k1, k2, h1, h2, h3, h4, k3, h6, h7, h8, h9, h10⟩
/-- what is left of the way when piece q begins by it -/
def WS (x z : PD) (q : Nat) : Prop := ∃ m t k n, rI x 390 = nI m ∧ m ≤ 7 ∧ rI x 1283 = nI m ∧ TabR (cnp x) (rB x 42) (rA x 43) t ∧ bdT 3000 t ∧ FinT x 24 (cpL x) m t ∧
    Ch x t (rA x 44) n k q ∧ k + n ≤ 20 ∧ rI x 1286 = nI k ∧ rI x 1285 = nI (k + n) ∧
    rI z 20 = 1 ∧ rI z 21 = nI (k + n) ∧ rI z 22 = nI k ∧ ∀ i, i < k + n → rA z 16 i = rA x 44 i
theorem begin_way {B M : Nat} {x z : PD} {q : Nat} (tu : Int32) (hM : M < 2 ^ 30) (h : RelN B M x z) (hq : q < cnp x) (hk : ckd x q ≤ 1) (hw : WS x z q) : ∃ x' z', f_X5_begin x (nI q) tu = some x' ∧ f_X6_begins z (nI q) tu 1 = some z' ∧ RelB B (M + 1) x' z' ∧ WR x' z' ∧ rI z' 0 = rI z 0 ∧ rL x' 385 = rL x 385 ∧ rI x' 386 = nI q := by
  have hb := bg_rel tu h hq hk
  have hV := h.1
  have hnp := hV.np.2
  obtain ⟨m, t, k, n, hm, hm7, w1, w2, w3, w4, w5, w6, w7, w8, w9, w10, w11, w12⟩ := hw
  have g4 : gt (bgZ z (nI q) tu) 4 = nI m := by
    have : gt (bgZ z (nI q) tu) 4 = rI x 390 := h.2.2.2.1.1
    rw [this, hm]
  have hh : f_X6_has (bgZ z (nI q) tu) (nI q) (nI m) = some (if mbit x m q = 0 then 0 else 1) := has_m (x := x) (z := bgZ z (nI q) tu) h.2.1 (by omega) hm7
  rw [begin_c, begins_m, g4, if_neg (nI_ne_m1 (show m < 2 ^ 31 by omega)), hh, bn1_s]
  rcases meet_rel hM hb with ⟨k1, k2⟩ | ⟨x', z', k1, k2, k3, k4, k5, k6, p', m', j1, j2, j3, j4, j5⟩
  · have hmb : mbit x m q = 0 := by
      rcases k2 with k2 | k2 | ⟨p', m', j1, j2, j3, j4, j5⟩
      · exact absurd k2 (nI_ne_m1 (show q < 2 ^ 31 by omega))
      · have k2' : rI x 390 = -1 := k2
        rw [hm] at k2'
        exact absurd k2' (nI_ne_m1 (show m < 2 ^ 31 by omega))
      · have hpp : q = p' := nI_inj (by omega) (by have : p' < cnp x := j3; omega) j1
        have j2' : rI x 390 = nI m' := j2
        rw [hm] at j2'
        have hmm : m = m' := nI_inj (by omega) (by omega) j2'
        subst hpp
        subst hmm
        exact j5
    rw [k1, bn2_s, if_pos hmb, if_pos rfl]
    unfold f_X6_begins_b59
    rw [if_neg (show ¬ (1 : Int32) = 0 by decide)]
    cases n with
    | zero =>
      obtain ⟨-, c, hc⟩ := Ch_at w5
      exact absurd hmb (Fin_zero w4 hc).2.2
    | succ n =>
      obtain ⟨-, -, j, a1, a2, a3⟩ := w5
      obtain ⟨b1, b2, -⟩ := a2.1
      obtain ⟨-, -, -, -, -, -, -, -, -, -, hj100⟩ := hV.jt b1
      have hbh := (hV.2.2.2.1 j b1).2.2.2.2.1
      have hlds : lds x q j = ctt x j := by unfold lds; rw [if_neg (by omega)]
      have e1 : k + 1 + n = k + (n + 1) := by omega
      refine ⟨_, _, rfl, rfl, RelB_mono (Nat.le_refl _) (by omega) hb, Or.inr ⟨m, t, q, 0, j, k, n, hm, hm7, w1, w2, w3, w4, rfl, hq, rfl, Or.inr ⟨b1, b2, show 0 < cbh x j by omega⟩, a1, ?_, by omega, w7, ?_, w9, ?_, w11, ?_⟩, rfl, rfl, rfl⟩
      · have a3' : Ch x t (rA x 44) n (k + 1) (lds x q j) := by rw [hlds]; exact a3
        exact a3'
      · rw [e1]; exact w8
      · rw [e1]; exact w10
      · rw [e1]; exact w12
  · have hpp : q = p' := nI_inj (by omega) (by have : p' < cnp x := j3; omega) j1
    have j2' : rI x 390 = nI m' := j2
    rw [hm] at j2'
    have hmm : m = m' := nI_inj (by omega) (by omega) j2'
    subst hpp
    subst hmm
    have j5' : ¬ mbit x m q = 0 := j5
    rw [if_neg j5', if_neg (show ¬ (1 : Int32) = 0 by decide), k2, bn1_s, k1, bn2_s]
    exact ⟨_, _, rfl, rfl, k3, Or.inl k4, k5.1, k5.2.1, k5.2.2⟩
/-- what plays has just done beat e -/
def RelD (B M : Nat) (x z : PD) (p e : Nat) : Prop := RelN B M x z ∧ rI x 386 = nI p ∧ p < cnp x ∧ ckd x p ≤ 1 ∧ rI x 387 = nI e ∧ e ≤ cbs x p ∧ gt z 0 = nI p ∧ gt z 1 = nI e ∧ gt z 2 = rI x 388 ∧ gt z 3 = 0 ∧ rL x 389 = rL x 385
theorem RelD_B {B M : Nat} {x z : PD} {p e : Nat} (h : RelD B M x z p e) (he : e < cbs x p) : RelB B M x z := by
  obtain ⟨⟨hV, hS, hX, hR, hr⟩, k1, k2, k3, k4, k5, k6, k7, k8, k9, k10⟩ := h
  have hnp := hV.np.2
  refine ⟨hV, hS, ?_, ?_, hr⟩
  · obtain ⟨T, q1, q2, q4, q5⟩ := hX
    obtain ⟨-, -, -, -, -, -, j7, -⟩ := hV.pc k2
    exact ⟨T, q1, q2, Or.inr ⟨p, e, 0, k1, k2, k3, k4, he, Nat.zero_le _, by rw [k10, q1]; rfl, by omega⟩, q4, q5⟩
  · obtain ⟨h4, h5, h6, h7, h8, h9, h10, h11⟩ := hR
    refine ⟨?_, ?_, k8, ?_, h4, h5, h6, h7, h8, h9, h10, h11⟩
    · rw [k1]; exact k6
    · rw [k4]; exact k7
    · have : (rB z 11 3).toInt32 = 0 := k9
      rw [this, k1, if_neg (nI_ne_m1 (by omega)), k10]
      have : rL x 385 - rL x 385 = 0 := by simp
      rw [this]
      rfl
theorem again_find {B M : Nat} {x z : PD} {p e : Nat} (w : Int32) (hM : M + 1 < 2 ^ 30) (h : RelD B M x z p e) : ∃ x1 x' z', f_X5_takeStep x 100 w = some x1 ∧ f_X1_findWay x1 = some x' ∧ f_X6_goesAgain z 0 = some z' ∧ RelB B (M + 2) x' z' ∧ WR x' z' ∧ rI z' 0 = rI z 0 ∧ rL x' 385 = rL x 385 ∧ ¬ rI x' 386 = -1 := by
  obtain ⟨hN, k1, k2, k3, k4, k5, k6, k7, k8, k9, k10⟩ := h
  have hnp := hN.1.np.2
  obtain ⟨P, A1, A2, e', c, n, j1, j2, j3⟩ := log_N 3 (nI p) (by omega) hN
  obtain ⟨x1, x', z', q1, q2, q3, q4, q5, q6, q7, q8⟩ := begin_find (p := p) (rI x 388 + 1) (by omega) j3 k2 k3
  refine ⟨x1, x', z', ?_, q2, ?_, q4, q5, q6, q7, ?_⟩
  · unfold f_X5_takeStep f_X5_takeStep_b49 f_X5_takeStep_b71
    rw [if_pos rfl, k1, j1, bn1_s, if_pos rfl]
    have r : rI (lgX x P A1 A2 e' c) 388 = rI x 388 := rfl
    rw [r, q1, bn1_s]
  · unfold f_X6_goesAgain
    have g0 : gt (lgZ z P A1 A2 n) 0 = nI p := k6
    have g2 : gt (lgZ z P A1 A2 n) 2 = rI x 388 := k8
    rw [get0, bn1_s, k6, j2, bn1_s, get0, bn1_s, g0, get2, bn1_s, g2, q3, bn1_s]
  · rw [q8]
    exact nI_ne_m1 (by omega)
/-- a joint's number is no AGAIN -/
theorem j_n100 {j : Nat} (h : j < 100) : ¬ nI j = 100 := by
  rw [nI100, nI_eq (by omega) (by omega)]
  omega
theorem joint_find {B M : Nat} {x z : PD} {p e i : Nat} (hM : M + 1 < 2 ^ 30) (h : RelD B M x z p e) (hi : i < cnj x) : ∃ x1 x' z', f_X5_takeStep x (nI i) 2 = some x1 ∧ f_X1_findWay x1 = some x' ∧ f_X6_takes z (nI i) 0 = some z' ∧ RelB B (M + 2) x' z' ∧ WR x' z' ∧ rI z' 0 = rI z 0 ∧ rL x' 385 = rL x 385 ∧ ¬ rI x' 386 = -1 := by
  obtain ⟨hN, k1, k2, k3, k4, k5, k6, k7, k8, k9, k10⟩ := h
  have hV := hN.1
  have hS := hN.2.1
  have hnp := hV.np.2
  obtain ⟨-, -, h9, -, -, h6, -, -, -, -, h100⟩ := hV.jt hi
  obtain ⟨-, -, m8, -⟩ := hS.jt hV hi
  have hk := (hV.2.2.2.1 i hi).2.2.2.2.2.2.2.2.1
  obtain ⟨P, A1, A2, e', c, n, j1, j2, j3⟩ := log_N 2 (nI i) (by omega) hN
  obtain ⟨x1, x', z', q1, q2, q3, q4, q5, q6, q7, q8⟩ := begin_find (p := ctt x i) (if nI (ctt x i) = nI p then rI x 388 + 1 else 1) (by omega) j3 h6 hk
  have ii : inR (nI i) 100 = true := inR_nI h100 (by decide)
  have ci : Int32.toNatClampNeg (nI i) = i := nI_clamp (by omega)
  refine ⟨x1, x', z', ?_, q2, ?_, q4, q5, q6, q7, ?_⟩
  · unfold f_X5_takeStep f_X5_takeStep_b49 f_X5_takeStep_b71
    have r9 : rA (lgX x P A1 A2 e' c) 9 i = nI (ctt x i) := h9
    have r : rI (lgX x P A1 A2 e' c) 388 = rI x 388 := rfl
    rw [if_neg (j_n100 h100), j1, bn1_s, ii, gd_t, ci, k1, r9, r]
    by_cases a : nI (ctt x i) = nI p
    · rw [if_pos a] at q1
      rw [if_pos a, q1, bn1_s]
    · rw [if_neg a] at q1
      rw [if_neg a, q1, bn1_s]
  · unfold f_X6_takes f_X6_takes_b10 f_X6_takes_b46
    have g0 : gt (lgZ z P A1 A2 n) 0 = nI p := k6
    have g2 : gt (lgZ z P A1 A2 n) 2 = rI x 388 := k8
    have r8 : rA (lgZ z P A1 A2 n) 8 i = nI (ctt x i) := m8
    rw [if_pos rfl, j2, bn1_s, ii, gd_t, gd_t, ci, get0, bn1_s, g0, r8, get2, bn1_s, g2]
    by_cases a : nI (ctt x i) = nI p
    · rw [if_pos a] at q3
      rw [if_pos a, q3, bn1_s]
    · rw [if_neg a] at q3
      rw [if_neg a, q3, bn1_s]
  · rw [q8]
    exact nI_ne_m1 (by omega)
/-- the way's next step is taken -/
theorem again_way {B M : Nat} {x z : PD} {p e : Nat} (w : Int32) (hM : M + 1 < 2 ^ 30) (h : RelD B M x z p e) (hw : WS x z p) : ∃ x' z', f_X5_takeStep x 100 w = some x' ∧ f_X6_goesAgain z 1 = some z' ∧ RelB B (M + 2) x' z' ∧ WR x' z' ∧ rI z' 0 = rI z 0 ∧ rL x' 385 = rL x 385 ∧ ¬ rI x' 386 = -1 := by
  obtain ⟨hN, k1, k2, k3, k4, k5, k6, k7, k8, k9, k10⟩ := h
  have hnp := hN.1.np.2
  obtain ⟨P, A1, A2, e', c, n, j1, j2, j3⟩ := log_N 3 (nI p) (by omega) hN
  have hw' : WS (lgX x P A1 A2 e' c) (lgZ z P A1 A2 n) p := hw
  obtain ⟨x', z', q1, q3, q4, q5, q6, q7, q8⟩ := begin_way (q := p) (rI x 388 + 1) (by omega) j3 k2 k3 hw'
  refine ⟨x', z', ?_, ?_, q4, q5, q6, q7, ?_⟩
  · unfold f_X5_takeStep f_X5_takeStep_b49 f_X5_takeStep_b71
    rw [if_pos rfl, k1, j1, bn1_s, if_pos rfl]
    have r : rI (lgX x P A1 A2 e' c) 388 = rI x 388 := rfl
    rw [r, q1, bn1_s]
  · unfold f_X6_goesAgain
    have g0 : gt (lgZ z P A1 A2 n) 0 = nI p := k6
    have g2 : gt (lgZ z P A1 A2 n) 2 = rI x 388 := k8
    rw [get0, bn1_s, k6, j2, bn1_s, get0, bn1_s, g0, get2, bn1_s, g2, q3, bn1_s]
  · rw [q8]
    exact nI_ne_m1 (by omega)
theorem joint_way {B M : Nat} {x z : PD} {p e i : Nat} (hM : M + 1 < 2 ^ 30) (h : RelD B M x z p e) (hi : i < cnj x) (hw : WS x z (ctt x i)) : ∃ x' z', f_X5_takeStep x (nI i) 1 = some x' ∧ f_X6_takes z (nI i) 1 = some z' ∧ RelB B (M + 2) x' z' ∧ WR x' z' ∧ rI z' 0 = rI z 0 ∧ rL x' 385 = rL x 385 ∧ ¬ rI x' 386 = -1 := by
  obtain ⟨hN, k1, k2, k3, k4, k5, k6, k7, k8, k9, k10⟩ := h
  have hV := hN.1
  have hS := hN.2.1
  have hnp := hV.np.2
  obtain ⟨-, -, h9, -, -, h6, -, -, -, -, h100⟩ := hV.jt hi
  obtain ⟨-, -, m8, -⟩ := hS.jt hV hi
  have hk := (hV.2.2.2.1 i hi).2.2.2.2.2.2.2.2.1
  obtain ⟨P, A1, A2, e', c, n, j1, j2, j3⟩ := log_N 1 (nI i) (by omega) hN
  have hw' : WS (lgX x P A1 A2 e' c) (lgZ z P A1 A2 n) (ctt x i) := hw
  obtain ⟨x', z', q1, q3, q4, q5, q6, q7, q8⟩ := begin_way (q := ctt x i) (if nI (ctt x i) = nI p then rI x 388 + 1 else 1) (by omega) j3 h6 hk hw'
  have ii : inR (nI i) 100 = true := inR_nI h100 (by decide)
  have ci : Int32.toNatClampNeg (nI i) = i := nI_clamp (by omega)
  refine ⟨x', z', ?_, ?_, q4, q5, q6, q7, ?_⟩
  · unfold f_X5_takeStep f_X5_takeStep_b49 f_X5_takeStep_b71
    have r9 : rA (lgX x P A1 A2 e' c) 9 i = nI (ctt x i) := h9
    have r : rI (lgX x P A1 A2 e' c) 388 = rI x 388 := rfl
    rw [if_neg (j_n100 h100), j1, bn1_s, ii, gd_t, ci, k1, r9, r]
    by_cases a : nI (ctt x i) = nI p
    · rw [if_pos a] at q1
      rw [if_pos a, q1, bn1_s]
    · rw [if_neg a] at q1
      rw [if_neg a, q1, bn1_s]
  · unfold f_X6_takes f_X6_takes_b10 f_X6_takes_b46
    have g0 : gt (lgZ z P A1 A2 n) 0 = nI p := k6
    have g2 : gt (lgZ z P A1 A2 n) 2 = rI x 388 := k8
    have r8 : rA (lgZ z P A1 A2 n) 8 i = nI (ctt x i) := m8
    rw [if_neg (show ¬ (1 : Int32) = 0 by decide), j2, bn1_s, ii, gd_t, gd_t, ci, get0, bn1_s, g0, r8, get2, bn1_s, g2]
    by_cases a : nI (ctt x i) = nI p
    · rw [if_pos a] at q3
      rw [if_pos a, q3, bn1_s]
    · rw [if_neg a] at q3
      rw [if_neg a, q3, bn1_s]
  · rw [q8]
    exact nI_ne_m1 (by omega)
theorem fill_c {x : PD} : ∀ (n i : Nat) (f : Nat → Int32), 20 - i < n → i ≤ 20 → (∀ j, j < i → f j = 0) → ∃ f', f_J7_fill_53178_14_b5 n (wA x 14 f) 0 (nI i) 20 = some (wA x 14 f') ∧ ∀ j, j < 20 → f' j = 0 := by
  have e20 : (20 : Int32) = nI 20 := by decide
  intro n
  induction n with
  | zero => intro i f h; omega
  | succ n ih =>
    intro i f hn hi hf
    rw [f_J7_fill_53178_14_b5]
    by_cases hlt : i < 20
    · have r14 : rA (wA x 14 f) 14 = f := rfl
      rw [if_neg (by rw [e20, nI_leI (by omega) (by omega)]; omega), inR_nI hlt (by decide), gd_t, letv_e, nI_clamp (show i < 2 ^ 31 by omega), r14, wA_wA, nI_1]
      refine ih (i + 1) (upd f i 0) (by omega) (by omega) (fun j hj => ?_)
      by_cases e : j = i
      · rw [e, upd_eq]
      · rw [upd_ne e]; exact hf j (by omega)
    · have : i = 20 := by omega
      subst this
      rw [if_pos (by decide)]
      exact ⟨f, rfl, hf⟩
theorem sil_loop {z : PD} (D0 : Nat → Int64) : ∀ (n i : Nat) (D : Nat → Int64), 20 - i < n → i ≤ 20 → (∀ j, j < i → D (36 + j) = 0) → (∀ k, k < 36 → D k = D0 k) → ∃ D', f_X6_silence_b43 n (wB z 11 D) (nI i) = (bn1 (f_X6_finds (wB z 11 D')) fun x7 => some x7) ∧ (∀ j, j < 20 → D' (36 + j) = 0) ∧ (∀ k, k < 36 → D' k = D0 k) := by
  have e20 : (20 : Int32) = nI 20 := by decide
  intro n
  induction n with
  | zero => intro i D h; omega
  | succ n ih =>
    intro i D hn hi hf h0
    rw [f_X6_silence_b43]
    by_cases hlt : i < 20
    · have r11 : rB (wB z 11 D) 11 = D := rfl
      have e36 : (36 : Int32) + nI i = nI (36 + i) := nI_add 36 i
      rw [if_neg (by rw [e20, nI_leI (by omega) (by omega)]; omega), e36, inR_nI (show 36 + i < 56 by omega) (by decide), gd_t, letv_e, nI_clamp (show 36 + i < 2 ^ 31 by omega), r11, wB_wB, nI_1]
      refine ih (i + 1) (vp_updL D (36 + i) 0) (by omega) (by omega) (fun j hj => ?_) (fun k hk => ?_)
      · by_cases e : j = i
        · rw [e, updL_eq]
        · rw [updL_ne (by omega)]; exact hf j (by omega)
      · rw [updL_ne (by omega)]; exact h0 k hk
    · have : i = 20 := by omega
      subst this
      rw [if_pos (by decide)]
      exact ⟨D, rfl, hf, h0⟩
def slX (x : PD) : PD := wI (wI (wI x 386 (-1)) 388 0) 387 0
def slB (b : Nat → Int64) : Nat → Int64 := vp_updL (vp_updL (vp_updL (vp_updL b 0 (-1)) 1 0) 3 0) 2 0
theorem slB_ne {b : Nat → Int64} {k : Nat} (h : 4 ≤ k) : slB b k = b k := by
  unfold slB
  rw [updL_ne (by omega), updL_ne (by omega), updL_ne (by omega), updL_ne (by omega)]
theorem silence_m {z : PD} {s : Int32} (h0 : gt z 0 = s) : f_X6_silence z = bn1 (f_X6_logs z 7 s) fun x2 => f_X6_silence_b43 FU (wB x2 11 (slB (rB x2 11))) 0 := by
  unfold f_X6_silence
  have e0 : Int32.toNatClampNeg 0 = 0 := by decide
  have e1 : Int32.toNatClampNeg 1 = 1 := by decide
  have e2 : Int32.toNatClampNeg 2 = 2 := by decide
  have e3 : Int32.toNatClampNeg 3 = 3 := by decide
  have r11 : ∀ (y : PD) (f : Nat → Int64), rB (wB y 11 f) 11 = f := fun _ _ => rfl
  rw [get0, bn1_s, h0]
  simp only [letv_e, e0, e1, e2, e3, r11, wB_wB]
  rfl
theorem silence_both {B M : Nat} {x z : PD} {p e : Nat} (hM : M < 2 ^ 30) (h : RelD B M x z p e) : ∃ x1 x2 x' z1, f_X5_fallSilent x = some x1 ∧ f_X1_findWay x1 = some x2 ∧ f_X5_endBeat_b100 x2 = some x' ∧ f_X6_silence z = some z1 ∧ f_X6_isDone_b212 z1 = some z1 ∧ RelB B (M + 1) x' z1 ∧ WR x' z1 ∧ rI z1 0 = rI z 0 ∧ rL x' 385 = rL x 385 := by
  obtain ⟨hN, k1, k2, k3, k4, k5, k6, k7, k8, k9, k10⟩ := h
  have hnp := hN.1.np.2
  obtain ⟨P, A1, A2, e', c, n, j1, j2, j3⟩ := log_N 7 (nI p) (by omega) hN
  obtain ⟨D', d1, d2, d3⟩ := sil_loop (z := lgZ z P A1 A2 n) (slB (rB z 11)) FU 0 (slB (rB z 11)) (by unfold FU; omega) (by omega) (fun j hj => absurd hj (by omega)) (fun k _ => rfl)
  have hf1 := findWay_none (x := slX (lgX x P A1 A2 e' c)) (Or.inl rfl)
  have t0 : (D' 0).toInt32 = -1 := by rw [d3 0 (by omega)]; show (-1 : Int64).toInt32 = -1; decide
  have t1 : (D' 1).toInt32 = 0 := by rw [d3 1 (by omega)]; show (0 : Int64).toInt32 = 0; decide
  have t2 : (D' 2).toInt32 = 0 := by rw [d3 2 (by omega)]; show (0 : Int64).toInt32 = 0; decide
  have t3 : (D' 3).toInt32 = 0 := by rw [d3 3 (by omega)]; show (0 : Int64).toInt32 = 0; decide
  have hf2 := finds_none (z := wB (lgZ z P A1 A2 n) 11 D') (Or.inr t0)
  obtain ⟨f', f1, f2⟩ := fill_c (x := wyX (slX (lgX x P A1 A2 e' c)) (rB x 42) (rA x 43) (rA x 44) (rI x 1283) 0 0) FU 0 (rA x 14) (by unfold FU; omega) (by omega) (fun j hj => absurd hj (by omega))
  have es : wA (wyX (slX (lgX x P A1 A2 e' c)) (rB x 42) (rA x 43) (rA x 44) (rI x 1283) 0 0) 14 (rA x 14) = wyX (slX (lgX x P A1 A2 e' c)) (rB x 42) (rA x 43) (rA x 44) (rI x 1283) 0 0 := wA_self (wyX (slX (lgX x P A1 A2 e' c)) (rB x 42) (rA x 43) (rA x 44) (rI x 1283) 0 0) 14
  rw [es] at f1
  refine ⟨slX (lgX x P A1 A2 e' c), wyX (slX (lgX x P A1 A2 e' c)) (rB x 42) (rA x 43) (rA x 44) (rI x 1283) 0 0, wA (wyX (slX (lgX x P A1 A2 e' c)) (rB x 42) (rA x 43) (rA x 44) (rI x 1283) 0 0) 14 f', wyZ (wB (lgZ z P A1 A2 n) 11 D') (rB z 20) (rA z 21) (rA z 16) 0 0 0, ?_, hf1, ?_, ?_, ?_, ?_, Or.inl ⟨rfl, rfl, rfl, rfl, rfl⟩, rfl, rfl⟩
  · unfold f_X5_fallSilent
    rw [k1, j1, bn1_s]
    rfl
  · unfold f_X5_endBeat_b100 f_X5_moveLayers f_J7_fill_53178_14 f_X5_beginSting
    have r386 : rI (wyX (slX (lgX x P A1 A2 e' c)) (rB x 42) (rA x 43) (rA x 44) (rI x 1283) 0 0) 386 = -1 := rfl
    have r386' : rI (wA (wyX (slX (lgX x P A1 A2 e' c)) (rB x 42) (rA x 43) (rA x 44) (rI x 1283) 0 0) 14 f') 386 = -1 := rfl
    have f1' : f_J7_fill_53178_14_b5 FU (wyX (slX (lgX x P A1 A2 e' c)) (rB x 42) (rA x 43) (rA x 44) (rI x 1283) 0 0) 0 0 20 = some (wA (wyX (slX (lgX x P A1 A2 e' c)) (rB x 42) (rA x 43) (rA x 44) (rI x 1283) 0 0) 14 f') := f1
    rw [if_pos r386, f1', bn1_s, bn1_s, if_pos r386', bn1_s]
  · rw [silence_m k6, j2, bn1_s]
    have d1' : f_X6_silence_b43 FU (wB (lgZ z P A1 A2 n) 11 (slB (rB (lgZ z P A1 A2 n) 11))) 0 = (bn1 (f_X6_finds (wB (lgZ z P A1 A2 n) 11 D')) fun x7 => some x7) := d1
    rw [d1', hf2, bn1_s]
    rfl
  · rw [b212_m, if_pos (show gt (wyZ (wB (lgZ z P A1 A2 n) 11 D') (rB z 20) (rA z 21) (rA z 16) 0 0 0) 0 = -1 from t0)]
  · obtain ⟨hV, hS, hX, hR, hL, hTV, s0, s1, s2, s3⟩ := j3
    refine ⟨hV, hS, ?_, ?_, hL, hTV, s0, s1, s2, s3⟩
    · obtain ⟨T, q1, q2, q4, q5, q6, q7, q8⟩ := hX
      exact ⟨T, q1, q2, Or.inl ⟨rfl, rfl⟩, q4, q5, q6, q7, fun q _ hq => f2 q hq⟩
    · obtain ⟨h4, h5, h6, h7, h8, h9, h10, h11⟩ := hR
      have hne : ∀ k, 4 ≤ k → k < 36 → D' k = rB z 11 k := fun k a b => by rw [d3 k b, slB_ne a]
      refine ⟨t0, t1, t2, ?_, ?_, ?_, ?_, fun i hi => ?_, fun i hi => ?_, fun i hi => ?_, h10, h11⟩
      · show (D' 3).toInt32 = if (-1 : Int32) = -1 then 0 else _
        rw [if_pos rfl]
        exact t3
      · exact (congrArg Int64.toInt32 (hne 4 (by omega) (by omega))).trans h4
      · exact (congrArg Int64.toInt32 (hne 5 (by omega) (by omega))).trans h5
      · exact (congrArg Int64.toInt32 (hne 6 (by omega) (by omega))).trans h6
      · exact (congrArg Int64.toInt32 (hne (7 + i) (by omega) (by omega))).trans (h7 i hi)
      · exact (congrArg Int64.toInt32 (hne (16 + i) (by omega) (by omega))).trans (h8 i hi)
      · show (D' (36 + i)).toInt32 = f' i
        rw [d2 i hi, f2 i hi]
        decide
/-- the piece is over, and no way leads on -/
theorem endp_both {B M : Nat} {x z : PD} {p e : Nat} (hM : M + 2 < 2 ^ 30) (hBB : B < 2 ^ 30) (h : RelD B M x z p e) : ∃ x' z', (bn1 (f_X5_endPiece x) fun x7 => f_X5_endBeat_b100 x7) = some x' ∧ f_X6_isDone_b144 z (nI p) 1 = some z' ∧ RelB B (M + 3) x' z' ∧ WR x' z' ∧ rI z' 0 = rI z 0 ∧ rL x' 385 = rL x 385 := by
  obtain ⟨hN, k1, k2, k3, k4, k5, k6, k7, k8, k9, k10⟩ := id h
  have hV := hN.1
  have hS := hN.2.1
  have hnp := hV.np.2
  have hnj := hV.nj.2
  obtain ⟨r, c1, c2, c3⟩ := cheap_both hV hS k2 FU 0 (-1) (by unfold FU; omega) (Nat.zero_le _) (Or.inl rfl)
  obtain ⟨p2, -, -, -, -, -, -, -, p6, -⟩ := hV.pc k2
  obtain ⟨m1, -, -, m5⟩ := hS.pc hV k2
  have ip : inR (nI p) 20 = true := inR_nI (by omega) (by decide)
  have cp : Int32.toNatClampNeg (nI p) = p := nI_clamp (by omega)
  have n10 : ¬ (1 : Int32) = 0 := by decide
  have hA : f_X5_stepAtEnd x = some (if nI (ckd x p) = 0 ∧ (rI x 388 < nI (cms x p) ∨ r = -1) then 100 else r) := by
    unfold f_X5_stepAtEnd f_X2_cheapestAtEnd f_X5_stepAtEnd_b46
    have c1' : f_X2_cheapestAtEnd_b4 x FU (nI p) (-1) 0 = some r := c1
    rw [k1, c1', bn1_s, ip, gd_t, gd_t, gd_t, cp, p6, p2, if_neg n10, if_pos rfl]
    by_cases a0 : nI (ckd x p) = 0
    · by_cases a1 : rI x 388 < nI (cms x p)
      · rw [if_pos a1, if_pos a0, if_pos ⟨a0, Or.inl a1⟩]
      · by_cases a2 : r = -1
        · rw [if_neg a1, if_pos a2, if_pos a0, if_pos ⟨a0, Or.inr a2⟩]
        · rw [if_neg a1, if_neg a2, if_pos a0, if_neg (fun q => q.2.elim a1 a2)]
    · rw [if_neg a0, if_neg (show ¬ (nI (ckd x p) = 0 ∧ (rI x 388 < nI (cms x p) ∨ r = -1)) from fun q => a0 q.1)]
      split
      · rfl
      · split
        · rfl
        · rfl
  have hB : f_X6_isDone_b144 z (nI p) 1 = if nI (ckd x p) = 0 ∧ (rI x 388 < nI (cms x p) ∨ r = -1) then f_X6_isDone_b184 z else f_X6_isDone_b192 z r := by
    unfold f_X6_isDone_b144 f_X6_cheapest
    have c2' : f_X6_cheapest_b4 z FU (nI p) (-1) 0 = some r := c2
    rw [if_neg n10, c2', bn1_s, ip, gd_t, cp, m1, m5, get2, bn1_s, k8, gd_t]
    by_cases a0 : nI (ckd x p) = 0
    · rw [if_pos a0]
      by_cases a1 : rI x 388 < nI (cms x p)
      · rw [if_pos a1, if_pos ⟨a0, Or.inl a1⟩]
      · by_cases a2 : r = -1
        · rw [if_neg a1, if_pos a2, if_pos ⟨a0, Or.inr a2⟩]
        · rw [if_neg a1, if_neg a2, if_neg (fun q => q.2.elim a1 a2)]
    · rw [if_neg a0, if_neg (fun q => a0 q.1)]
  unfold f_X5_endPiece f_X5_endPiece_b23
  rw [hA, hB, bn1_s]
  by_cases hc : nI (ckd x p) = 0 ∧ (rI x 388 < nI (cms x p) ∨ r = -1)
  · rw [if_pos hc, if_pos hc, if_neg (show ¬ (100 : Int32) = -1 by decide)]
    obtain ⟨x1, x2, z2, q1, q2, q3, q4, q5, q6, q7, q8⟩ := again_find 2 (by omega) h
    obtain ⟨x', z', r1, r2, r3, r4, r5, r6⟩ := b100_both (by omega) hBB q4 q5 q8
    unfold f_X6_isDone_b184
    rw [q1, bn1_s, q2, bn1_s, bn1_s, r1, q3, bn1_s, r2]
    exact ⟨x', z', rfl, rfl, r3, r4, by rw [r5, q6], by rw [r6, q7]⟩
  · rw [if_neg hc, if_neg hc]
    unfold f_X6_isDone_b192
    rcases c3 with hr | ⟨i, hr, hi⟩
    · rw [if_pos hr, if_pos hr]
      obtain ⟨x1, x2, x', z1, q1, q2, q3, q4, q5, q6, q7, q8, q9⟩ := silence_both (by omega) h
      rw [q1, bn1_s, q2, bn1_s, bn1_s, q3, q4, bn1_s, q5]
      exact ⟨x', z1, rfl, rfl, RelB_mono (Nat.le_refl _) (by omega) q6, q7, q8, q9⟩
    · have hr1 : ¬ r = -1 := by rw [hr]; exact nI_ne_m1 (by omega)
      rw [if_neg hr1, if_neg hr1, hr]
      obtain ⟨x1, x2, z2, q1, q2, q3, q4, q5, q6, q7, q8⟩ := joint_find (by omega) h hi
      obtain ⟨x', z', r1, r2, r3, r4, r5, r6⟩ := b100_both (by omega) hBB q4 q5 q8
      rw [q1, bn1_s, q2, bn1_s, bn1_s, r1, q3, bn1_s, r2]
      exact ⟨x', z', rfl, rfl, r3, r4, by rw [r5, q6], by rw [r6, q7]⟩
/-- no step of the way is due -/
theorem else_both {B M : Nat} {x z : PD} {p e : Nat} {lf : Int32} (hM : M + 2 < 2 ^ 30) (hBB : B < 2 ^ 30) (h : RelD B M x z p e) (hl : (lf = 0 ∧ e < cbs x p ∧ WR x z) ∨ lf = 1) : ∃ x' z', (if lf = 0 then f_X5_endBeat_b100 x else bn1 (f_X5_endPiece x) fun x7 => f_X5_endBeat_b100 x7) = some x' ∧ f_X6_isDone_b144 z (nI p) lf = some z' ∧ RelB B (M + 3) x' z' ∧ WR x' z' ∧ rI z' 0 = rI z 0 ∧ rL x' 385 = rL x 385 := by
  rcases hl with ⟨rfl, h2, hW⟩ | rfl
  · have hnp := h.1.1.np.2
    have hp := h.2.2.1
    obtain ⟨x', z', r1, r2, r3, r4, r5, r6⟩ := b100_both (by omega) hBB (RelD_B h h2) hW (by rw [h.2.1]; exact nI_ne_m1 (by omega))
    unfold f_X6_isDone_b144
    rw [if_pos rfl, if_pos rfl, r1, r2]
    exact ⟨x', z', rfl, rfl, RelB_mono (Nat.le_refl _) (by omega) r3, r4, r5, r6⟩
  · rw [if_neg (show ¬ (1 : Int32) = 0 by decide)]
    exact endp_both hM hBB h
/-- a step of the way is due -/
theorem due_both {B M : Nat} {x z : PD} {p e s k : Nat} (hM : M + 2 < 2 ^ 30) (hBB : B < 2 ^ 30) (h : RelD B M x z p e) (hs : s = 100 ∨ s < cnj x) (e1 : rI x 1286 = nI k) (e2 : rI z 22 = nI k) (hw : WS (wI x 1286 (nI (k + 1))) (wI z 22 (nI (k + 1))) (lds x p s)) : ∃ x' z', (bn1 (f_X1_stepTaken x) fun x8 => bn1 (f_X5_takeStep x8 (nI s) 1) fun x9 => f_X5_endBeat_b100 x9) = some x' ∧ f_X6_isDone_b109 z (nI s) = some z' ∧ RelB B (M + 3) x' z' ∧ WR x' z' ∧ rI z' 0 = rI z 0 ∧ rL x' 385 = rL x 385 := by
  have h' : RelD B M (wI x 1286 (nI (k + 1))) (wI z 22 (nI (k + 1))) p e := h
  unfold f_X1_stepTaken f_X6_isDone_b109
  rw [letv_e, bn1_s, letv_e, e1, e2, nI_1]
  rcases hs with rfl | hs
  · have hl : lds x p 100 = p := by unfold lds; rw [if_pos rfl]
    rw [hl] at hw
    obtain ⟨x2, z2, q1, q3, q4, q5, q6, q7, q8⟩ := again_way 1 (by omega) h' hw
    obtain ⟨x', z', r1, r2, r3, r4, r5, r6⟩ := b100_both (by omega) hBB q4 q5 q8
    rw [← nI100, if_pos rfl, q1, bn1_s, r1, q3, bn1_s, r2]
    exact ⟨x', z', rfl, rfl, r3, r4, by rw [r5, q6]; rfl, by rw [r6, q7]; rfl⟩
  · obtain ⟨-, -, -, -, -, -, -, -, -, -, h100⟩ := h.1.1.jt hs
    have hl : lds x p s = ctt x s := by unfold lds; rw [if_neg (by omega)]
    rw [hl] at hw
    obtain ⟨x2, z2, q1, q3, q4, q5, q6, q7, q8⟩ := joint_way (x := wI x 1286 (nI (k + 1))) (z := wI z 22 (nI (k + 1))) (i := s) (by omega) h' hs hw
    obtain ⟨x', z', r1, r2, r3, r4, r5, r6⟩ := b100_both (by omega) hBB q4 q5 q8
    rw [if_neg (j_n100 h100), q1, bn1_s, r1, q3, bn1_s, r2]
    exact ⟨x', z', rfl, rfl, r3, r4, by rw [r5, q6]; rfl, by rw [r6, q7]; rfl⟩
def edX (x : PD) (d : Nat) : PD := wL (wI x 387 (nI d)) 389 (rL x 385)
def edB (b : Nat → Int64) : Nat → Int64 := vp_updL (vp_updL b 1 (b 1 + 1)) 3 0
theorem edB_ne {b : Nat → Int64} {k : Nat} (h1 : ¬ k = 1) (h3 : ¬ k = 3) : edB b k = b k := by
  unfold edB
  rw [updL_ne h3, updL_ne h1]
/-- what plays, before its beat d + 1 is done -/
def RelE (B M : Nat) (x z : PD) (p d : Nat) : Prop := RelN B M x z ∧ rI x 386 = nI p ∧ p < cnp x ∧ ckd x p ≤ 1 ∧ rI x 387 = nI d ∧ d < cbs x p ∧ gt z 0 = nI p ∧ gt z 1 = nI d ∧ gt z 2 = rI x 388
theorem RelE_D {B M : Nat} {x z : PD} {p d : Nat} (h : RelE B M x z p d) : RelD B M (edX x (d + 1)) (wB z 11 (edB (rB z 11))) p (d + 1) := by
  obtain ⟨⟨hV, hS, hX, hR, hr⟩, k1, k2, k3, k4, k5, k6, k7, k8⟩ := h
  refine ⟨⟨hV, hS, hX, ?_, hr⟩, k1, k2, k3, rfl, k5, k6, ?_, k8, show (0 : Int64).toInt32 = 0 by decide, rfl⟩
  · obtain ⟨h4, h5, h6, h7, h8, h9, h10, h11⟩ := hR
    refine ⟨h4, h5, h6, fun i hi => ?_, fun i hi => ?_, fun i hi => ?_, h10, h11⟩
    · exact (congrArg Int64.toInt32 (edB_ne (by omega) (by omega))).trans (h7 i hi)
    · exact (congrArg Int64.toInt32 (edB_ne (by omega) (by omega))).trans (h8 i hi)
    · exact (congrArg Int64.toInt32 (edB_ne (by omega) (by omega))).trans (h9 i hi)
  · show (rB z 11 1 + 1).toInt32 = nI (d + 1)
    rw [Int64.toInt32_add]
    have : (rB z 11 1).toInt32 = nI d := k7
    rw [this]
    exact nI_1 d
theorem endBeat_c {x : PD} {p d : Nat} (hV : ScV x) (k1 : rI x 386 = nI p) (k2 : p < cnp x) (k4 : rI x 387 = nI d) (k5 : d < cbs x p) : f_X5_endBeat x = f_X5_endBeat_b57 (edX x (d + 1)) (if d + 1 = cbs x p then 1 else 0) := by
  have hnp := hV.np.2
  obtain ⟨-, -, p3, -, p5, -⟩ := hV.pc k2
  have e : f_X5_endBeat x = gd (inR (rI (edX x (d + 1)) 386) 20) (if (rI (edX x (d + 1)) 387) < (rA (edX x (d + 1)) 3 (Int32.toNatClampNeg (rI (edX x (d + 1)) 386))) then f_X5_endBeat_b57 (edX x (d + 1)) 0 else f_X5_endBeat_b57 (edX x (d + 1)) 1) := by
    unfold f_X5_endBeat
    simp only [letv_e]
    rw [k4, nI_1]
    rfl
  have e386 : rI (edX x (d + 1)) 386 = nI p := k1
  have e387 : rI (edX x (d + 1)) 387 = nI (d + 1) := rfl
  have e3 : rA (edX x (d + 1)) 3 p = nI (cbs x p) := p3
  rw [e, e386, e387, inR_nI (show p < 20 by omega) (by decide), gd_t, nI_clamp (show p < 2 ^ 31 by omega), e3]
  by_cases a : d + 1 = cbs x p
  · rw [if_pos a, if_neg (by rw [nI_ltI (by omega) (by omega)]; omega)]
  · rw [if_neg a, if_pos (by rw [nI_ltI (by omega) (by omega)]; omega)]
theorem isDone_m {x z : PD} {p d : Nat} (hV : ScV x) (hS : SEq x z) (k2 : p < cnp x) (k5 : d < cbs x p) (k6 : gt z 0 = nI p) (k7 : gt (wB z 11 (edB (rB z 11))) 1 = nI (d + 1)) : f_X6_isDone z = f_X6_isDone_b44 (wB z 11 (edB (rB z 11))) (nI p) (nI (d + 1)) (if d + 1 = cbs x p then 1 else 0) := by
  have hnp := hV.np.2
  obtain ⟨-, -, -, -, p5, -⟩ := hV.pc k2
  obtain ⟨-, m2, -⟩ := hS.pc hV k2
  unfold f_X6_isDone
  have e1 : Int32.toNatClampNeg 1 = 1 := by decide
  have e3 : Int32.toNatClampNeg 3 = 3 := by decide
  have r11 : ∀ (y : PD) (f : Nat → Int64), rB (wB y 11 f) 11 = f := fun _ _ => rfl
  rw [get0, bn1_s, k6]
  simp only [letv_e, e1, e3, r11, wB_wB]
  have eB : wB z 11 (vp_updL (vp_updL (rB z 11) 1 (rB z 11 1 + 1)) 3 0) = wB z 11 (edB (rB z 11)) := rfl
  have e2 : rA (wB z 11 (edB (rB z 11))) 2 p = nI (cbs x p) := m2
  rw [eB, get1, bn1_s, k7, inR_nI (show p < 20 by omega) (by decide), gd_t, nI_clamp (show p < 2 ^ 31 by omega), e2]
  by_cases a : d + 1 = cbs x p
  · rw [if_pos a, if_pos (by rw [a])]
  · rw [if_neg a, if_neg (by rw [nI_eq (by omega) (by omega)]; exact a)]
theorem beat_both {B M : Nat} {x z : PD} {p d : Nat} (hM : M + 2 < 2 ^ 30) (hBB : B < 2 ^ 30) (h : RelE B M x z p d) (hW : WR x z) : ∃ x' z', f_X5_endBeat x = some x' ∧ f_X6_isDone z = some z' ∧ RelB B (M + 3) x' z' ∧ WR x' z' ∧ rI z' 0 = rI z 0 ∧ rL x' 385 = rL x 385 := by
  have hD := RelE_D h
  obtain ⟨hN, k1, k2, k3, k4, k5, k6, k7, k8⟩ := h
  have hV := hN.1
  have hS := hN.2.1
  have hnp := hV.np.2
  have hnj := hV.nj.2
  rw [endBeat_c hV k1 k2 k4 k5, isDone_m hV hS k2 k5 k6 hD.2.2.2.2.2.2.2.1]
  have hlf : ∃ lf : Int32, (if d + 1 = cbs x p then (1 : Int32) else 0) = lf ∧ ((lf = 0 ∧ d + 1 < cbs x p) ∨ (lf = 1 ∧ d + 1 = cbs x p)) := by
    by_cases a : d + 1 = cbs x p
    · exact ⟨1, if_pos a, Or.inr ⟨rfl, a⟩⟩
    · exact ⟨0, if_neg a, Or.inl ⟨rfl, by omega⟩⟩
  obtain ⟨lf, el, hlf⟩ := hlf
  rw [el]
  unfold f_X5_endBeat_b57 f_X6_isDone_b44
  have hels : ((lf = 0 → WR (edX x (d + 1)) (wB z 11 (edB (rB z 11))))) → ∃ x' z', (if lf = 0 then f_X5_endBeat_b100 (edX x (d + 1)) else bn1 (f_X5_endPiece (edX x (d + 1))) fun x7 => f_X5_endBeat_b100 x7) = some x' ∧ f_X6_isDone_b144 (wB z 11 (edB (rB z 11))) (nI p) lf = some z' ∧ RelB B (M + 3) x' z' ∧ WR x' z' ∧ rI z' 0 = rI z 0 ∧ rL x' 385 = rL x 385 := by
    intro hw
    refine else_both hM hBB hD ?_
    rcases hlf with ⟨a, b⟩ | ⟨a, b⟩
    · exact Or.inl ⟨a, b, hw a⟩
    · exact Or.inr a
  have n10 : ¬ (1 : Int32) = 0 := by decide
  have m100 : ¬ (-1 : Int32) = 100 := by decide
  rcases hW with ⟨c1, c2, c3, c4, c5⟩ | ⟨m, t, p', d', s, k, n, w0, w1, w2, w3, w4, w5, w6, w7, w8, w9, w10, w11, w12, w13, w14, w15, w16, w17, w18⟩
  · have hst : f_X1_stepAt (edX x (d + 1)) 0 = some (-1) := by
      unfold f_X1_stepAt
      have e1 : rI (edX x (d + 1)) 1286 = 0 := c2
      have e2 : rI (edX x (d + 1)) 1285 = 0 := c1
      rw [e1, e2, if_neg (by decide), if_pos (by decide)]
    have hdu : f_X5_isDue (edX x (d + 1)) (-1) lf = some 0 := by
      unfold f_X5_isDue f_X5_isDue_b11
      rw [if_pos rfl, if_neg m100]
    have e20 : rI (wB z 11 (edB (rB z 11))) 20 = 0 := c3
    unfold f_X6_isDone_b76
    rw [hst, bn1_s, hdu, bn1_s, if_pos rfl, if_pos e20, if_neg m100, if_pos rfl]
    exact hels (fun _ => Or.inl ⟨c1, c2, c3, c4, c5⟩)
  · have hpp : p' = p := nI_inj (by omega) (by omega) (by rw [← w6, k1])
    subst hpp
    have e1 : rI (edX x (d + 1)) 1286 = nI k := w13
    have e2 : rI (edX x (d + 1)) 1285 = nI (k + 1 + n) := w14
    have ek : nI k + 0 = nI k := nI_add k 0
    have hst : f_X1_stepAt (edX x (d + 1)) 0 = some (nI s) := by
      unfold f_X1_stepAt
      have r44 : rA (edX x (d + 1)) 44 k = nI s := w10
      rw [e1, e2, ek, if_neg (nI_pos (show k < 2 ^ 31 by omega)), if_neg (by rw [nI_leI (by omega) (by omega)]; omega), inR_nI (show k < 20 by omega) (by decide), gd_t, nI_clamp (show k < 2 ^ 31 by omega), r44]
    have hWS : WS (wI (edX x (d + 1)) 1286 (nI (k + 1))) (wI (wB z 11 (edB (rB z 11))) 22 (nI (k + 1))) (lds (edX x (d + 1)) p' s) := ⟨m, t, k + 1, n, w0, w1, w2, w3, w4, w5, w11, by omega, rfl, w14, w15, w16, rfl, w18⟩
    have e20 : rI (wB z 11 (edB (rB z 11))) 20 = 1 := w15
    have e21 : rI (wB z 11 (edB (rB z 11))) 21 = nI (k + 1 + n) := w16
    have e22 : rI (wB z 11 (edB (rB z 11))) 22 = nI k := w17
    have e16 : rA (wB z 11 (edB (rB z 11))) 16 k = nI s := by
      have : rA z 16 k = rA x 44 k := w18 k (by omega)
      show rA z 16 k = nI s
      rw [this, w10]
    rw [hst, bn1_s, e20, if_neg n10, e21, e22, if_neg (show ¬ nI (k + 1 + n) ≤ nI k by rw [nI_leI (by omega) (by omega)]; omega), inR_nI (show k < 32 by omega) (by decide), gd_t, nI_clamp (show k < 2 ^ 31 by omega), e16]
    rcases w9 with ⟨rfl, kd⟩ | ⟨sj, sf, sd⟩
    · have h100 : nI 100 = 100 := by decide
      have hdu : f_X5_isDue (edX x (d + 1)) (nI 100) lf = some (if lf = 0 then 0 else 1) := by
        unfold f_X5_isDue f_X5_isDue_b11
        rw [if_neg (nI_ne_m1 (show (100 : Nat) < 2 ^ 31 by omega)), if_pos h100, if_pos h100]
        split <;> rfl
      have hmd : f_X6_isDone_b76 (wB z 11 (edB (rB z 11))) (nI p') (nI (d + 1)) lf (nI 100) = if lf = 0 then f_X6_isDone_b144 (wB z 11 (edB (rB z 11))) (nI p') lf else f_X6_isDone_b109 (wB z 11 (edB (rB z 11))) (nI 100) := by
        unfold f_X6_isDone_b76
        rw [if_pos h100]
      rw [hdu, bn1_s, hmd]
      by_cases a : lf = 0
      · rw [if_pos a, if_pos rfl, if_pos a, if_pos a]
        rw [if_pos a] at hels
        exact hels (fun _ => Or.inr ⟨m, t, p', d + 1, 100, k, n, w0, w1, w2, w3, w4, w5, w6, w7, rfl, Or.inl ⟨rfl, kd⟩, w10, w11, w12, w13, w14, w15, w16, w17, w18⟩)
      · rw [if_neg a, if_neg n10, if_neg a]
        exact due_both hM hBB hD (Or.inl rfl) e1 e22 hWS
    · obtain ⟨-, h8, -, -, -, -, h64, -, -, -, h100⟩ := hV.jt sj
      obtain ⟨-, m7, -⟩ := hS.jt hV sj
      obtain ⟨-, -, -, -, p5, -⟩ := hV.pc k2
      have hdd : d' = d := nI_inj (by omega) (by omega) (by rw [← w8, k4])
      subst hdd
      have cs : Int32.toNatClampNeg (nI s) = s := nI_clamp (by omega)
      have r8 : rA (edX x (d' + 1)) 8 s = nI (cbh x s) := h8
      have r7 : rA (wB z 11 (edB (rB z 11))) 7 s = nI (cbh x s) := m7
      have r387 : rI (edX x (d' + 1)) 387 = nI (d' + 1) := rfl
      have ns1 : ¬ nI s = -1 := nI_ne_m1 (by omega)
      have ns2 : ¬ nI s = 100 := j_n100 h100
      have hdu : f_X5_isDue (edX x (d' + 1)) (nI s) lf = some (if nI (cbh x s) = nI (d' + 1) then 1 else 0) := by
        unfold f_X5_isDue
        rw [if_neg ns1, if_neg ns2, inR_nI h100 (by decide), gd_t, cs, r8, r387]
        split <;> rfl
      have hmd : f_X6_isDone_b76 (wB z 11 (edB (rB z 11))) (nI p') (nI (d' + 1)) lf (nI s) = if nI (cbh x s) = nI (d' + 1) then f_X6_isDone_b109 (wB z 11 (edB (rB z 11))) (nI s) else f_X6_isDone_b144 (wB z 11 (edB (rB z 11))) (nI p') lf := by
        unfold f_X6_isDone_b76
        rw [if_neg ns2, if_neg ns1, inR_nI h100 (by decide), gd_t, cs, r7]
      rw [hdu, bn1_s, hmd]
      by_cases a : nI (cbh x s) = nI (d' + 1)
      · rw [if_pos a, if_neg n10, if_pos a]
        exact due_both hM hBB hD (Or.inr sj) e1 e22 hWS
      · rw [if_neg a, if_pos rfl, if_neg a]
        have a' : ¬ cbh x s = d' + 1 := fun q => a (by rw [q])
        exact hels (fun _ => Or.inr ⟨m, t, p', d' + 1, s, k, n, w0, w1, w2, w3, w4, w5, w6, w7, rfl, Or.inr ⟨sj, sf, show d' + 1 < cbh x s by omega⟩, w10, w11, w12, w13, w14, w15, w16, w17, w18⟩)
