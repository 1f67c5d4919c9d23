/-! ===== PURE: final tables, chains of joints on them, the class's way ===== -/
theorem Wk0 {fr tt w : Nat → Nat} {nj p c : Nat} {has : Nat → Prop} (h : Wk fr tt w nj has 0 p c) : c = 0 ∧ has p := by
  obtain ⟨v, d, h1, h2, h3, h4, -⟩ := h
  exact ⟨by rw [← h2, h3], by rw [← h1]; exact h4⟩
theorem Fin_short {x : PD} (hV : ScV x) {a b m : Nat} {t : Tb} (h : FinT x a b m t) {p : Nat} {u : Nat × Nat} (hp : p < cnp x) (hu : t p = some u) : u.2 < cnp x := by
  obtain ⟨n', c', h1, h2, h3⟩ := Wk_short _ _ _ (cnp x) _ _ hV.tt hp _ _ (h.1 p u hu)
  obtain ⟨u', hu', h4⟩ := h.2 _ _ _ hp h3
  rw [hu] at hu'
  cases hu'
  unfold leb at h2 h4
  simp only at h2 h4
  omega
theorem Fin_zero {x : PD} {a b m : Nat} {t : Tb} (h : FinT x a b m t) {p c : Nat} (hu : t p = some (c, 0)) : c = 0 ∧ hasM x m p := Wk0 (h.1 p _ hu)
theorem Fin_has {x : PD} {a b m : Nat} {t : Tb} (h : FinT x a b m t) {p : Nat} {u : Nat × Nat} (hu : t p = some u) (hh : hasM x m p) : u = (0, 0) := by
  obtain ⟨u', hu', h4⟩ := h.2 0 p 0 hh.1 ⟨fun _ => p, fun _ => 0, rfl, rfl, rfl, hh, fun i hi => by omega⟩
  rw [hu] at hu'
  cases hu'
  obtain ⟨c, n⟩ := u
  unfold leb at h4
  simp only at h4
  congr 1 <;> omega
/-- joint j lies on the table behind piece q -/
def onT (x : PD) (t : Tb) (q j : Nat) : Prop := j < cnj x ∧ cfr x j = q ∧ ∃ u, t (ctt x j) = some u ∧ t q = some (u.1 + wgt x 24 (cpL x) j, u.2 + 1)
def Fst (x : PD) (t : Tb) (q j : Nat) : Prop := onT x t q j ∧ ∀ i, i < j → ¬ onT x t q i
theorem Fst_uniq {x : PD} {t : Tb} {q j j' : Nat} (h : Fst x t q j) (h' : Fst x t q j') : j = j' := by
  rcases Nat.lt_trichotomy j j' with q1 | q1 | q1
  · exact absurd h.1 (h'.2 _ q1)
  · exact q1
  · exact absurd h'.1 (h.2 _ q1)
theorem Fst_ex {x : PD} (hV : ScV x) {m : Nat} {t : Tb} (h : FinT x 24 (cpL x) m t) {q c n : Nat} (hq : q < cnp x) (hu : t q = some (c, n + 1)) : ∃ j, Fst x t q j := by
  apply pk_least
  obtain ⟨j, c', hj, hf, hw, he⟩ := Wk_tail _ _ _ _ _ (h.1 q _ hu)
  obtain ⟨u', hu', hl⟩ := h.2 _ _ _ (hV.tt j hj) hw
  obtain ⟨u2, hu2, hl2⟩ := h.2 _ _ _ (hV.fr j hj) (Wk_cons _ _ _ _ _ hj (h.1 _ _ hu') rfl)
  rw [hf, hu] at hu2
  cases hu2
  refine ⟨j, hj, hf, u', hu', ?_⟩
  rw [hu]
  unfold leb at hl hl2
  simp only at hl hl2 he
  congr 2 <;> omega
/-- from piece q n joints on the table, written from place i on -/
def Ch0 (np : Nat) (fs : Nat → Nat → Prop) (tt : Nat → Nat) (t : Tb) (W : Nat → Int32) : Nat → Nat → Nat → Prop
  | 0, _, q => q < np ∧ ∃ c, t q = some (c, 0)
  | n + 1, i, q => q < np ∧ (∃ c, t q = some (c, n + 1)) ∧ ∃ j, W i = nI j ∧ fs q j ∧ Ch0 np fs tt t W n (i + 1) (tt j)
def Ch (x : PD) (t : Tb) (W : Nat → Int32) (n i q : Nat) : Prop := Ch0 (cnp x) (Fst x t) (ctt x) t W n i q
theorem Ch_at {x : PD} {t : Tb} {W : Nat → Int32} {n i q : Nat} (h : Ch x t W n i q) : q < cnp x ∧ ∃ c, t q = some (c, n) := by
  cases n with
  | zero => exact h
  | succ n => exact ⟨h.1, h.2.1⟩
theorem Ch_uniq {x : PD} {t : Tb} {W W' : Nat → Int32} : ∀ (n i q : Nat), Ch x t W n i q → Ch x t W' n i q → ∀ k, i ≤ k → k < i + n → W k = W' k := by
  intro n
  induction n with
  | zero => intro i q _ _ k h1 h2; omega
  | succ n ih =>
    intro i q h h' k h1 h2
    obtain ⟨-, -, j, e1, f1, c1⟩ := h
    obtain ⟨-, -, j', e1', f1', c1'⟩ := h'
    have := Fst_uniq f1 f1'
    subst this
    by_cases hk : k = i
    · rw [hk, e1, e1']
    · exact ih (i + 1) _ c1 c1' k (by omega) (by omega)
theorem Ch_cong {x : PD} {t : Tb} {W W' : Nat → Int32} : ∀ (n i q : Nat), Ch x t W n i q → (∀ k, i ≤ k → k < i + n → W k = W' k) → Ch x t W' n i q := by
  intro n
  induction n with
  | zero => intro i q h _; exact h
  | succ n ih =>
    intro i q h hW
    obtain ⟨h1, h2, j, e1, f1, c1⟩ := h
    exact ⟨h1, h2, j, by rw [← hW i (Nat.le_refl _) (by omega)]; exact e1, f1, ih _ _ c1 (fun k a b => hW k (by omega) (by omega))⟩
theorem firstOn_c {x : PD} (hV : ScV x) {t : Tb} (hT : TabR (cnp x) (rB x 42) (rA x 43) t) (hB : bdT 3000 t) {q c0 n0 : Nat} (hq : q < cnp x) (hu : t q = some (c0, n0)) {j : Nat} (hF : Fst x t q j) : f_X1_firstOnTable x (nI q) = some (nI j) := by
  have hnp := hV.np.2
  have hnj := hV.nj
  have hpl := hV.pL
  have hTq := hT q hq
  rw [hu] at hTq
  simp only at hTq
  have hbq := hB _ _ hu
  have hWq : c0 ≤ 3000 * WM := Nat.le_trans hbq.2 (Nat.mul_le_mul (by simp only at hbq; omega) (Nat.le_refl _))
  have main : ∀ (n i : Nat), cnj x - i < n → i ≤ j → f_X1_firstOnTable_b2 x n (nI q) (nI i) = some (nI j) := by
    intro n
    induction n with
    | zero => intro i h; omega
    | succ n ih =>
      intro i hn hi
      have hlt : i < cnj x := Nat.lt_of_le_of_lt hi hF.1.1
      rw [f_X1_firstOnTable_b2]
      have c1 : ¬ rI x 42 ≤ nI i := by rw [hnj.1, nI_leI (by omega) (by omega)]; omega
      rw [if_neg c1]
      obtain ⟨h7, h8, h9, h10, hf, ht, hbh, hcs, h4, hbt, hi100⟩ := hV.jt hlt
      have tm := timeTo_c h7 h8 h4 hi100 (by omega) hbh hbt
      have ep : rA x 11 (Int32.toNatClampNeg 1) = nI (cpL x) := hpl.1
      have e24 : (24 : Int32) = nI 24 := by decide
      have hw : lN (24 * ccs x i) + lN (cpL x) * lN (cbh x i * cbt x (cfr x i)) = lN (wgt x 24 (cpL x) i) := by rw [lN_mul, lN_add]; rfl
      have e7 : (nI (cfr x i) = nI q) = (cfr x i = q) := propext (nI_eq (by omega) (by omega))
      simp only [inR_nI hi100 (by decide), gd_t, nI_clamp (show i < 2 ^ 31 by omega), h7, h9, h10, tm, bn1_s, inR_nI (show ctt x i < 20 by omega) (by decide), inR_nI (show q < 20 by omega) (by decide), nI_clamp (show ctt x i < 2 ^ 31 by omega), nI_clamp (show q < 2 ^ 31 by omega), lg_eq0, ep, e24, pk_mul, nI_l (show 24 * ccs x i < 2 ^ 31 by omega), nI_l (show cpL x < 2 ^ 31 by omega), hw, e7, hTq.1, hTq.2, nI_1]
      have next : ¬ onT x t q i → f_X1_firstOnTable_b2 x n (nI q) (nI (i + 1)) = some (nI j) := by
        intro hno
        refine ih (i + 1) (by omega) ?_
        rcases Nat.lt_or_ge i j with q1 | q1
        · omega
        · have : i = j := by omega
          rw [this] at hno
          exact absurd hF.1 hno
      by_cases a1 : cfr x i = q
      · rw [if_pos a1]
        have hTt := hT (ctt x i) ht
        cases hto : t (ctt x i) with
        | none =>
          rw [hto] at hTt
          simp only at hTt
          rw [if_pos hTt]
          exact next (by rintro ⟨-, -, u, h1, -⟩; rw [hto] at h1; cases h1)
        | some u =>
          rw [hto] at hTt
          simp only at hTt
          have hbu := hB _ _ hto
          have hWu : u.1 ≤ 3000 * WM := Nat.le_trans hbu.2 (Nat.mul_le_mul (by omega) (Nat.le_refl _))
          have hwi := wgt_le hV (a := 24) (b := cpL x) (by omega) (by omega) hlt
          unfold WM at hWu hwi hWq
          rw [if_neg (by rw [hTt.1]; exact lN_ne_m1 (by omega)), hTt.1, hTt.2, lN_add, nI_1]
          have e1 : (lN (u.1 + wgt x 24 (cpL x) i) = lN c0) = (u.1 + wgt x 24 (cpL x) i = c0) := propext (pk_lEQ (by omega) (by omega))
          have e2 : (nI (u.2 + 1) = nI n0) = (u.2 + 1 = n0) := propext (nI_eq (by omega) (by simp only at hbq; omega))
          simp only [e1, e2]
          by_cases a2 : u.1 + wgt x 24 (cpL x) i = c0
          · rw [if_pos a2]
            by_cases a3 : u.2 + 1 = n0
            · rw [if_pos a3]
              have hon : onT x t q i := ⟨hlt, a1, u, hto, by rw [hu, a2, a3]⟩
              rcases Nat.lt_or_ge i j with q1 | q1
              · exact absurd hon (hF.2 i q1)
              · have : i = j := by omega
                rw [this]
            · rw [if_neg a3]
              exact next (by rintro ⟨-, -, u2, h1, h2⟩; rw [hto] at h1; cases h1; rw [hu] at h2; cases h2; exact a3 rfl)
          · rw [if_neg a2]
            exact next (by rintro ⟨-, -, u2, h1, h2⟩; rw [hto] at h1; cases h1; rw [hu] at h2; cases h2; exact a2 rfl)
      · rw [if_neg a1]
        exact next (fun h => a1 h.2.1)
  exact main FU 0 (by unfold FU; omega) (Nat.zero_le _)
/-- while it writes the way -/
def swX (x : PD) (W : Nat → Int32) (len : Nat) : PD := wI (wA x 44 W) 1285 (nI len)
theorem swX_swX {x : PD} {W W' : Nat → Int32} {l l' : Nat} : swX (swX x W l) W' l' = swX x W' l' := by
  unfold swX wI wA
  simp only [bx_uu]
theorem addStep_c {x : PD} {W : Nat → Int32} {len j : Nat} (hl : len < 20) : f_X1_addStep (swX x W len) (nI j) = some (swX x (upd W len (nI j)) (len + 1)) := by
  unfold f_X1_addStep
  have e1 : rI (swX x W len) 1285 = nI len := rfl
  have e21 : (20 : Int32) = nI 20 := by decide
  have e44 : rA (swX x W len) 44 = W := rfl
  rw [e1, e21, if_neg (by rw [nI_leI (by omega) (by omega)]; omega), inR_nI (show len < 20 by omega) (by decide), gd_t, nI_clamp (show len < 2 ^ 31 by omega), e44]
  simp only [letv_e]
  have e2 : rI (wA (swX x W len) 44 (upd W len (nI j))) 1285 = nI len := rfl
  rw [e2, nI_1]
  exact congrArg some swX_swX
theorem follow_c {x : PD} (hV : ScV x) {m : Nat} {t : Tb} (hT : TabR (cnp x) (rB x 42) (rA x 43) t) (hB : bdT 3000 t) (hF : FinT x 24 (cpL x) m t) : ∀ (n f len v3 q : Nat) (W : Nat → Int32), n < f → len + n ≤ 20 → v3 + n ≤ 20 → q < cnp x → (∃ c, t q = some (c, n)) → ∃ W', f_X1_followTable_b4 f (swX x W len) (nI q) (nI v3) = some (swX x W' (len + n)) ∧ Ch x t W' n len q ∧ ∀ i, i < len → W' i = W i := by
  have hnp := hV.np.2
  intro n
  induction n with
  | zero =>
    intro f len v3 q W hf hl hv hq hc
    obtain ⟨c, hc⟩ := hc
    have hTq := hT q hq
    rw [hc] at hTq
    simp only at hTq
    cases f with
    | zero => omega
    | succ f =>
      rw [f_X1_followTable_b4]
      refine ⟨W, ?_, ⟨hq, c, hc⟩, fun i _ => rfl⟩
      have e43 : rA (swX x W len) 43 q = nI 0 := hTq.2
      split
      · rfl
      · rw [inR_nI (show q < 20 by omega) (by decide), gd_t, nI_clamp (show q < 2 ^ 31 by omega), e43, if_pos (by decide)]
        rfl
  | succ n ih =>
    intro f len v3 q W hf hl hv hq hc
    obtain ⟨c, hc⟩ := hc
    have hTq := hT q hq
    rw [hc] at hTq
    simp only at hTq
    cases f with
    | zero => omega
    | succ f =>
      rw [f_X1_followTable_b4]
      have e21 : (20 : Int32) = nI 20 := by decide
      have e43 : rA (swX x W len) 43 q = nI (n + 1) := hTq.2
      obtain ⟨j, hj⟩ := Fst_ex hV hF hq hc
      obtain ⟨h7, h8, h9, h10, hf', ht, -, -, -, -, hj100⟩ := hV.jt hj.1.1
      have hfo : f_X1_firstOnTable (swX x W len) (nI q) = some (nI j) := firstOn_c (x := swX x W len) hV hT hB hq hc hj
      rw [e21, if_neg (by rw [nI_leI (by omega) (by omega)]; omega), inR_nI (show q < 20 by omega) (by decide), gd_t, nI_clamp (show q < 2 ^ 31 by omega), e43, if_neg (nI_nle (by omega) (by omega)), hfo, bn1_s, if_neg (nI_ne_m1 (by omega)), addStep_c (by omega), bn1_s, inR_nI hj100 (by decide), gd_t, nI_clamp (show j < 2 ^ 31 by omega), nI_1]
      have e9 : rA (swX x (upd W len (nI j)) (len + 1)) 9 j = nI (ctt x j) := h9
      rw [e9]
      obtain ⟨-, -, u, hu1, hu2⟩ := hj.1
      rw [hc] at hu2
      cases hu2
      obtain ⟨W', h1, h2, h3⟩ := ih f (len + 1) (v3 + 1) (ctt x j) (upd W len (nI j)) (by omega) (by omega) (by omega) ht ⟨_, hu1⟩
      refine ⟨W', by rw [h1]; congr 2; omega, ⟨hq, ⟨_, hc⟩, j, ?_, hj, h2⟩, fun i hi => ?_⟩
      · rw [h3 len (by omega)]; simp [upd]
      · rw [h3 i (by omega)]; simp only [upd, if_neg (show ¬ i = len by omega)]
