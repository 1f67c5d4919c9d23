/-! ===== PURE: steps out of what plays, the best one ===== -/
/-- what plays: piece p, d beats done, o 24ths of the beat over -/
def LV (x : PD) (p d o : Nat) : Prop := rI x 386 = nI p ∧ p < cnp x ∧ ckd x p ≤ 1 ∧ rI x 387 = nI d ∧ d < cbs x p ∧ rL x 385 - rL x 389 = lN o ∧ o < cbt x p
def opn (x : PD) (p d s : Nat) : Prop := (s = 100 ∧ ckd x p = 0) ∨ (s < cnj x ∧ cfr x s = p ∧ d < cbh x s)
def lds (x : PD) (p s : Nat) : Nat := if s = 100 then p else ctt x s
def bhd (x : PD) (p s : Nat) : Nat := if s = 100 then cbs x p else cbh x s
def own (x : PD) (s : Nat) : Nat := if s = 100 then cpA x else ccs x s
def scst (x : PD) (p d o s : Nat) : Nat := 24 * own x s + cpL x * ((bhd x p s - d) * cbt x p - o)
def vls (x : PD) (t : Tb) (p d o s : Nat) : Option (Nat × Nat) := match t (lds x p s) with
  | none => none
  | some u => some (u.1 + scst x p d o s, u.2 + 1)
def cand (x : PD) (t : Tb) (p d o s : Nat) (v : Nat × Nat) : Prop := opn x p d s ∧ vls x t p d o s = some v
def Bst (x : PD) (t : Tb) (p d o N : Nat) (r : Option (Nat × (Nat × Nat))) : Prop := match r with
  | none => ∀ s v, s < N → ¬ cand x t p d o s v
  | some (s, v) => s < N ∧ cand x t p d o s v ∧ (∀ s' v', s' < N → cand x t p d o s' v' → leb v v') ∧ (∀ s' v', s' < s → cand x t p d o s' v' → ltb v v')
theorem cand_fun {x : PD} {t : Tb} {p d o s : Nat} {v v' : Nat × Nat} (h : cand x t p d o s v) (h' : cand x t p d o s v') : v = v' := by
  have := h.2.symm.trans h'.2
  cases this
  rfl
theorem Bst_skip {x : PD} {t : Tb} {p d o N : Nat} {r : Option (Nat × (Nat × Nat))} (h : Bst x t p d o N r) (hn : ∀ v, ¬ cand x t p d o N v) : Bst x t p d o (N + 1) r := by
  cases r with
  | none =>
    intro s v hs hc
    by_cases he : s = N
    · rw [he] at hc; exact hn v hc
    · exact h s v (by omega) hc
  | some q =>
    obtain ⟨s, v⟩ := q
    obtain ⟨h1, h2, h3, h4⟩ := h
    refine ⟨by omega, h2, fun s' v' hs hc => ?_, h4⟩
    by_cases he : s' = N
    · rw [he] at hc; exact absurd hc (hn v')
    · exact h3 s' v' (by omega) hc
theorem Bst_skips {x : PD} {t : Tb} {p d o N : Nat} {r : Option (Nat × (Nat × Nat))} (h : Bst x t p d o N r) : ∀ k, (∀ s v, N ≤ s → s < N + k → ¬ cand x t p d o s v) → Bst x t p d o (N + k) r := by
  intro k
  induction k with
  | zero => intro _; exact h
  | succ k ih =>
    intro hn
    have h1 := ih (fun s v a b => hn s v a (by omega))
    exact Bst_skip h1 (fun v => hn (N + k) v (by omega) (by omega))
theorem Bst_take {x : PD} {t : Tb} {p d o N : Nat} {r : Option (Nat × (Nat × Nat))} {v : Nat × Nat} (h : Bst x t p d o N r) (hc : cand x t p d o N v) (hb : btr v (r.map Prod.snd)) : Bst x t p d o (N + 1) (some (N, v)) := by
  have hlt : ∀ s' v', s' < N → cand x t p d o s' v' → ltb v v' := by
    intro s' v' hs hc'
    cases r with
    | none => exact absurd hc' (h s' v' hs)
    | some q =>
      obtain ⟨s, u⟩ := q
      have h3 := h.2.2.1 s' v' hs hc'
      have hb' : ltb v u := hb
      unfold ltb leb at *
      omega
  refine ⟨by omega, hc, fun s' v' hs hc' => ?_, hlt⟩
  by_cases he : s' = N
  · rw [he] at hc'
    rw [cand_fun hc hc']
    exact leb_refl _
  · exact ltb_le (hlt s' v' (by omega) hc')
theorem Bst_keep {x : PD} {t : Tb} {p d o N : Nat} {r : Option (Nat × (Nat × Nat))} {v : Nat × Nat} (h : Bst x t p d o N r) (hc : cand x t p d o N v) (hb : ¬ btr v (r.map Prod.snd)) : Bst x t p d o (N + 1) r := by
  cases r with
  | none => exact absurd trivial hb
  | some q =>
    obtain ⟨s, u⟩ := q
    obtain ⟨h1, h2, h3, h4⟩ := h
    refine ⟨by omega, h2, fun s' v' hs hc' => ?_, h4⟩
    by_cases he : s' = N
    · rw [he] at hc'
      rw [← cand_fun hc hc']
      exact not_ltb hb
    · exact h3 s' v' (by omega) hc'
/-- the numbers of a piece that is there -/
theorem ScV.pc {x : PD} (hV : ScV x) {p : Nat} (hp : p < cnp x) : rA x 2 p = nI (ckd x p) ∧ ckd x p ≤ 3 ∧ rA x 3 p = nI (cbs x p) ∧ 1 ≤ cbs x p ∧ cbs x p ≤ 64 ∧ rA x 4 p = nI (cbt x p) ∧ 24 ≤ cbt x p ∧ cbt x p ≤ 2400 ∧ rA x 6 p = nI (cms x p) ∧ cms x p ≤ 9 ∧ p < 20 := by
  obtain ⟨h20, -, hq, -, -, -⟩ := hV
  obtain ⟨h1, h2, h3, h4, h5, -, -, h8, -⟩ := hq p hp
  exact ⟨h1.1, h1.2, h2.1, h3, h2.2, h4.1, h5, h4.2, h8.1, h8.2, Nat.lt_of_lt_of_le hp h20.2⟩
theorem ScV.pA {x : PD} (hV : ScV x) : rA x 11 0 = nI (cpA x) ∧ cpA x ≤ 99 := hV.2.2.2.2.1
theorem ScV.pL {x : PD} (hV : ScV x) : rA x 11 1 = nI (cpL x) ∧ cpL x ≤ 99 := hV.2.2.2.2.2
theorem lds_lt {x : PD} (hV : ScV x) {p d s : Nat} (hp : p < cnp x) (h : opn x p d s) : lds x p s < cnp x := by
  unfold lds
  rcases h with ⟨h1, -⟩ | ⟨h1, -⟩
  · rw [if_pos h1]; exact hp
  · have := hV.nj.2
    rw [if_neg (by omega)]; exact hV.tt s h1
theorem nI100 : (100 : Int32) = nI 100 := by decide
theorem is100 {s : Nat} (hs : s ≤ 100) : (nI s = 100) = (s = 100) := by
  rw [nI100]
  exact propext (nI_eq (by omega) (by omega))
theorem isOpen_c {x : PD} (hV : ScV x) {p d o s : Nat} (hL : LV x p d o) (hs : s = 100 ∨ s < cnj x) : ∃ r, f_X1_isOpen x (nI s) = some r ∧ ((opn x p d s ∧ r = 1) ∨ (¬ opn x p d s ∧ r = 0)) := by
  obtain ⟨e1, hp, -, e2, hd, -⟩ := hL
  have hnj := hV.nj.2
  have hnp := hV.np.2
  obtain ⟨k1, k2, k3, -, k5, -, -, -, -, -, h20⟩ := hV.pc hp
  unfold f_X1_isOpen
  simp only [is100 (show s ≤ 100 by omega), e1, e2, inR_nI h20 (by decide), gd_t, nI_clamp (show p < 2 ^ 31 by omega), k1]
  by_cases h100 : s = 100
  · rw [if_pos h100]
    have e3 : (nI (ckd x p) = 0) = (ckd x p = 0) := by
      have : (0 : Int32) = nI 0 := rfl
      rw [this]; exact propext (nI_eq (by omega) (by omega))
    simp only [e3]
    by_cases hk : ckd x p = 0
    · rw [if_pos hk]; exact ⟨1, rfl, Or.inl ⟨Or.inl ⟨h100, hk⟩, rfl⟩⟩
    · rw [if_neg hk]; exact ⟨0, rfl, Or.inr ⟨by rintro (⟨-, q⟩ | ⟨q, -⟩); exact hk q; omega, rfl⟩⟩
  · have hsj : s < cnj x := by rcases hs with h | h; exact absurd h h100; exact h
    rw [if_neg h100]
    obtain ⟨h7, h8, -, -, hf, -, hbh, -, -, -, hs100⟩ := hV.jt hsj
    simp only [inR_nI hs100 (by decide), gd_t, nI_clamp (show s < 2 ^ 31 by omega), h7, h8]
    have e3 : (nI (cfr x s) = nI p) = (cfr x s = p) := propext (nI_eq (by omega) (by omega))
    have e4 : (nI (cbh x s) ≤ nI d) = (cbh x s ≤ d) := propext (nI_leI (by omega) (by omega))
    simp only [e3, e4]
    by_cases a1 : cfr x s = p
    · rw [if_pos a1]
      by_cases a2 : cbh x s ≤ d
      · rw [if_pos a2]; exact ⟨0, rfl, Or.inr ⟨by rintro (⟨q, -⟩ | ⟨-, -, q⟩); exact h100 q; omega, rfl⟩⟩
      · rw [if_neg a2]; exact ⟨1, rfl, Or.inl ⟨Or.inr ⟨hsj, a1, by omega⟩, rfl⟩⟩
    · rw [if_neg a1]; exact ⟨0, rfl, Or.inr ⟨by rintro (⟨q, -⟩ | ⟨-, q, -⟩); exact h100 q; exact a1 q, rfl⟩⟩
theorem pieceBehind_c {x : PD} (hV : ScV x) {p d o s : Nat} (hL : LV x p d o) (hs : s = 100 ∨ s < cnj x) : f_X1_pieceBehind x (nI s) = some (nI (lds x p s)) := by
  have hnj := hV.nj.2
  unfold f_X1_pieceBehind lds
  simp only [is100 (show s ≤ 100 by omega)]
  by_cases h100 : s = 100
  · rw [if_pos h100, if_pos h100, hL.1]
  · have hsj : s < cnj x := by rcases hs with h | h; exact absurd h h100; exact h
    rw [if_neg h100, if_neg h100]
    obtain ⟨-, -, h9, -, -, -, -, -, -, -, hs100⟩ := hV.jt hsj
    simp only [inR_nI hs100 (by decide), gd_t, nI_clamp (show s < 2 ^ 31 by omega), h9]
/-- the time until a step: never less than 0 -/
theorem untl {x : PD} {p d o B : Nat} (hd : d < B) (ho : o < cbt x p) (hB : B ≤ 64) (hb : cbt x p ≤ 2400) : o ≤ (B - d) * cbt x p ∧ (B - d) * cbt x p ≤ 64 * 2400 := by
  have h1 : 1 * cbt x p ≤ (B - d) * cbt x p := Nat.mul_le_mul (by omega) (Nat.le_refl _)
  have h2 : (B - d) * cbt x p ≤ 64 * 2400 := Nat.mul_le_mul (by omega) hb
  omega
theorem costBy_c {x : PD} (hV : ScV x) {t : Tb} (hT : TabR (cnp x) (rB x 42) (rA x 43) t) (hB : bdT 3000 t) {p d o s : Nat} (hL : LV x p d o) (ho : opn x p d s) : f_X1_costBy x (nI s) = some (match t (lds x p s) with | none => -1 | some u => lN (u.1 + scst x p d o s)) := by
  have hs : s = 100 ∨ s < cnj x := by rcases ho with ⟨h, -⟩ | ⟨h, -⟩; exact Or.inl h; exact Or.inr h
  have hnj := hV.nj.2
  have hlt := lds_lt hV hL.2.1 ho
  have hpb := pieceBehind_c hV hL hs
  obtain ⟨e1, hp, -, e2, hd, e3, hoo⟩ := hL
  obtain ⟨k1, k2, k3, k4, k5, k6, k7, k8, -, -, h20⟩ := hV.pc hp
  have hnp := hV.np.2
  unfold f_X1_costBy
  rw [hpb, bn1_s]
  have hTt := hT (lds x p s) hlt
  simp only [inR_nI (show lds x p s < 20 by omega) (by decide), gd_t, nI_clamp (show lds x p s < 2 ^ 31 by omega), lg_eq0, is100 (show s ≤ 100 by omega), e1]
  cases hto : t (lds x p s) with
  | none =>
    rw [hto] at hTt
    simp only at hTt
    rw [if_pos hTt]
  | some u =>
    rw [hto] at hTt
    simp only at hTt
    have hbu := hB _ _ hto
    have hWM : u.1 ≤ 3000 * WM := Nat.le_trans hbu.2 (Nat.mul_le_mul (by omega) (Nat.le_refl _))
    unfold WM at hWM
    rw [if_neg (by rw [hTt.1]; exact lN_ne_m1 (by omega)), hTt.1]
    have hpl := hV.pL
    have hpa := hV.pA
    have fin : ∀ (B c : Nat), d < B → B ≤ 64 → c ≤ 99 → f_X1_costBy_b103 x (lN u.1) (nI p) (nI c) (nI B) = some (lN (u.1 + (24 * c + cpL x * ((B - d) * cbt x p - o)))) := by
      intro B c hdB hB64 hc
      obtain ⟨q1, q2⟩ := untl (x := x) (p := p) hdB hoo hB64 k8
      unfold f_X1_costBy_b103 f_X3_beatOver
      have ep : rA x 11 (Int32.toNatClampNeg 1) = nI (cpL x) := hpl.1
      have e24 : (24 : Int32) = nI 24 := by decide
      simp only [inR_nI h20 (by decide), gd_t, bn1_s, e3, ep, e2, nI_clamp (show p < 2 ^ 31 by omega), k6]
      rw [e24, pk_mul, nI_l (show 24 * c < 2 ^ 31 by omega), lN_add, nI_l (show cpL x < 2 ^ 31 by omega), pk_sub (show d ≤ B by omega), nI_l (show B - d < 2 ^ 31 by omega), nI_l (show cbt x p < 2 ^ 31 by omega), lN_mul, lN_sub q1, lN_mul, lN_add, Nat.add_assoc]
    unfold scst own bhd
    rcases ho with ⟨h100, hk⟩ | ⟨hsj, hf, hdb⟩
    · rw [if_pos h100, if_pos h100, if_pos h100]
      unfold f_X1_costBy_b46
      rw [if_neg (by decide)]
      unfold f_X1_costBy_b74
      have ep0 : rA x 11 (Int32.toNatClampNeg 0) = nI (cpA x) := hpa.1
      rw [if_neg (by decide), ep0]
      simp only [inR_nI h20 (by decide), gd_t, nI_clamp (show p < 2 ^ 31 by omega), k3]
      exact fin (cbs x p) (cpA x) hd k5 hpa.2
    · have hn100 : ¬ s = 100 := by omega
      rw [if_neg hn100, if_neg hn100, if_neg hn100]
      obtain ⟨-, h8, -, h10, -, -, hbh, hcs, -, -, hs100⟩ := hV.jt hsj
      unfold f_X1_costBy_b46
      rw [if_pos rfl]
      unfold f_X1_costBy_b74
      rw [if_pos rfl]
      simp only [inR_nI hs100 (by decide), gd_t, nI_clamp (show s < 2 ^ 31 by omega), h8, h10]
      exact fin (cbh x s) (ccs x s) hdb hbh hcs
/-- the best as the class holds it while it looks -/
def HldC (r : Option (Nat × (Nat × Nat))) (v1 : Int32) (v2 : Int64) (v4 : Int32) : Prop := match r with
  | none => v1 = -1 ∧ v2 = -1
  | some (s, v) => v1 = nI s ∧ v2 = lN v.1 ∧ ∃ n, v.2 = n + 1 ∧ v4 = nI n
theorem vls_bd {x : PD} (hV : ScV x) {t : Tb} (hB : bdT 3000 t) {p d o s : Nat} {v : Nat × Nat} (hp : p < cnp x) (h : cand x t p d o s v) : v.1 < 2 ^ 40 ∧ v.2 ≤ 3001 ∧ 1 ≤ v.2 := by
  obtain ⟨ho, hv⟩ := h
  unfold vls at hv
  cases hto : t (lds x p s) with
  | none => rw [hto] at hv; cases hv
  | some u =>
    rw [hto] at hv
    cases hv
    have hbu := hB _ _ hto
    have hWM : u.1 ≤ 3000 * WM := Nat.le_trans hbu.2 (Nat.mul_le_mul (by omega) (Nat.le_refl _))
    unfold WM at hWM
    obtain ⟨-, -, -, k4, k5, -, -, k8, -, -, -⟩ := hV.pc hp
    have h1 : own x s ≤ 99 := by
      unfold own
      rcases ho with ⟨q, -⟩ | ⟨q, -⟩
      · rw [if_pos q]; exact hV.pA.2
      · have := hV.nj.2
        rw [if_neg (by omega)]; exact (hV.jt q).2.2.2.2.2.2.2.1
    have h2 : bhd x p s ≤ 64 := by
      unfold bhd
      rcases ho with ⟨q, -⟩ | ⟨q, -⟩
      · rw [if_pos q]; exact k5
      · have := hV.nj.2
        rw [if_neg (by omega)]; exact (hV.jt q).2.2.2.2.2.2.1
    have h3 : (bhd x p s - d) * cbt x p ≤ 64 * 2400 := Nat.mul_le_mul (by omega) k8
    have h4 : cpL x * ((bhd x p s - d) * cbt x p - o) ≤ 99 * (64 * 2400) := Nat.mul_le_mul hV.pL.2 (by omega)
    refine ⟨?_, by simp only; omega, by simp only; omega⟩
    unfold scst
    simp only
    omega
theorem firstStep_c {x : PD} (hV : ScV x) {t : Tb} (hT : TabR (cnp x) (rB x 42) (rA x 43) t) (hB : bdT 3000 t) {p d o : Nat} (hL : LV x p d o) : ∃ r, Bst x t p d o 101 r ∧ f_X1_firstStep x = some (match r with | none => -1 | some (s, _) => nI s) := by
  have hnj := hV.nj
  have hp := hL.2.1
  have hnp := hV.np.2
  -- one candidate's turn
  have turn : ∀ (n N s : Nat) (r : Option (Nat × (Nat × Nat))) (v1 : Int32) (v2 : Int64) (v4 : Int32) (v5 : Int32), (s = 100 ∨ s < cnj x) → Bst x t p d o s r → HldC r v1 v2 v4 → ∃ r' w1 w2 w4, Bst x t p d o (s + 1) r' ∧ HldC r' w1 w2 w4 ∧ f_X1_firstStep_b43 x (f_X1_firstStep_b12 x n) v1 v2 v4 v5 (nI s) = f_X1_firstStep_b12 x n w1 w2 w4 (v5 + 1) := by
    intro n N s r v1 v2 v4 v5 hs hBst hH
    unfold f_X1_firstStep_b43
    obtain ⟨q, hq, hqq⟩ := isOpen_c hV hL hs
    rw [hq, bn1_s]
    rcases hqq with ⟨ho, rfl⟩ | ⟨ho, rfl⟩
    · rw [if_neg (by decide), costBy_c hV hT hB hL ho, bn1_s, pieceBehind_c hV hL hs, bn1_s]
      have hlt := lds_lt hV hp ho
      have hTt := hT (lds x p s) hlt
      simp only [inR_nI (show lds x p s < 20 by omega) (by decide), gd_t, nI_clamp (show lds x p s < 2 ^ 31 by omega), lg_eq0]
      cases hto : t (lds x p s) with
      | none =>
        rw [if_pos rfl]
        refine ⟨r, v1, v2, v4, Bst_skip hBst ?_, hH, rfl⟩
        rintro v ⟨-, hv⟩
        unfold vls at hv
        rw [hto] at hv
        cases hv
      | some u =>
        rw [hto] at hTt
        simp only at hTt ⊢
        have hc : cand x t p d o s (u.1 + scst x p d o s, u.2 + 1) := ⟨ho, by unfold vls; rw [hto]⟩
        have hbd := vls_bd hV hB hp hc
        simp only at hbd
        rw [if_neg (lN_ne_m1 (by omega)), hTt.2]
        obtain ⟨q2, hq2, hqq2⟩ := isBetter_c x (c1 := u.1 + scst x p d o s) (n1 := u.2) (F3 := v2) (G4 := v4) (o := r.map (fun w => (w.2.1, w.2.2 - 1))) (by omega) (by omega) (by
          cases r with
          | none => exact hH.2
          | some w =>
            obtain ⟨s1, v⟩ := w
            obtain ⟨-, h2, n1, h3, h4⟩ := hH
            have hb1 := vls_bd hV hB hp hBst.2.1
            refine ⟨h2, ?_, by simp only; omega, by simp only; omega⟩
            simp only
            rw [h4, h3]
            rfl)
        rw [hq2, bn1_s]
        have hiff : btr (u.1 + scst x p d o s, u.2) (r.map (fun w => (w.2.1, w.2.2 - 1))) ↔ btr (u.1 + scst x p d o s, u.2 + 1) (r.map Prod.snd) := by
          cases r with
          | none => exact Iff.rfl
          | some w =>
            obtain ⟨s1, v⟩ := w
            have hb1 := vls_bd hV hB hp hBst.2.1
            show ltb _ _ ↔ ltb _ _
            unfold ltb
            simp only
            omega
        rcases hqq2 with ⟨hb, rfl⟩ | ⟨hb, rfl⟩
        · rw [if_neg (by decide)]
          exact ⟨some (s, (u.1 + scst x p d o s, u.2 + 1)), nI s, lN (u.1 + scst x p d o s), nI u.2, Bst_take hBst hc (hiff.mp hb), ⟨rfl, rfl, u.2, rfl, rfl⟩, rfl⟩
        · rw [if_pos rfl]
          exact ⟨r, v1, v2, v4, Bst_keep hBst hc (fun h => hb (hiff.mpr h)), hH, rfl⟩
    · rw [if_pos rfl]
      exact ⟨r, v1, v2, v4, Bst_skip hBst (fun v h => ho h.1), hH, rfl⟩
  have main : ∀ (n N : Nat) (r : Option (Nat × (Nat × Nat))) (v1 : Int32) (v2 : Int64) (v4 : Int32), cnj x + 1 - N < n → N ≤ cnj x → Bst x t p d o N r → HldC r v1 v2 v4 → ∃ r', Bst x t p d o 101 r' ∧ f_X1_firstStep_b12 x n v1 v2 v4 (nI N) = some (match r' with | none => -1 | some (s, _) => nI s) := by
    intro n
    induction n with
    | zero => intro N r v1 v2 v4 h; omega
    | succ n ih =>
      intro N r v1 v2 v4 hn hN hBst hH
      rw [f_X1_firstStep_b12]
      have c1 : ¬ rI x 42 < nI N := by rw [hnj.1, nI_ltI (by omega) (by omega)]; omega
      rw [if_neg c1]
      by_cases hlt : N < cnj x
      · have c2 : ¬ rI x 42 ≤ nI N := by rw [hnj.1, nI_leI (by omega) (by omega)]; omega
        rw [if_neg c2]
        obtain ⟨r', w1, w2, w4, h1, h2, h3⟩ := turn n N N r v1 v2 v4 (nI N) (Or.inr hlt) hBst hH
        rw [h3, nI_1]
        exact ih (N + 1) r' w1 w2 w4 (by omega) (by omega) h1 h2
      · have hNe : N = cnj x := by omega
        have c2 : rI x 42 ≤ nI N := by rw [hnj.1, nI_leI (by omega) (by omega)]; omega
        rw [if_pos c2]
        have hB100 : Bst x t p d o 100 r := by
          have h9 := Bst_skips hBst (100 - N) (fun s v h1 h2 hc => by
            rcases hc.1 with ⟨q, -⟩ | ⟨q, -⟩ <;> omega)
          have e9 : N + (100 - N) = 100 := by omega
          rw [e9] at h9
          exact h9
        obtain ⟨r', w1, w2, w4, h1, h2, h3⟩ := turn n N 100 r v1 v2 v4 (nI N) (Or.inl rfl) hB100 hH
        have h3' : f_X1_firstStep_b43 x (f_X1_firstStep_b12 x n) v1 v2 v4 (nI N) 100 = f_X1_firstStep_b12 x n w1 w2 w4 (nI N + 1) := h3
        rw [h3', nI_1]
        cases n with
        | zero => omega
        | succ n =>
          rw [f_X1_firstStep_b12]
          have c3 : rI x 42 < nI (N + 1) := by rw [hnj.1, nI_ltI (by omega) (by omega)]; omega
          rw [if_pos c3]
          refine ⟨r', h1, ?_⟩
          cases r' with
          | none => rw [h2.1]
          | some w => obtain ⟨s1, v⟩ := w; rw [h2.1]
  exact main FU 0 none (-1) (-1) 0 (by have := hnj.2; unfold FU; omega) (Nat.zero_le _) (fun s v h => by omega) ⟨rfl, rfl⟩
