/-! ===== PURE: filled tables ===== -/
/-- the bit of mood m of piece p, as both sides ask for it -/
def mbit (x : PD) (m p : Nat) : Int32 := ((rA x 5 p) >>> (nI m &&& 31)) &&& 1
def hasM (x : PD) (m p : Nat) : Prop := p < cnp x ∧ ¬ mbit x m p = 0
theorem and1 (v : Int32) : v &&& 1 = 1 ↔ ¬ v &&& 1 = 0 := by
  have h := pk_andE v (m := 1) 1 (by decide)
  obtain ⟨j, hj, e⟩ := h
  rw [e]
  have h2 : j = 0 ∨ j = 1 := by omega
  rcases h2 with rfl | rfl <;> decide
def tIni (x : PD) (m : Nat) (k : Nat) : Tb := fun p => if p < k then (if mbit x m p = 0 then none else some (0, 0)) else none
/-- the table that every filling ends with -/
def FinT (x : PD) (a b m : Nat) (t : Tb) : Prop := snd_ (cfr x) (ctt x) (wgt x a b) (cnj x) (hasM x m) t ∧ all_ (cfr x) (ctt x) (wgt x a b) (cnp x) (cnj x) (hasM x m) t
theorem FinT_uniq {x : PD} {a b m : Nat} {t t' : Tb} (h : FinT x a b m t) (h' : FinT x a b m t') {p : Nat} (hp : p < cnp x) : t p = t' p := by
  cases e1 : t p with
  | none =>
    cases e2 : t' p with
    | none => rfl
    | some u' =>
      obtain ⟨u, hu, -⟩ := h.2 _ _ _ hp (h'.1 _ _ e2)
      rw [e1] at hu
      cases hu
  | some u =>
    cases e2 : t' p with
    | none =>
      obtain ⟨u', hu, -⟩ := h'.2 _ _ _ hp (h.1 _ _ e1)
      rw [e2] at hu
      cases hu
    | some u' =>
      obtain ⟨v, hv, hl⟩ := h.2 _ _ _ hp (h'.1 _ _ e2)
      obtain ⟨v', hv', hl'⟩ := h'.2 _ _ _ hp (h.1 _ _ e1)
      rw [e1] at hv
      rw [e2] at hv'
      cases hv
      cases hv'
      obtain ⟨c, n⟩ := u
      obtain ⟨c', n'⟩ := u'
      unfold leb at hl hl'
      simp only at hl hl'
      congr 2 <;> omega
theorem nochg_all {fr tt w : Nat → Nat} {np nj : Nat} {has : Nat → Prop} {t : Tb} (htt : ∀ j, j < nj → tt j < np) (h0 : ∀ p, has p → atm (t p) (0, 0)) (hn : ∀ j, j < nj → ¬ chg fr tt w t j) : all_ fr tt w np nj has t := by
  intro n
  induction n with
  | zero =>
    intro p c hp hw
    obtain ⟨v, d, h1, h2, h3, h4, -⟩ := hw
    have hc : c = 0 := by rw [← h2, h3]
    rw [hc]
    rw [h1] at h4
    exact h0 p h4
  | succ n ih =>
    intro p c hp hw
    obtain ⟨j, c', hj, hf, hw', he⟩ := Wk_tail fr tt w nj has hw
    obtain ⟨u, hu, hl⟩ := ih (tt j) c' (htt j hj) hw'
    have ho : off tt w t j = some (u.1 + w j, u.2 + 1) := by unfold off; rw [hu]
    have hn1 := hn j hj
    cases hp' : t (fr j) with
    | none => exact absurd ⟨_, ho, by rw [hp']; trivial⟩ hn1
    | some q =>
      rw [hf] at hp'
      refine ⟨q, hp', ?_⟩
      have h9 : leb q (u.1 + w j, u.2 + 1) := not_ltb (fun hb => hn1 ⟨_, ho, by rw [hf, hp']; exact hb⟩)
      rw [he]
      exact leb_trans h9 (leb_add (w j) hl)
theorem tIni_snd (x : PD) (a b m : Nat) : snd_ (cfr x) (ctt x) (wgt x a b) (cnj x) (hasM x m) (tIni x m (cnp x)) := by
  intro p u hu
  unfold tIni at hu
  by_cases hp : p < cnp x
  · rw [if_pos hp] at hu
    by_cases hb : mbit x m p = 0
    · rw [if_pos hb] at hu; cases hu
    · rw [if_neg hb] at hu
      cases hu
      exact ⟨fun _ => p, fun _ => 0, rfl, rfl, rfl, ⟨hp, hb⟩, fun i hi => by omega⟩
  · rw [if_neg hp] at hu; cases hu
theorem tIni_at {x : PD} {m p : Nat} (h : hasM x m p) : tIni x m (cnp x) p = some (0, 0) := by
  unfold tIni
  rw [if_pos h.1, if_neg h.2]
theorem tIni_cpl (x : PD) (a b m : Nat) : cpl (cfr x) (ctt x) (wgt x a b) (cnj x) (hasM x m) 0 (tIni x m (cnp x)) := by
  intro n p c hn hw
  have h0 : n = 0 := by omega
  subst h0
  obtain ⟨v, d, h1, h2, h3, h4, -⟩ := hw
  have hc : c = 0 := by rw [← h2, h3]
  rw [h1] at h4
  rw [hc]
  exact ⟨_, tIni_at h4, leb_refl _⟩
theorem tIni_bd (x : PD) (m k : Nat) : bdT 0 (tIni x m k) := by
  intro p u hu
  unfold tIni at hu
  by_cases hp : p < k
  · rw [if_pos hp] at hu
    by_cases hb : mbit x m p = 0
    · rw [if_pos hb] at hu; cases hu
    · rw [if_neg hb] at hu
      cases hu
      exact ⟨Nat.le_refl _, by simp⟩
  · rw [if_neg hp] at hu; cases hu
theorem ScV.tt {x : PD} (hV : ScV x) : ∀ j, j < cnj x → ctt x j < cnp x := fun j hj => (hV.jt hj).2.2.2.2.2.1
theorem ScV.fr {x : PD} (hV : ScV x) : ∀ j, j < cnj x → cfr x j < cnp x := fun j hj => (hV.jt hj).2.2.2.2.1
theorem hasMood_c {x : PD} {p m : Nat} (hp : p < 20) (hm : m ≤ 7) : f_X2_hasMood x (nI p) (nI m) = some (if mbit x m p = 0 then 0 else 1) := by
  unfold f_X2_hasMood
  simp only [inR_nI hp (by decide), gd_t, nI_clamp (show p < 2 ^ 31 by omega)]
  show (if mbit x m p = 0 then some 0 else some 1) = _
  split <;> rfl
theorem has_m {x z : PD} (hS : SEq x z) {p m : Nat} (hp : p < 20) (hm : m ≤ 7) : f_X6_has z (nI p) (nI m) = some (if mbit x m p = 0 then 0 else 1) := by
  unfold f_X6_has
  have e5 : rA z 4 p = rA x 5 p := by rw [hS.2.2.2.2.2.1]
  simp only [inR_nI hp (by decide), gd_t, nI_clamp (show p < 2 ^ 31 by omega), e5]
  show (if mbit x m p = 1 then some 1 else some 0) = _
  by_cases h : mbit x m p = 0
  · rw [if_pos h, if_neg (show ¬ mbit x m p = 1 from fun q => (and1 _).mp q h)]
  · rw [if_neg h, if_pos (show mbit x m p = 1 from (and1 _).mpr h)]

theorem rounds_41 (x0 : PD) (hV : ScV x0) {a b m : Nat} (ha : a ≤ 24) (hb : b ≤ 99) : ∀ (n r : Nat) (F : Nat → Int64) (G : Nat → Int32) (t : Tb) (v5 : Int32), cnp x0 - r < n → r ≤ cnp x0 → TabR (cnp x0) F G t → bdT (100 * r) t → snd_ (cfr x0) (ctt x0) (wgt x0 a b) (cnj x0) (hasM x0 m) t → cpl (cfr x0) (ctt x0) (wgt x0 a b) (cnj x0) (hasM x0 m) r t → (v5 = 0 → ∀ j, j < cnj x0 → ¬ chg (cfr x0) (ctt x0) (wgt x0 a b) t j) →
    ∃ F' G' t', f_X4_fill_41_1_b56 n (stT 42 43 x0 F G) (nI a) (nI b) v5 (nI r) = some (stT 42 43 x0 F' G') ∧ TabR (cnp x0) F' G' t' ∧ bdT 3000 t' ∧ FinT x0 a b m t' := by
  obtain ⟨enp, hnp⟩ := hV.np
  obtain ⟨enj, hnj⟩ := hV.nj
  intro n
  induction n with
  | zero => intro r F G t v5 h; omega
  | succ n ih =>
    intro r F G t v5 hn hr hT hB hs hc hv
    have e37 : rI (stT 42 43 x0 F G) 37 = nI (cnp x0) := enp
    rw [f_X4_fill_41_1_b56]
    by_cases hlt : r < cnp x0
    · have c1 : ¬ (rI (stT 42 43 x0 F G) 37) ≤ nI r := by rw [e37, nI_leI (by omega) (by omega)]; omega
      rw [if_neg c1]
      by_cases h0 : v5 = 0
      · rw [if_pos h0]
        exact ⟨F, G, t, rfl, hT, bdT_mono hB (by omega), hs, nochg_all hV.tt (fun p hp => hc 0 p 0 (Nat.zero_le _) ⟨fun _ => p, fun _ => 0, rfl, rfl, rfl, hp, fun i hi => by omega⟩) (hv h0)⟩
      · rw [if_neg h0]
        obtain ⟨F', G', t', f, v', h1, h2, h3, h4, h5, h6⟩ := improve_41 x0 hV (a := a) (b := b) ha hb FU 0 F G t 0 (100 * r) (by unfold FU; omega) (Nat.zero_le _) (by omega) hT hB (Or.inl rfl)
        have e9 : f_X4_improve_41_1 (stT 42 43 x0 F G) (nI a) (nI b) = some (v', stT 42 43 x0 F' G') := h4
        rw [e9, bn2_s, nI_1]
        have h1' : rxs (cfr x0) (ctt x0) (wgt x0 a b) 0 (cnj x0) t t' f := h1
        exact ih (r + 1) F' G' t' v' (by omega) (by omega) h2 (bdT_mono h3 (by omega)) (rxs_snd _ _ _ _ _ _ _ _ _ _ (by omega) h1' hs) (rxs_cpl _ _ _ _ _ h1' hc) (by
          intro hv0
          have hnf : ¬ f := by
            intro hf
            have := h5.mpr (Or.inl hf)
            rw [hv0] at this
            exact absurd this (by decide)
          obtain ⟨q1, q2⟩ := nof_nochg _ _ _ _ _ _ _ _ h1' hnf
          rw [q1]
          exact fun j hj => q2 j (Nat.zero_le _) (by omega))
    · have c1 : (rI (stT 42 43 x0 F G) 37) ≤ nI r := by rw [e37, nI_leI (by omega) (by omega)]; omega
      rw [if_pos c1]
      have hre : r = cnp x0 := by omega
      rw [hre] at hc
      exact ⟨F, G, t, rfl, hT, bdT_mono hB (by omega), hs, cpl_all _ _ _ _ _ _ hV.tt hc⟩
theorem fill_41 (x0 : PD) (hV : ScV x0) {a b m : Nat} (ha : a ≤ 24) (hb : b ≤ 99) (hm : m ≤ 7) : ∃ F' G' t', f_X4_fill_41_1 x0 (nI m) (nI a) (nI b) = some (stT 42 43 x0 F' G') ∧ TabR (cnp x0) F' G' t' ∧ bdT 3000 t' ∧ FinT x0 a b m t' := by
  obtain ⟨enp, hnp⟩ := hV.np
  have main : ∀ (n p : Nat) (F : Nat → Int64) (G : Nat → Int32), cnp x0 - p < n → p ≤ cnp x0 → TabR p F G (tIni x0 m p) → ∃ F' G' t', f_X4_fill_41_1_b3 n (stT 42 43 x0 F G) (nI m) (nI a) (nI b) (nI p) = some (stT 42 43 x0 F' G') ∧ TabR (cnp x0) F' G' t' ∧ bdT 3000 t' ∧ FinT x0 a b m t' := by
    intro n
    induction n with
    | zero => intro p F G h; omega
    | succ n ih =>
      intro p F G hn hp hT
      have e37 : rI (stT 42 43 x0 F G) 37 = nI (cnp x0) := enp
      rw [f_X4_fill_41_1_b3]
      by_cases hlt : p < cnp x0
      · have c1 : ¬ (rI (stT 42 43 x0 F G) 37) ≤ nI p := by rw [e37, nI_leI (by omega) (by omega)]; omega
        rw [if_neg c1]
        have hm1 : f_X2_hasMood (stT 42 43 x0 F G) (nI p) (nI m) = some (if mbit x0 m p = 0 then 0 else 1) := hasMood_c (x := stT 42 43 x0 F G) (by omega) hm
        rw [hm1, bn1_s]
        have stp : ∀ (v : Int64) (o : Option (Nat × Nat)), (match o with | none => v = -1 | some u => v = lN u.1 ∧ nI 0 = nI u.2) → tIni x0 m (p + 1) p = o → ∃ F' G' t', f_X4_fill_41_1_b35 (f_X4_fill_41_1_b3 n) (stT 42 43 x0 F G) (nI m) (nI a) (nI b) (nI p) v (nI p) = some (stT 42 43 x0 F' G') ∧ TabR (cnp x0) F' G' t' ∧ bdT 3000 t' ∧ FinT x0 a b m t' := by
          intro v o ho hto
          unfold f_X4_fill_41_1_b35
          have rB' : rB (stT 42 43 x0 F G) 42 = F := rfl
          have rG' : rA (stT 42 43 x0 F G) 43 = G := rfl
          simp only [inR_nI (show p < 20 by omega) (by decide), gd_t, letv_e, rA_wB, rB', rG', nI_clamp (show p < 2 ^ 31 by omega), stT_stT, nI_1]
          refine ih (p + 1) _ _ (by omega) (by omega) ?_
          intro q hq
          by_cases he : q = p
          · subst he
            rw [hto]
            cases o with
            | none => simp only [vp_updL, if_true]; exact ho
            | some u => simp only [vp_updL, upd, if_true]; exact ho
          · have hT1 := hT q (by omega)
            have e1 : tIni x0 m (p + 1) q = tIni x0 m p q := by
              unfold tIni
              rw [if_pos hq, if_pos (show q < p by omega)]
            rw [e1]
            simp only [vp_updL, upd, he, if_false]
            exact hT1
        by_cases hb0 : mbit x0 m p = 0
        · rw [if_pos hb0, if_pos rfl]
          exact stp (-1) none rfl (by unfold tIni; rw [if_pos (Nat.lt_succ_self p), if_pos hb0])
        · rw [if_neg hb0, if_neg (by decide)]
          exact stp 0 (some (0, 0)) ⟨rfl, rfl⟩ (by unfold tIni; rw [if_pos (Nat.lt_succ_self p), if_neg hb0])
      · have c1 : (rI (stT 42 43 x0 F G) 37) ≤ nI p := by rw [e37, nI_leI (by omega) (by omega)]; omega
        rw [if_pos c1]
        have hpe : p = cnp x0 := by omega
        rw [hpe] at hT
        exact rounds_41 x0 hV ha hb FU 0 F G _ 1 (by unfold FU; omega) (Nat.zero_le _) hT (tIni_bd _ _ _) (tIni_snd _ _ _ _) (tIni_cpl _ _ _ _) (fun h => absurd h (by decide))
  have h := main FU 0 (rB x0 42) (rA x0 43) (by unfold FU; omega) (Nat.zero_le _) (fun p hp => by omega)
  rw [stT_self] at h
  exact h

theorem rounds_37 (x0 : PD) (hV : ScV x0) {a b m : Nat} (ha : a ≤ 24) (hb : b ≤ 99) : ∀ (n r : Nat) (F : Nat → Int64) (G : Nat → Int32) (t : Tb) (v5 : Int32), cnp x0 - r < n → r ≤ cnp x0 → TabR (cnp x0) F G t → bdT (100 * r) t → snd_ (cfr x0) (ctt x0) (wgt x0 a b) (cnj x0) (hasM x0 m) t → cpl (cfr x0) (ctt x0) (wgt x0 a b) (cnj x0) (hasM x0 m) r t → (v5 = 0 → ∀ j, j < cnj x0 → ¬ chg (cfr x0) (ctt x0) (wgt x0 a b) t j) →
    ∃ F' G' t', f_X4_fill_37_1_b56 n (stT 38 39 x0 F G) (nI a) (nI b) v5 (nI r) = some (stT 38 39 x0 F' G') ∧ TabR (cnp x0) F' G' t' ∧ bdT 3000 t' ∧ FinT x0 a b m t' := by
  obtain ⟨enp, hnp⟩ := hV.np
  obtain ⟨enj, hnj⟩ := hV.nj
  intro n
  induction n with
  | zero => intro r F G t v5 h; omega
  | succ n ih =>
    intro r F G t v5 hn hr hT hB hs hc hv
    have e37 : rI (stT 38 39 x0 F G) 37 = nI (cnp x0) := enp
    rw [f_X4_fill_37_1_b56]
    by_cases hlt : r < cnp x0
    · have c1 : ¬ (rI (stT 38 39 x0 F G) 37) ≤ nI r := by rw [e37, nI_leI (by omega) (by omega)]; omega
      rw [if_neg c1]
      by_cases h0 : v5 = 0
      · rw [if_pos h0]
        exact ⟨F, G, t, rfl, hT, bdT_mono hB (by omega), hs, nochg_all hV.tt (fun p hp => hc 0 p 0 (Nat.zero_le _) ⟨fun _ => p, fun _ => 0, rfl, rfl, rfl, hp, fun i hi => by omega⟩) (hv h0)⟩
      · rw [if_neg h0]
        obtain ⟨F', G', t', f, v', h1, h2, h3, h4, h5, h6⟩ := improve_37 x0 hV (a := a) (b := b) ha hb FU 0 F G t 0 (100 * r) (by unfold FU; omega) (Nat.zero_le _) (by omega) hT hB (Or.inl rfl)
        have e9 : f_X4_improve_37_1 (stT 38 39 x0 F G) (nI a) (nI b) = some (v', stT 38 39 x0 F' G') := h4
        rw [e9, bn2_s, nI_1]
        have h1' : rxs (cfr x0) (ctt x0) (wgt x0 a b) 0 (cnj x0) t t' f := h1
        exact ih (r + 1) F' G' t' v' (by omega) (by omega) h2 (bdT_mono h3 (by omega)) (rxs_snd _ _ _ _ _ _ _ _ _ _ (by omega) h1' hs) (rxs_cpl _ _ _ _ _ h1' hc) (by
          intro hv0
          have hnf : ¬ f := by
            intro hf
            have := h5.mpr (Or.inl hf)
            rw [hv0] at this
            exact absurd this (by decide)
          obtain ⟨q1, q2⟩ := nof_nochg _ _ _ _ _ _ _ _ h1' hnf
          rw [q1]
          exact fun j hj => q2 j (Nat.zero_le _) (by omega))
    · have c1 : (rI (stT 38 39 x0 F G) 37) ≤ nI r := by rw [e37, nI_leI (by omega) (by omega)]; omega
      rw [if_pos c1]
      have hre : r = cnp x0 := by omega
      rw [hre] at hc
      exact ⟨F, G, t, rfl, hT, bdT_mono hB (by omega), hs, cpl_all _ _ _ _ _ _ hV.tt hc⟩
theorem fill_37 (x0 : PD) (hV : ScV x0) {a b m : Nat} (ha : a ≤ 24) (hb : b ≤ 99) (hm : m ≤ 7) : ∃ F' G' t', f_X4_fill_37_1 x0 (nI m) (nI a) (nI b) = some (stT 38 39 x0 F' G') ∧ TabR (cnp x0) F' G' t' ∧ bdT 3000 t' ∧ FinT x0 a b m t' := by
  obtain ⟨enp, hnp⟩ := hV.np
  have main : ∀ (n p : Nat) (F : Nat → Int64) (G : Nat → Int32), cnp x0 - p < n → p ≤ cnp x0 → TabR p F G (tIni x0 m p) → ∃ F' G' t', f_X4_fill_37_1_b3 n (stT 38 39 x0 F G) (nI m) (nI a) (nI b) (nI p) = some (stT 38 39 x0 F' G') ∧ TabR (cnp x0) F' G' t' ∧ bdT 3000 t' ∧ FinT x0 a b m t' := by
    intro n
    induction n with
    | zero => intro p F G h; omega
    | succ n ih =>
      intro p F G hn hp hT
      have e37 : rI (stT 38 39 x0 F G) 37 = nI (cnp x0) := enp
      rw [f_X4_fill_37_1_b3]
      by_cases hlt : p < cnp x0
      · have c1 : ¬ (rI (stT 38 39 x0 F G) 37) ≤ nI p := by rw [e37, nI_leI (by omega) (by omega)]; omega
        rw [if_neg c1]
        have hm1 : f_X2_hasMood (stT 38 39 x0 F G) (nI p) (nI m) = some (if mbit x0 m p = 0 then 0 else 1) := hasMood_c (x := stT 38 39 x0 F G) (by omega) hm
        rw [hm1, bn1_s]
        have stp : ∀ (v : Int64) (o : Option (Nat × Nat)), (match o with | none => v = -1 | some u => v = lN u.1 ∧ nI 0 = nI u.2) → tIni x0 m (p + 1) p = o → ∃ F' G' t', f_X4_fill_37_1_b35 (f_X4_fill_37_1_b3 n) (stT 38 39 x0 F G) (nI m) (nI a) (nI b) (nI p) v (nI p) = some (stT 38 39 x0 F' G') ∧ TabR (cnp x0) F' G' t' ∧ bdT 3000 t' ∧ FinT x0 a b m t' := by
          intro v o ho hto
          unfold f_X4_fill_37_1_b35
          have rB' : rB (stT 38 39 x0 F G) 38 = F := rfl
          have rG' : rA (stT 38 39 x0 F G) 39 = G := rfl
          simp only [inR_nI (show p < 20 by omega) (by decide), gd_t, letv_e, rA_wB, rB', rG', nI_clamp (show p < 2 ^ 31 by omega), stT_stT, nI_1]
          refine ih (p + 1) _ _ (by omega) (by omega) ?_
          intro q hq
          by_cases he : q = p
          · subst he
            rw [hto]
            cases o with
            | none => simp only [vp_updL, if_true]; exact ho
            | some u => simp only [vp_updL, upd, if_true]; exact ho
          · have hT1 := hT q (by omega)
            have e1 : tIni x0 m (p + 1) q = tIni x0 m p q := by
              unfold tIni
              rw [if_pos hq, if_pos (show q < p by omega)]
            rw [e1]
            simp only [vp_updL, upd, he, if_false]
            exact hT1
        by_cases hb0 : mbit x0 m p = 0
        · rw [if_pos hb0, if_pos rfl]
          exact stp (-1) none rfl (by unfold tIni; rw [if_pos (Nat.lt_succ_self p), if_pos hb0])
        · rw [if_neg hb0, if_neg (by decide)]
          exact stp 0 (some (0, 0)) ⟨rfl, rfl⟩ (by unfold tIni; rw [if_pos (Nat.lt_succ_self p), if_neg hb0])
      · have c1 : (rI (stT 38 39 x0 F G) 37) ≤ nI p := by rw [e37, nI_leI (by omega) (by omega)]; omega
        rw [if_pos c1]
        have hpe : p = cnp x0 := by omega
        rw [hpe] at hT
        exact rounds_37 x0 hV ha hb FU 0 F G _ 1 (by unfold FU; omega) (Nat.zero_le _) hT (tIni_bd _ _ _) (tIni_snd _ _ _ _) (tIni_cpl _ _ _ _) (fun h => absurd h (by decide))
  have h := main FU 0 (rB x0 38) (rA x0 39) (by unfold FU; omega) (Nat.zero_le _) (fun p hp => by omega)
  rw [stT_self] at h
  exact h
