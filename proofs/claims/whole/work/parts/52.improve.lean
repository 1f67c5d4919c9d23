/-! ===== PURE: reads behind writes ===== -/
theorem rA_wB {x : PD} {k i : Nat} {g : Nat → Int64} : rA (wB x k g) i = rA x i := rfl
theorem rA_wI {x : PD} {k i : Nat} {v : Int32} : rA (wI x k v) i = rA x i := rfl
theorem rA_wL {x : PD} {k i : Nat} {v : Int64} : rA (wL x k v) i = rA x i := rfl
theorem rB_wA {x : PD} {k i : Nat} {g : Nat → Int32} : rB (wA x k g) i = rB x i := rfl
theorem rB_wI {x : PD} {k i : Nat} {v : Int32} : rB (wI x k v) i = rB x i := rfl
theorem rB_wL {x : PD} {k i : Nat} {v : Int64} : rB (wL x k v) i = rB x i := rfl
theorem rI_wA {x : PD} {k i : Nat} {g : Nat → Int32} : rI (wA x k g) i = rI x i := rfl
theorem rI_wB {x : PD} {k i : Nat} {g : Nat → Int64} : rI (wB x k g) i = rI x i := rfl
theorem rI_wL {x : PD} {k i : Nat} {v : Int64} : rI (wL x k v) i = rI x i := rfl
theorem rL_wA {x : PD} {k i : Nat} {g : Nat → Int32} : rL (wA x k g) i = rL x i := rfl
theorem rL_wB {x : PD} {k i : Nat} {g : Nat → Int64} : rL (wB x k g) i = rL x i := rfl
theorem rL_wI {x : PD} {k i : Nat} {v : Int32} : rL (wI x k v) i = rL x i := rfl
theorem rA_wA {x : PD} {k i : Nat} {g : Nat → Int32} : rA (wA x k g) i = if i = k then g else rA x i := rfl
theorem rB_wB {x : PD} {k i : Nat} {g : Nat → Int64} : rB (wB x k g) i = if i = k then g else rB x i := rfl
theorem rI_wI {x : PD} {k i : Nat} {v : Int32} : rI (wI x k v) i = if i = k then v else rI x i := rfl
theorem rL_wL {x : PD} {k i : Nat} {v : Int64} : rL (wL x k v) i = if i = k then v else rL x i := rfl
/-- a world with another table at the arrays k, i -/
def stT (k i : Nat) (x : PD) (F : Nat → Int64) (G : Nat → Int32) : PD := wA (wB x k F) i G
theorem stT_stT {k i : Nat} {x : PD} {F F1 : Nat → Int64} {G G1 : Nat → Int32} : wA (wB (stT k i x F G) k F1) i G1 = stT k i x F1 G1 := by
  unfold stT wA wB
  simp only [bx_uu]
theorem stT_self (k i : Nat) (x : PD) : stT k i x (rB x k) (rA x i) = x := by
  unfold stT wA wB rB rA
  obtain ⟨a, b, c, d⟩ := x
  simp only
  congr 3
  · funext j; unfold va_up; split
    · next h => rw [h]
    · rfl
  · funext j; unfold va_up; split
    · next h => rw [h]
    · rfl
theorem TabR_up {np : Nat} {F : Nat → Int64} {G : Nat → Int32} {t : Tb} {p : Nat} {u : Nat × Nat} (h : TabR np F G t) : TabR np (vp_updL F p (lN u.1)) (upd G p (nI u.2)) (va_up t p (some u)) := by
  intro q hq
  have hh := h q hq
  by_cases he : q = p
  · simp only [va_up, vp_updL, upd, he, if_true, and_self]
  · simp only [va_up, vp_updL, upd, he, if_false]
    exact hh
theorem TabM_up {np : Nat} {F : Nat → Int64} {G : Nat → Int32} {t : Tb} {p : Nat} {u : Nat × Nat} (h : TabM np F G t) : TabM np (vp_updL F p (lN u.1)) (upd G p (nI u.2)) (va_up t p (some u)) := by
  intro q hq
  have hh := h q hq
  by_cases he : q = p
  · simp only [va_up, vp_updL, upd, he, if_true, and_self]
  · simp only [va_up, vp_updL, upd, he, if_false]
    exact hh
/-- the numbers of a joint that is there -/
theorem ScV.jt {x : PD} (hV : ScV x) {j : Nat} (hj : j < cnj x) : rA x 7 j = nI (cfr x j) ∧ rA x 8 j = nI (cbh x j) ∧ rA x 9 j = nI (ctt x j) ∧ rA x 10 j = nI (ccs x j) ∧ cfr x j < cnp x ∧ ctt x j < cnp x ∧ cbh x j ≤ 64 ∧ ccs x j ≤ 99 ∧ rA x 4 (cfr x j) = nI (cbt x (cfr x j)) ∧ cbt x (cfr x j) ≤ 2400 ∧ j < 100 := by
  obtain ⟨-, h100, hp, hq, -, -⟩ := hV
  obtain ⟨h1, h2, -, h4, -, -, h7, h8, -, h10⟩ := hq j hj
  obtain ⟨-, -, -, k4, -⟩ := hp _ h2
  exact ⟨h1.1, h4.1, h7.1, h10.1, h2, h8, h4.2, h10.2, k4.1, k4.2, Nat.lt_of_lt_of_le hj h100.2⟩
theorem ScV.np {x : PD} (hV : ScV x) : rI x 37 = nI (cnp x) ∧ cnp x ≤ 20 := hV.1
theorem ScV.nj {x : PD} (hV : ScV x) : rI x 42 = nI (cnj x) ∧ cnj x ≤ 100 := hV.2.1
theorem timeTo_c {x : PD} {j f b t : Nat} (h7 : rA x 7 j = nI f) (h8 : rA x 8 j = nI b) (h4 : rA x 4 f = nI t) (hj : j < 100) (hf : f < 20) (hb : b ≤ 64) (ht : t ≤ 2400) : f_X2_timeTo x (nI j) = some (lN (b * t)) := by
  unfold f_X2_timeTo
  simp only [inR_nI hj (by decide), nI_clamp (show j < 2 ^ 31 by omega), h7, inR_nI hf (by decide), nI_clamp (show f < 2 ^ 31 by omega), h8, h4, gd_t, nI_l (show b < 2 ^ 31 by omega), nI_l (show t < 2 ^ 31 by omega), lN_mul]
/-- the class's sum of a joint's costs -/
theorem cst_c {a b c u m : Nat} (ha : a ≤ 24) (hb : b ≤ 99) (hc : c ≤ 99) : (lN u + (nI a * nI c).toInt64) + (nI b).toInt64 * lN m = lN (u + (a * c + b * m)) := by
  have h1 : a * c ≤ 24 * 99 := Nat.mul_le_mul ha hc
  rw [pk_mul, nI_l (by omega), nI_l (by omega), lN_add, lN_mul, lN_add, Nat.add_assoc]

theorem improve_41 (x0 : PD) (hV : ScV x0) {a b : Nat} (ha : a ≤ 24) (hb : b ≤ 99) : ∀ (n j : Nat) (F : Nat → Int64) (G : Nat → Int32) (t : Tb) (v4 : Int32) (K : Nat), cnj x0 - j < n → j ≤ cnj x0 → K + (cnj x0 - j) ≤ 3000 → TabR (cnp x0) F G t → bdT K t → (v4 = 0 ∨ v4 = 1) →
    ∃ F' G' t' f v', rxs (cfr x0) (ctt x0) (wgt x0 a b) j (cnj x0 - j) t t' f ∧ TabR (cnp x0) F' G' t' ∧ bdT (K + (cnj x0 - j)) t' ∧ f_X4_improve_41_1_b6 n (stT 42 43 x0 F G) (nI a) (nI b) v4 (nI j) = some (v', stT 42 43 x0 F' G') ∧ (v' = 1 ↔ (f ∨ v4 = 1)) ∧ (v' = 0 ∨ v' = 1) := by
  obtain ⟨enp, hnp⟩ := hV.np
  obtain ⟨enj, hnj⟩ := hV.nj
  intro n
  induction n with
  | zero => intro j F G t v4 K h; omega
  | succ n ih =>
    intro j F G t v4 K hn hj hK hT hB hv
    have e42 : rI (stT 42 43 x0 F G) 42 = nI (cnj x0) := enj
    rw [f_X4_improve_41_1_b6]
    by_cases hlt : j < cnj x0
    · have c1 : ¬ (rI (stT 42 43 x0 F G) 42) ≤ nI j := by rw [e42, nI_leI (by omega) (by omega)]; omega
      rw [if_neg c1]
      obtain ⟨h7, h8, h9, h10, hf, ht, hbh, hcs, h4, hbt, hj100⟩ := hV.jt hlt
      have r7 : rA (stT 42 43 x0 F G) 7 j = nI (cfr x0 j) := h7
      have r8 : rA (stT 42 43 x0 F G) 8 j = nI (cbh x0 j) := h8
      have r9 : rA (stT 42 43 x0 F G) 9 j = nI (ctt x0 j) := h9
      have r10 : rA (stT 42 43 x0 F G) 10 j = nI (ccs x0 j) := h10
      have r4 : rA (stT 42 43 x0 F G) 4 (cfr x0 j) = nI (cbt x0 (cfr x0 j)) := h4
      have rB' : rB (stT 42 43 x0 F G) 42 = F := rfl
      have rG' : rA (stT 42 43 x0 F G) 43 = G := rfl
      have tm := timeTo_c r7 r8 r4 hj100 (by omega) hbh hbt
      have tj : Int32.toNatClampNeg (nI j) = j := nI_clamp (by omega)
      have tf : Int32.toNatClampNeg (nI (cfr x0 j)) = cfr x0 j := nI_clamp (by omega)
      have tt' : Int32.toNatClampNeg (nI (ctt x0 j)) = ctt x0 j := nI_clamp (by omega)
      have ij : inR (nI j) 100 = true := inR_nI hj100 (by decide)
      have if' : inR (nI (cfr x0 j)) 20 = true := inR_nI (by omega) (by decide)
      have it' : inR (nI (ctt x0 j)) 20 = true := inR_nI (by omega) (by decide)
      have hsplit : cnj x0 - j = (cnj x0 - (j + 1)) + 1 := by omega
      have nj1 : nI j + 1 = nI (j + 1) := nI_1 j
      simp only [tj, ij, gd_t, r7, r9, r10, tf, tt', if', it', tm, bn1_s, rB', rG', lg_eq0, nj1]
      have hTt := hT (ctt x0 j) ht
      have hTf := hT (cfr x0 j) hf
      cases hto : t (ctt x0 j) with
      | none =>
        rw [hto] at hTt
        simp only at hTt
        rw [if_pos hTt]
        have hnc : ¬ chg (cfr x0) (ctt x0) (wgt x0 a b) t j := by
          rintro ⟨v, ho, -⟩
          unfold off at ho
          rw [hto] at ho
          cases ho
        obtain ⟨F', G', t', f, v', h1, h2, h3, h4', h5, h6⟩ := ih (j + 1) F G t v4 K (by omega) (by omega) (by omega) hT hB hv
        refine ⟨F', G', t', f, v', ?_, h2, bdT_mono h3 (by omega), h4', h5, h6⟩
        rw [hsplit]
        exact ⟨t, f, Or.inr ⟨hnc, rfl⟩, h1, by constructor; exact Or.inr; rintro (q | q); exact absurd q hnc; exact q⟩
      | some u =>
        rw [hto] at hTt
        simp only at hTt
        obtain ⟨hu1, hu2⟩ := hTt
        have hbu := hB _ _ hto
        have hWM : u.1 ≤ 3000 * WM := Nat.le_trans hbu.2 (Nat.mul_le_mul (by omega) (Nat.le_refl _))
        have hwj := wgt_le hV (a := a) (b := b) ha hb hlt
        unfold WM at hWM hwj
        have hm1 : ¬ F (ctt x0 j) = -1 := by rw [hu1]; exact lN_ne_m1 (by omega)
        rw [if_neg hm1]
        have hoff : off (ctt x0) (wgt x0 a b) t j = some (u.1 + wgt x0 a b j, u.2 + 1) := by unfold off; rw [hto]
        have ecst : (F (ctt x0 j) + (nI a * nI (ccs x0 j)).toInt64) + (nI b).toInt64 * lN (cbh x0 j * cbt x0 (cfr x0 j)) = lN (u.1 + wgt x0 a b j) := by rw [hu1]; exact cst_c ha hb hcs
        have est : G (ctt x0 j) + 1 = nI (u.2 + 1) := by rw [hu2]; exact nI_1 _
        simp only [ecst, est]
        obtain ⟨r, hr, hrr⟩ := isBetter_c (stT 42 43 x0 F G) (c1 := u.1 + wgt x0 a b j) (n1 := u.2 + 1) (F3 := F (cfr x0 j)) (G4 := G (cfr x0 j)) (o := t (cfr x0 j)) (by omega) (by omega) (by
          cases hfo : t (cfr x0 j) with
          | none => rw [hfo] at hTf; exact hTf
          | some w =>
            rw [hfo] at hTf
            have hbw := hB _ _ hfo
            have hWw : w.1 ≤ 3000 * WM := Nat.le_trans hbw.2 (Nat.mul_le_mul (by omega) (Nat.le_refl _))
            unfold WM at hWw
            exact ⟨hTf.1, hTf.2, by omega, by omega⟩)
        rw [hr, bn1_s]
        rcases hrr with ⟨hbt', rfl⟩ | ⟨hbt', rfl⟩
        · rw [if_neg (by decide)]
          have hch : chg (cfr x0) (ctt x0) (wgt x0 a b) t j := ⟨_, hoff, hbt'⟩
          have hrx : rx1 (cfr x0) (ctt x0) (wgt x0 a b) t j (va_up t (cfr x0 j) (some (u.1 + wgt x0 a b j, u.2 + 1))) := Or.inl ⟨hch, _, hoff, rfl⟩
          simp only [letv_e, rA_wB, rG', est, stT_stT]
          obtain ⟨F', G', t', f, v', h1, h2, h3, h4', h5, h6⟩ := ih (j + 1) (vp_updL F (cfr x0 j) (lN (u.1 + wgt x0 a b j))) (upd G (cfr x0 j) (nI (u.2 + 1))) (va_up t (cfr x0 j) (some (u.1 + wgt x0 a b j, u.2 + 1))) 1 (K + 1) (by omega) (by omega) (by omega) (TabR_up hT) (rx1_bd hrx (wgt_le hV ha hb hlt) hB) (Or.inr rfl)
          refine ⟨F', G', t', chg (cfr x0) (ctt x0) (wgt x0 a b) t j ∨ f, v', ?_, h2, bdT_mono h3 (by omega), h4', ?_, h6⟩
          · rw [hsplit]
            exact ⟨_, f, hrx, h1, Iff.rfl⟩
          · rw [h5]
            constructor
            · intro _; exact Or.inl (Or.inl hch)
            · intro _; exact Or.inr rfl
        · rw [if_pos rfl]
          have hnc : ¬ chg (cfr x0) (ctt x0) (wgt x0 a b) t j := by
            rintro ⟨v, ho, hbv⟩
            rw [hoff] at ho
            cases ho
            exact hbt' hbv
          obtain ⟨F', G', t', f, v', h1, h2, h3, h4', h5, h6⟩ := ih (j + 1) F G t v4 K (by omega) (by omega) (by omega) hT hB hv
          refine ⟨F', G', t', f, v', ?_, h2, bdT_mono h3 (by omega), h4', h5, h6⟩
          rw [hsplit]
          exact ⟨t, f, Or.inr ⟨hnc, rfl⟩, h1, by constructor; exact Or.inr; rintro (q | q); exact absurd q hnc; exact q⟩
    · have hje : j = cnj x0 := by omega
      have c1 : (rI (stT 42 43 x0 F G) 42) ≤ nI j := by rw [e42, nI_leI (by omega) (by omega)]; omega
      rw [if_pos c1]
      have e0 : cnj x0 - j = 0 := by omega
      have hB4 : isB v4 = true := by rcases hv with rfl | rfl <;> decide
      rw [hB4, gd_t, e0]
      exact ⟨F, G, t, False, v4, ⟨rfl, id⟩, hT, hB, rfl, by constructor; exact Or.inr; rintro (q | q); exact q.elim; exact q, hv⟩

theorem improve_37 (x0 : PD) (hV : ScV x0) {a b : Nat} (ha : a ≤ 24) (hb : b ≤ 99) : ∀ (n j : Nat) (F : Nat → Int64) (G : Nat → Int32) (t : Tb) (v4 : Int32) (K : Nat), cnj x0 - j < n → j ≤ cnj x0 → K + (cnj x0 - j) ≤ 3000 → TabR (cnp x0) F G t → bdT K t → (v4 = 0 ∨ v4 = 1) →
    ∃ F' G' t' f v', rxs (cfr x0) (ctt x0) (wgt x0 a b) j (cnj x0 - j) t t' f ∧ TabR (cnp x0) F' G' t' ∧ bdT (K + (cnj x0 - j)) t' ∧ f_X4_improve_37_1_b6 n (stT 38 39 x0 F G) (nI a) (nI b) v4 (nI j) = some (v', stT 38 39 x0 F' G') ∧ (v' = 1 ↔ (f ∨ v4 = 1)) ∧ (v' = 0 ∨ v' = 1) := by
  obtain ⟨enp, hnp⟩ := hV.np
  obtain ⟨enj, hnj⟩ := hV.nj
  intro n
  induction n with
  | zero => intro j F G t v4 K h; omega
  | succ n ih =>
    intro j F G t v4 K hn hj hK hT hB hv
    have e42 : rI (stT 38 39 x0 F G) 42 = nI (cnj x0) := enj
    rw [f_X4_improve_37_1_b6]
    by_cases hlt : j < cnj x0
    · have c1 : ¬ (rI (stT 38 39 x0 F G) 42) ≤ nI j := by rw [e42, nI_leI (by omega) (by omega)]; omega
      rw [if_neg c1]
      obtain ⟨h7, h8, h9, h10, hf, ht, hbh, hcs, h4, hbt, hj100⟩ := hV.jt hlt
      have r7 : rA (stT 38 39 x0 F G) 7 j = nI (cfr x0 j) := h7
      have r8 : rA (stT 38 39 x0 F G) 8 j = nI (cbh x0 j) := h8
      have r9 : rA (stT 38 39 x0 F G) 9 j = nI (ctt x0 j) := h9
      have r10 : rA (stT 38 39 x0 F G) 10 j = nI (ccs x0 j) := h10
      have r4 : rA (stT 38 39 x0 F G) 4 (cfr x0 j) = nI (cbt x0 (cfr x0 j)) := h4
      have rB' : rB (stT 38 39 x0 F G) 38 = F := rfl
      have rG' : rA (stT 38 39 x0 F G) 39 = G := rfl
      have tm := timeTo_c r7 r8 r4 hj100 (by omega) hbh hbt
      have tj : Int32.toNatClampNeg (nI j) = j := nI_clamp (by omega)
      have tf : Int32.toNatClampNeg (nI (cfr x0 j)) = cfr x0 j := nI_clamp (by omega)
      have tt' : Int32.toNatClampNeg (nI (ctt x0 j)) = ctt x0 j := nI_clamp (by omega)
      have ij : inR (nI j) 100 = true := inR_nI hj100 (by decide)
      have if' : inR (nI (cfr x0 j)) 20 = true := inR_nI (by omega) (by decide)
      have it' : inR (nI (ctt x0 j)) 20 = true := inR_nI (by omega) (by decide)
      have hsplit : cnj x0 - j = (cnj x0 - (j + 1)) + 1 := by omega
      have nj1 : nI j + 1 = nI (j + 1) := nI_1 j
      simp only [tj, ij, gd_t, r7, r9, r10, tf, tt', if', it', tm, bn1_s, rB', rG', lg_eq0, nj1]
      have hTt := hT (ctt x0 j) ht
      have hTf := hT (cfr x0 j) hf
      cases hto : t (ctt x0 j) with
      | none =>
        rw [hto] at hTt
        simp only at hTt
        rw [if_pos hTt]
        have hnc : ¬ chg (cfr x0) (ctt x0) (wgt x0 a b) t j := by
          rintro ⟨v, ho, -⟩
          unfold off at ho
          rw [hto] at ho
          cases ho
        obtain ⟨F', G', t', f, v', h1, h2, h3, h4', h5, h6⟩ := ih (j + 1) F G t v4 K (by omega) (by omega) (by omega) hT hB hv
        refine ⟨F', G', t', f, v', ?_, h2, bdT_mono h3 (by omega), h4', h5, h6⟩
        rw [hsplit]
        exact ⟨t, f, Or.inr ⟨hnc, rfl⟩, h1, by constructor; exact Or.inr; rintro (q | q); exact absurd q hnc; exact q⟩
      | some u =>
        rw [hto] at hTt
        simp only at hTt
        obtain ⟨hu1, hu2⟩ := hTt
        have hbu := hB _ _ hto
        have hWM : u.1 ≤ 3000 * WM := Nat.le_trans hbu.2 (Nat.mul_le_mul (by omega) (Nat.le_refl _))
        have hwj := wgt_le hV (a := a) (b := b) ha hb hlt
        unfold WM at hWM hwj
        have hm1 : ¬ F (ctt x0 j) = -1 := by rw [hu1]; exact lN_ne_m1 (by omega)
        rw [if_neg hm1]
        have hoff : off (ctt x0) (wgt x0 a b) t j = some (u.1 + wgt x0 a b j, u.2 + 1) := by unfold off; rw [hto]
        have ecst : (F (ctt x0 j) + (nI a * nI (ccs x0 j)).toInt64) + (nI b).toInt64 * lN (cbh x0 j * cbt x0 (cfr x0 j)) = lN (u.1 + wgt x0 a b j) := by rw [hu1]; exact cst_c ha hb hcs
        have est : G (ctt x0 j) + 1 = nI (u.2 + 1) := by rw [hu2]; exact nI_1 _
        simp only [ecst, est]
        obtain ⟨r, hr, hrr⟩ := isBetter_c (stT 38 39 x0 F G) (c1 := u.1 + wgt x0 a b j) (n1 := u.2 + 1) (F3 := F (cfr x0 j)) (G4 := G (cfr x0 j)) (o := t (cfr x0 j)) (by omega) (by omega) (by
          cases hfo : t (cfr x0 j) with
          | none => rw [hfo] at hTf; exact hTf
          | some w =>
            rw [hfo] at hTf
            have hbw := hB _ _ hfo
            have hWw : w.1 ≤ 3000 * WM := Nat.le_trans hbw.2 (Nat.mul_le_mul (by omega) (Nat.le_refl _))
            unfold WM at hWw
            exact ⟨hTf.1, hTf.2, by omega, by omega⟩)
        rw [hr, bn1_s]
        rcases hrr with ⟨hbt', rfl⟩ | ⟨hbt', rfl⟩
        · rw [if_neg (by decide)]
          have hch : chg (cfr x0) (ctt x0) (wgt x0 a b) t j := ⟨_, hoff, hbt'⟩
          have hrx : rx1 (cfr x0) (ctt x0) (wgt x0 a b) t j (va_up t (cfr x0 j) (some (u.1 + wgt x0 a b j, u.2 + 1))) := Or.inl ⟨hch, _, hoff, rfl⟩
          simp only [letv_e, rA_wB, rG', est, stT_stT]
          obtain ⟨F', G', t', f, v', h1, h2, h3, h4', h5, h6⟩ := ih (j + 1) (vp_updL F (cfr x0 j) (lN (u.1 + wgt x0 a b j))) (upd G (cfr x0 j) (nI (u.2 + 1))) (va_up t (cfr x0 j) (some (u.1 + wgt x0 a b j, u.2 + 1))) 1 (K + 1) (by omega) (by omega) (by omega) (TabR_up hT) (rx1_bd hrx (wgt_le hV ha hb hlt) hB) (Or.inr rfl)
          refine ⟨F', G', t', chg (cfr x0) (ctt x0) (wgt x0 a b) t j ∨ f, v', ?_, h2, bdT_mono h3 (by omega), h4', ?_, h6⟩
          · rw [hsplit]
            exact ⟨_, f, hrx, h1, Iff.rfl⟩
          · rw [h5]
            constructor
            · intro _; exact Or.inl (Or.inl hch)
            · intro _; exact Or.inr rfl
        · rw [if_pos rfl]
          have hnc : ¬ chg (cfr x0) (ctt x0) (wgt x0 a b) t j := by
            rintro ⟨v, ho, hbv⟩
            rw [hoff] at ho
            cases ho
            exact hbt' hbv
          obtain ⟨F', G', t', f, v', h1, h2, h3, h4', h5, h6⟩ := ih (j + 1) F G t v4 K (by omega) (by omega) (by omega) hT hB hv
          refine ⟨F', G', t', f, v', ?_, h2, bdT_mono h3 (by omega), h4', h5, h6⟩
          rw [hsplit]
          exact ⟨t, f, Or.inr ⟨hnc, rfl⟩, h1, by constructor; exact Or.inr; rintro (q | q); exact absurd q hnc; exact q⟩
    · have hje : j = cnj x0 := by omega
      have c1 : (rI (stT 38 39 x0 F G) 42) ≤ nI j := by rw [e42, nI_leI (by omega) (by omega)]; omega
      rw [if_pos c1]
      have e0 : cnj x0 - j = 0 := by omega
      have hB4 : isB v4 = true := by rcases hv with rfl | rfl <;> decide
      rw [hB4, gd_t, e0]
      exact ⟨F, G, t, False, v4, ⟨rfl, id⟩, hT, hB, rfl, by constructor; exact Or.inr; rintro (q | q); exact q.elim; exact q, hv⟩
