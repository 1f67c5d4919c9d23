/-! ===== PURE: the model's tables ===== -/
theorem SEq.jt {x z : PD} (hS : SEq x z) (hV : ScV x) {j : Nat} (hj : j < cnj x) : rA z 6 j = nI (cfr x j) ∧ rA z 7 j = nI (cbh x j) ∧ rA z 8 j = nI (ctt x j) ∧ rA z 9 j = nI (ccs x j) ∧ rA z 3 (cfr x j) = nI (cbt x (cfr x j)) := by
  obtain ⟨-, -, -, -, e3, -, -, e6, e7, e8, e9, -⟩ := hS
  obtain ⟨h7, h8, h9, h10, -, -, -, -, h4, -⟩ := hV.jt hj
  exact ⟨by rw [e6]; exact h7, by rw [e7]; exact h8, by rw [e8]; exact h9, by rw [e9]; exact h10, by rw [e3]; exact h4⟩
theorem SEq.np {x z : PD} (hS : SEq x z) (hV : ScV x) : rI z 1 = nI (cnp x) := by rw [hS.1]; exact hV.np.1
theorem SEq.nj {x z : PD} (hS : SEq x z) (hV : ScV x) : rI z 2 = nI (cnj x) := by rw [hS.2.1]; exact hV.nj.1
theorem SEq.pL {x z : PD} (hS : SEq x z) (hV : ScV x) : rA z 10 1 = nI (cpL x) ∧ cpL x ≤ 99 := by rw [hS.2.2.2.2.2.2.2.2.2.2.2]; exact hV.2.2.2.2.2
theorem SEq.pA {x z : PD} (hS : SEq x z) (hV : ScV x) : rA z 10 0 = nI (cpA x) ∧ cpA x ≤ 99 := by rw [hS.2.2.2.2.2.2.2.2.2.2.2]; exact hV.2.2.2.2.1
/-- the model's two ways to reckon: v2 = 0 by costs, else by time alone -/
def wA' (x : PD) (v2 : Int32) : Nat := if v2 = 0 then 24 else 0
def wB' (x : PD) (v2 : Int32) : Nat := if v2 = 0 then cpL x else 1
theorem lit24 : (24 : Int64) = lN 24 := by decide
theorem inner_m (x z : PD) (hV : ScV x) (hS : SEq x z) (v2 : Int32) {a b : Nat} (hab : (v2 = 0 ∧ a = 24 ∧ b = cpL x) ∨ (¬ v2 = 0 ∧ a = 0 ∧ b = 1)) (k : PD → Int32 → Int32 → Option PD) : ∀ (n j : Nat) (F : Nat → Int64) (G : Nat → Int32) (t : Tb) (v3 : Int32) (K : Nat), cnj x - j < n → j ≤ cnj x → K + (cnj x - j) ≤ 3000 → TabM (cnp x) F G t → bdT K t → (v3 = 0 ∨ v3 = 1) →
    ∃ F' G' t' f v', rxs (cfr x) (ctt x) (wgt x a b) j (cnj x - j) t t' f ∧ TabM (cnp x) F' G' t' ∧ bdT (K + (cnj x - j)) t' ∧ f_X6_reckons_b56 k n (stT 20 21 z F G) v2 v3 (nI j) = k (stT 20 21 z F' G') v2 v' ∧ (v' = 1 ↔ (f ∨ v3 = 1)) ∧ (v' = 0 ∨ v' = 1) := by
  obtain ⟨enp, hnp⟩ := hV.np
  obtain ⟨enj, hnj⟩ := hV.nj
  have hpl := hS.pL hV
  have ha : a ≤ 24 := by rcases hab with ⟨-, h, -⟩ | ⟨-, h, -⟩ <;> omega
  have hb : b ≤ 99 := by rcases hab with ⟨-, -, h⟩ | ⟨-, -, h⟩ <;> omega
  intro n
  induction n with
  | zero => intro j F G t v3 K h; omega
  | succ n ih =>
    intro j F G t v3 K hn hj hK hT hB hv
    have e42 : rI (stT 20 21 z F G) 2 = nI (cnj x) := hS.nj hV
    rw [f_X6_reckons_b56]
    by_cases hlt : j < cnj x
    · have c1 : ¬ (rI (stT 20 21 z F G) 2) ≤ nI j := by rw [e42, nI_leI (by omega) (by omega)]; omega
      rw [if_neg c1]
      obtain ⟨-, -, -, -, hf, ht, hbh, hcs, -, hbt, hj100⟩ := hV.jt hlt
      obtain ⟨h6, h7, h8, h9, h3⟩ := hS.jt hV hlt
      have r6 : rA (stT 20 21 z F G) 6 j = nI (cfr x j) := h6
      have r7 : rA (stT 20 21 z F G) 7 j = nI (cbh x j) := h7
      have r8 : rA (stT 20 21 z F G) 8 j = nI (ctt x j) := h8
      have r9 : rA (stT 20 21 z F G) 9 j = nI (ccs x j) := h9
      have r3 : rA (stT 20 21 z F G) 3 (cfr x j) = nI (cbt x (cfr x j)) := h3
      have r10 : rA (stT 20 21 z F G) 10 (Int32.toNatClampNeg 1) = nI (cpL x) := hpl.1
      have rB' : rB (stT 20 21 z F G) 20 = F := rfl
      have rG' : rA (stT 20 21 z F G) 21 = G := rfl
      have tj : Int32.toNatClampNeg (nI j) = j := nI_clamp (by omega)
      have tf : Int32.toNatClampNeg (nI (cfr x j)) = cfr x j := nI_clamp (by omega)
      have tt' : Int32.toNatClampNeg (nI (ctt x j)) = ctt x j := nI_clamp (by omega)
      have ij : inR (nI j) 100 = true := inR_nI hj100 (by decide)
      have if' : inR (nI (cfr x j)) 20 = true := inR_nI (by omega) (by decide)
      have it' : inR (nI (ctt x j)) 20 = true := inR_nI (by omega) (by decide)
      have hsplit : cnj x - j = (cnj x - (j + 1)) + 1 := by omega
      have nj1 : nI j + 1 = nI (j + 1) := nI_1 j
      have hbb : cbh x j * cbt x (cfr x j) ≤ 64 * 2400 := Nat.mul_le_mul hbh hbt
      have hTt := hT (ctt x j) ht
      have hTf := hT (cfr x j) hf
      simp only [tj, ij, gd_t, r6, r8, tf, tt', if', it', rB', lg_lt0, nj1]
      cases hto : t (ctt x j) with
      | none =>
        rw [hto] at hTt
        simp only at hTt
        rw [if_neg (by rw [hTt]; decide)]
        have hnc : ¬ chg (cfr x) (ctt x) (wgt x a b) t j := by
          rintro ⟨v, ho, -⟩
          unfold off at ho
          rw [hto] at ho
          cases ho
        obtain ⟨F', G', t', f, v', h1, h2, h3, h4', h5, h6⟩ := ih (j + 1) F G t v3 K (by omega) (by omega) (by omega) hT hB hv
        refine ⟨F', G', t', f, v', ?_, h2, bdT_mono h3 (by omega), h4', h5, h6⟩
        rw [hsplit]
        exact ⟨t, f, Or.inr ⟨hnc, rfl⟩, h1, by constructor; exact Or.inr; rintro (q | q); exact absurd q hnc; exact q⟩
      | some u =>
        rw [hto] at hTt
        simp only at hTt
        obtain ⟨hu1, hu2⟩ := hTt
        have hbu := hB _ _ hto
        have hWM : u.1 ≤ 3000 * WM := Nat.le_trans hbu.2 (Nat.mul_le_mul (by omega) (Nat.le_refl _))
        have hwj := wgt_le hV (a := a) (b := b) ha hb hlt
        unfold WM at hWM hwj
        have hFar : (1000000000000 : Int64) = lN 1000000000000 := by decide
        have hltF : F (ctt x j) < 1000000000000 := by rw [hu1, hFar, pk_lLT (by omega) (by omega)]; omega
        rw [if_pos hltF]
        have hoff : off (ctt x) (wgt x a b) t j = some (u.1 + wgt x a b j, u.2 + 1) := by unfold off; rw [hto]
        -- both ways come to the same block
        have goal1 : (if v2 = 0 then
            (gd (inR (nI j) 100) ((f_X6_reckons_b159 k (f_X6_reckons_b56 k n) (stT 20 21 z F G) v2 v3 (nI j) (nI (cfr x j)) (((24 : Int64) * (Int32.toInt64 (rA (stT 20 21 z F G) 9 j))) + ((Int32.toInt64 (rA (stT 20 21 z F G) 10 (Int32.toNatClampNeg ((1 : Int32))))) * ((Int32.toInt64 (rA (stT 20 21 z F G) 7 j)) * (Int32.toInt64 (rA (stT 20 21 z F G) 3 (cfr x j)))))) (F (ctt x j)))))
            else (f_X6_reckons_b159 k (f_X6_reckons_b56 k n) (stT 20 21 z F G) v2 v3 (nI j) (nI (cfr x j)) ((Int32.toInt64 (rA (stT 20 21 z F G) 7 j)) * (Int32.toInt64 (rA (stT 20 21 z F G) 3 (cfr x j)))) (F (ctt x j)))) = f_X6_reckons_b159 k (f_X6_reckons_b56 k n) (stT 20 21 z F G) v2 v3 (nI j) (nI (cfr x j)) (lN (wgt x a b j)) (lN u.1) := by
          rw [r7, r3, r9, r10, hu1]
          have em : (Int32.toInt64 (nI (cbh x j))) * (Int32.toInt64 (nI (cbt x (cfr x j)))) = lN (cbh x j * cbt x (cfr x j)) := by rw [nI_l (by omega), nI_l (by omega), lN_mul]
          rcases hab with ⟨e1, e2, e3⟩ | ⟨e1, e2, e3⟩
          · rw [if_pos e1, ij, gd_t, em, lit24, nI_l (show ccs x j < 2 ^ 31 by omega), nI_l (show cpL x < 2 ^ 31 by omega), lN_mul, lN_mul, lN_add]
            unfold wgt
            rw [e2, e3]
          · rw [if_neg e1, em]
            unfold wgt
            rw [e2, e3, Nat.zero_mul, Nat.zero_add, Nat.one_mul]
        simp only [ij, gd_t] at goal1
        rw [goal1]
        unfold f_X6_reckons_b159
        have esum : lN u.1 + lN (wgt x a b j) = lN (u.1 + wgt x a b j) := lN_add _ _
        have est : G (ctt x j) + 1 = nI (u.2 + 1) := by rw [hu2]; exact nI_1 _
        simp only [tj, ij, gd_t, r8, tf, tt', if', it', rB', rG', lg_gt0, lg_eq0, esum, est, nj1]
        have skip : ¬ chg (cfr x) (ctt x) (wgt x a b) t j → ∃ F' G' t' f v', rxs (cfr x) (ctt x) (wgt x a b) j (cnj x - j) t t' f ∧ TabM (cnp x) F' G' t' ∧ bdT (K + (cnj x - j)) t' ∧ f_X6_reckons_b56 k n (stT 20 21 z F G) v2 v3 (nI (j + 1)) = k (stT 20 21 z F' G') v2 v' ∧ (v' = 1 ↔ (f ∨ v3 = 1)) ∧ (v' = 0 ∨ v' = 1) := by
          intro hnc
          obtain ⟨F', G', t', f, v', h1, h2, h3, h4', h5, h6⟩ := ih (j + 1) F G t v3 K (by omega) (by omega) (by omega) hT hB hv
          refine ⟨F', G', t', f, v', ?_, h2, bdT_mono h3 (by omega), h4', h5, h6⟩
          rw [hsplit]
          exact ⟨t, f, Or.inr ⟨hnc, rfl⟩, h1, by constructor; exact Or.inr; rintro (q | q); exact absurd q hnc; exact q⟩
        have take : btr (u.1 + wgt x a b j, u.2 + 1) (t (cfr x j)) → ∃ F' G' t' f v', rxs (cfr x) (ctt x) (wgt x a b) j (cnj x - j) t t' f ∧ TabM (cnp x) F' G' t' ∧ bdT (K + (cnj x - j)) t' ∧ f_X6_reckons_b219 k (f_X6_reckons_b56 k n) (stT 20 21 z F G) v2 (nI j) (nI (cfr x j)) (lN (u.1 + wgt x a b j)) (nI (u.2 + 1)) = k (stT 20 21 z F' G') v2 v' ∧ (v' = 1 ↔ (f ∨ v3 = 1)) ∧ (v' = 0 ∨ v' = 1) := by
          intro hbt'
          have hch : chg (cfr x) (ctt x) (wgt x a b) t j := ⟨_, hoff, hbt'⟩
          have hrx : rx1 (cfr x) (ctt x) (wgt x a b) t j (va_up t (cfr x j) (some (u.1 + wgt x a b j, u.2 + 1))) := Or.inl ⟨hch, _, hoff, rfl⟩
          unfold f_X6_reckons_b219
          simp only [if', gd_t, letv_e, rA_wB, rB', rG', tf, stT_stT, nj1]
          obtain ⟨F', G', t', f, v', h1, h2, h3, h4', h5, h6⟩ := ih (j + 1) (vp_updL F (cfr x j) (lN (u.1 + wgt x a b j))) (upd G (cfr x j) (nI (u.2 + 1))) (va_up t (cfr x j) (some (u.1 + wgt x a b j, u.2 + 1))) 1 (K + 1) (by omega) (by omega) (by omega) (TabM_up hT) (rx1_bd hrx (wgt_le hV ha hb hlt) hB) (Or.inr rfl)
          refine ⟨F', G', t', chg (cfr x) (ctt x) (wgt x a b) t j ∨ f, v', ?_, h2, bdT_mono h3 (by omega), h4', ?_, h6⟩
          · rw [hsplit]
            exact ⟨_, f, hrx, h1, Iff.rfl⟩
          · rw [h5]
            constructor
            · intro _; exact Or.inl (Or.inl hch)
            · intro _; exact Or.inr rfl
        cases hfo : t (cfr x j) with
        | none =>
          rw [hfo] at hTf
          simp only at hTf
          have hlt2 : ¬ F (cfr x j) < lN (u.1 + wgt x a b j) := by rw [hTf, hFar, pk_lLT (by omega) (by omega)]; omega
          have hne2 : ¬ lN (u.1 + wgt x a b j) = F (cfr x j) := by rw [hTf, hFar, pk_lEQ (by omega) (by omega)]; omega
          rw [if_neg hlt2, if_neg hne2]
          exact take (by rw [hfo]; trivial)
        | some w =>
          rw [hfo] at hTf
          simp only at hTf
          obtain ⟨hw1, hw2⟩ := hTf
          have hbw := hB _ _ hfo
          have hWw : w.1 ≤ 3000 * WM := Nat.le_trans hbw.2 (Nat.mul_le_mul (by omega) (Nat.le_refl _))
          unfold WM at hWw
          have e1 : (F (cfr x j) < lN (u.1 + wgt x a b j)) = (w.1 < u.1 + wgt x a b j) := by rw [hw1]; exact propext (pk_lLT (by omega) (by omega))
          have e2 : (lN (u.1 + wgt x a b j) = F (cfr x j)) = (u.1 + wgt x a b j = w.1) := by rw [hw1]; exact propext (pk_lEQ (by omega) (by omega))
          have e3 : (nI (u.2 + 1) < G (cfr x j)) = (u.2 + 1 < w.2) := by rw [hw2]; exact propext (nI_ltI (by omega) (by omega))
          simp only [e1, e2, e3]
          have nob : ¬ btr (u.1 + wgt x a b j, u.2 + 1) (t (cfr x j)) → ¬ chg (cfr x) (ctt x) (wgt x a b) t j := by
            rintro hnb ⟨v, ho, hbv⟩
            rw [hoff] at ho
            cases ho
            exact hnb hbv
          by_cases a1 : w.1 < u.1 + wgt x a b j
          · rw [if_pos a1]
            exact skip (nob (by rw [hfo]; unfold btr ltb; simp only; omega))
          · rw [if_neg a1]
            by_cases a2 : u.1 + wgt x a b j = w.1
            · rw [if_pos a2]
              by_cases a3 : u.2 + 1 < w.2
              · rw [if_pos a3]
                exact take (by rw [hfo]; exact Or.inr ⟨a2, a3⟩)
              · rw [if_neg a3]
                exact skip (nob (by rw [hfo]; unfold btr ltb; simp only; omega))
            · rw [if_neg a2]
              exact take (by rw [hfo]; exact Or.inl (by simp only; omega))
    · have c1 : (rI (stT 20 21 z F G) 2) ≤ nI j := by rw [e42, nI_leI (by omega) (by omega)]; omega
      rw [if_pos c1]
      have e0 : cnj x - j = 0 := by omega
      rw [e0]
      exact ⟨F, G, t, False, v3, ⟨rfl, id⟩, hT, hB, rfl, by constructor; exact Or.inr; rintro (q | q); exact q.elim; exact q, hv⟩
theorem outer_m (x z : PD) (hV : ScV x) (hS : SEq x z) (v2 : Int32) {a b m : Nat} (hab : (v2 = 0 ∧ a = 24 ∧ b = cpL x) ∨ (¬ v2 = 0 ∧ a = 0 ∧ b = 1)) : ∀ (n r : Nat) (F : Nat → Int64) (G : Nat → Int32) (t : Tb) (v3 : Int32), cnp x + 1 - r < n → (v3 = 0 ∨ v3 = 1) → (v3 = 1 → r ≤ cnp x) → r ≤ cnp x + 1 → TabM (cnp x) F G t → bdT (100 * r) t → snd_ (cfr x) (ctt x) (wgt x a b) (cnj x) (hasM x m) t → cpl (cfr x) (ctt x) (wgt x a b) (cnj x) (hasM x m) r t → (v3 = 0 → ∀ j, j < cnj x → ¬ chg (cfr x) (ctt x) (wgt x a b) t j) →
    ∃ F' G' t', f_X6_reckons_b47 n (stT 20 21 z F G) v2 v3 = some (stT 20 21 z F' G') ∧ TabM (cnp x) F' G' t' ∧ bdT 3000 t' ∧ FinT x a b m t' := by
  obtain ⟨enp, hnp⟩ := hV.np
  obtain ⟨enj, hnj⟩ := hV.nj
  intro n
  induction n with
  | zero => intro r F G t v3 h; omega
  | succ n ih =>
    intro r F G t v3 hn hv hv1 hr hT hB hs hc hv0
    rw [f_X6_reckons_b47]
    by_cases h0 : v3 = 0
    · rw [if_pos h0]
      exact ⟨F, G, t, rfl, hT, bdT_mono hB (by omega), hs, nochg_all hV.tt (fun p hp => hc 0 p 0 (Nat.zero_le _) ⟨fun _ => p, fun _ => 0, rfl, rfl, rfl, hp, fun i hi => by omega⟩) (hv0 h0)⟩
    · rw [if_neg h0]
      have h1' : v3 = 1 := by rcases hv with h | h; exact absurd h h0; exact h
      have hrn := hv1 h1'
      obtain ⟨F', G', t', f, v', h1, h2, h3, h4, h5, h6⟩ := inner_m x z hV hS v2 hab (f_X6_reckons_b47 n) FU 0 F G t 0 (100 * r) (by unfold FU; omega) (Nat.zero_le _) (by omega) hT hB (Or.inl rfl)
      have e9 : f_X6_reckons_b56 (f_X6_reckons_b47 n) FU (stT 20 21 z F G) v2 0 0 = f_X6_reckons_b47 n (stT 20 21 z F' G') v2 v' := h4
      rw [e9]
      have h1'' : rxs (cfr x) (ctt x) (wgt x a b) 0 (cnj x) t t' f := h1
      refine ih (r + 1) F' G' t' v' (by omega) h6 ?_ (by omega) h2 (bdT_mono h3 (by omega)) (rxs_snd _ _ _ _ _ _ _ _ _ _ (by omega) h1'' hs) (rxs_cpl _ _ _ _ _ h1'' hc) ?_
      · intro hv'1
        have hf : f := by
          rcases h5.mp hv'1 with q | q
          · exact q
          · exact absurd q (by decide)
        rcases Nat.lt_or_ge r (cnp x) with q | q
        · omega
        · have hre : r = cnp x := by omega
          rw [hre] at hc
          have hall := cpl_all _ _ _ _ _ _ hV.tt hc
          exact absurd hf (all_stay _ _ _ _ _ _ _ _ _ (by omega) (fun j hj => all_nochg _ _ _ _ _ _ hV.fr hs hall hj) h1'').2
      · intro hv'0
        have hnf : ¬ f := by
          intro hf
          have := h5.mpr (Or.inl hf)
          rw [hv'0] at this
          exact absurd this (by decide)
        obtain ⟨q1, q2⟩ := nof_nochg _ _ _ _ _ _ _ _ h1'' hnf
        rw [q1]
        exact fun j hj => q2 j (Nat.zero_le _) (by omega)
theorem reckons_m (x z : PD) (hV : ScV x) (hS : SEq x z) (v2 : Int32) {a b m : Nat} (hab : (v2 = 0 ∧ a = 24 ∧ b = cpL x) ∨ (¬ v2 = 0 ∧ a = 0 ∧ b = 1)) (hm : m ≤ 7) : ∃ F' G' t', f_X6_reckons z (nI m) v2 = some (stT 20 21 z F' G') ∧ TabM (cnp x) F' G' t' ∧ bdT 3000 t' ∧ FinT x a b m t' := by
  obtain ⟨enp, hnp⟩ := hV.np
  have main : ∀ (n p : Nat) (F : Nat → Int64) (G : Nat → Int32), cnp x - p < n → p ≤ cnp x → TabM p F G (tIni x m p) → ∃ F' G' t', f_X6_reckons_b2 n (stT 20 21 z F G) (nI m) v2 (nI p) = some (stT 20 21 z F' G') ∧ TabM (cnp x) F' G' t' ∧ bdT 3000 t' ∧ FinT x a b m t' := by
    intro n
    induction n with
    | zero => intro p F G h; omega
    | succ n ih =>
      intro p F G hn hp hT
      have e37 : rI (stT 20 21 z F G) 1 = nI (cnp x) := hS.np hV
      rw [f_X6_reckons_b2]
      by_cases hlt : p < cnp x
      · have c1 : ¬ (rI (stT 20 21 z F G) 1) ≤ nI p := by rw [e37, nI_leI (by omega) (by omega)]; omega
        rw [if_neg c1]
        have hm1 : f_X6_has (stT 20 21 z F G) (nI p) (nI m) = some (if mbit x m p = 0 then 0 else 1) := has_m (z := stT 20 21 z F G) hS (by omega) hm
        rw [hm1, bn1_s]
        have stp : ∀ (v : Int64) (o : Option (Nat × Nat)), (match o with | none => v = 1000000000000 | some u => v = lN u.1 ∧ nI 0 = nI u.2) → tIni x m (p + 1) p = o → ∃ F' G' t', f_X6_reckons_b31 (f_X6_reckons_b2 n) (stT 20 21 z F G) (nI m) v2 (nI p) v (nI p) = some (stT 20 21 z F' G') ∧ TabM (cnp x) F' G' t' ∧ bdT 3000 t' ∧ FinT x a b m t' := by
          intro v o ho hto
          unfold f_X6_reckons_b31
          have rB' : rB (stT 20 21 z F G) 20 = F := rfl
          have rG' : rA (stT 20 21 z F G) 21 = G := rfl
          simp only [inR_nI (show p < 20 by omega) (by decide), gd_t, letv_e, rA_wB, rB', rG', nI_clamp (show p < 2 ^ 31 by omega), stT_stT, nI_1]
          refine ih (p + 1) _ _ (by omega) (by omega) ?_
          intro q hq
          by_cases he : q = p
          · subst he
            rw [hto]
            cases o with
            | none => simp only [vp_updL, if_true]; exact ho
            | some u => simp only [vp_updL, upd, if_true]; exact ho
          · have hT1 := hT q (by omega)
            have e1 : tIni x m (p + 1) q = tIni x m p q := by
              unfold tIni
              rw [if_pos hq, if_pos (show q < p by omega)]
            rw [e1]
            simp only [vp_updL, upd, he, if_false]
            exact hT1
        by_cases hb0 : mbit x m p = 0
        · rw [if_pos hb0, if_pos rfl]
          exact stp 1000000000000 none rfl (by unfold tIni; rw [if_pos (Nat.lt_succ_self p), if_pos hb0])
        · rw [if_neg hb0, if_neg (by decide)]
          exact stp 0 (some (0, 0)) ⟨rfl, rfl⟩ (by unfold tIni; rw [if_pos (Nat.lt_succ_self p), if_neg hb0])
      · have c1 : (rI (stT 20 21 z F G) 1) ≤ nI p := by rw [e37, nI_leI (by omega) (by omega)]; omega
        rw [if_pos c1]
        have hpe : p = cnp x := by omega
        rw [hpe] at hT
        exact outer_m x z hV hS v2 hab FU 0 F G _ 1 (by unfold FU; omega) (Or.inr rfl) (fun _ => Nat.zero_le _) (Nat.zero_le _) hT (tIni_bd _ _ _) (tIni_snd _ _ _ _) (tIni_cpl _ _ _ _) (fun h => absurd h (by decide))
  have h := main FU 0 (rB z 20) (rA z 21) (by unfold FU; omega) (Nat.zero_le _) (fun p hp => by omega)
  rw [stT_self] at h
  exact h
