/-! ===== PURE: now, level, log, layer, sting ===== -/
def S32 (f : Nat → Int32) : Nat → Nat → Int32
  | 0, _ => 0
  | n + 1, i => f i + S32 f n (i + 1)
theorem S32_add (f : Nat → Int32) : ∀ (a b i : Nat), S32 f (a + b) i = S32 f a i + S32 f b (i + a) := by
  intro a
  induction a with
  | zero => intro b i; rw [Nat.zero_add, S32, Nat.add_zero]; simp
  | succ a ih =>
    intro b i
    have e : a + 1 + b = (a + b) + 1 := by omega
    rw [e, S32, S32, ih, Int32.add_assoc]
    have e2 : i + 1 + a = i + (a + 1) := by omega
    rw [e2]
theorem S32_zero (f : Nat → Int32) : ∀ (a i : Nat), (∀ j, i ≤ j → j < i + a → f j = 0) → S32 f a i = 0 := by
  intro a
  induction a with
  | zero => intro i _; rfl
  | succ a ih =>
    intro i h
    rw [S32, h i (by omega) (by omega), ih (i + 1) (fun j h1 h2 => h j (by omega) (by omega))]
    decide
theorem S32_cong (f g : Nat → Int32) : ∀ (a i : Nat), (∀ j, i ≤ j → j < i + a → f j = g j) → S32 f a i = S32 g a i := by
  intro a
  induction a with
  | zero => intro i _; rfl
  | succ a ih =>
    intro i h
    rw [S32, S32, h i (by omega) (by omega), ih (i + 1) (fun j h1 h2 => h j (by omega) (by omega))]
theorem S32_upd (f : Nat → Int32) (v : Nat) (r : Int32) : ∀ (a i : Nat), i ≤ v → v < i + a → S32 (upd f v (f v + r)) a i = S32 f a i + r := by
  intro a
  induction a with
  | zero => intro i h1 h2; omega
  | succ a ih =>
    intro i h1 h2
    rw [S32, S32]
    by_cases he : v = i
    · subst he
      rw [upd_eq, S32_cong (upd f v (f v + r)) f a (v + 1) (fun j h1 h2 => upd_ne (by omega)), Int32.add_assoc, Int32.add_comm r, Int32.add_assoc]
    · rw [upd_ne (by omega), ih (i + 1) (by omega) (by omega), Int32.add_assoc]
theorem levT_c (x : PD) : f_X3_levelsTogether x = some (S32 (rA x 14) 20 0) := by
  have main : ∀ (n i : Nat) (acc : Int32), 20 - i < n → i ≤ 20 → f_X3_levelsTogether_b4 x n acc (nI i) = some (acc + S32 (rA x 14) (20 - i) i) := by
    intro n
    induction n with
    | zero => intro i acc h; omega
    | succ n ih =>
      intro i acc hn hi
      have e20 : (20 : Int32) = nI 20 := by decide
      rw [f_X3_levelsTogether_b4, e20]
      by_cases hlt : i < 20
      · rw [if_neg (by rw [nI_leI (by omega) (by omega)]; omega), inR_nI hlt (by decide), gd_t, nI_clamp (by omega), nI_1, ih (i + 1) _ (by omega) (by omega)]
        have e : 20 - i = (20 - (i + 1)) + 1 := by omega
        rw [e, S32, Int32.add_assoc]
      · rw [if_pos (by rw [nI_leI (by omega) (by omega)]; omega)]
        have e : 20 - i = 0 := by omega
        rw [e, S32]
        simp
  have := main FU 0 0 (by unfold FU; omega) (by omega)
  have e0 : f_X3_levelsTogether x = f_X3_levelsTogether_b4 x FU 0 (nI 0) := rfl
  rw [e0, this]
  simp
theorem lev_m {x z : PD} (hV : ScV x) (hS : SEq x z) : f_X6_levels z = some (S32 (fun p => gt z (36 + p)) (cnp x) 0) := by
  have hnp := hV.np.2
  have main : ∀ (n i : Nat) (acc : Int32), cnp x - i < n → i ≤ cnp x → f_X6_levels_b4 z n acc (nI i) = some (acc + S32 (fun p => gt z (36 + p)) (cnp x - i) i) := by
    intro n
    induction n with
    | zero => intro i acc h; omega
    | succ n ih =>
      intro i acc hn hi
      rw [f_X6_levels_b4, hS.np hV]
      by_cases hlt : i < cnp x
      · have e36 : (36 : Int32) + nI i = nI (36 + i) := nI_add 36 i
        rw [if_neg (by rw [nI_leI (by omega) (by omega)]; omega), e36, get_m (by omega), bn1_s, nI_1, ih (i + 1) _ (by omega) (by omega)]
        have e : cnp x - i = (cnp x - (i + 1)) + 1 := by omega
        rw [e, S32, Int32.add_assoc]
      · rw [if_pos (by rw [nI_leI (by omega) (by omega)]; omega)]
        have e : cnp x - i = 0 := by omega
        rw [e, S32]
        simp
  have := main FU 0 0 (by unfold FU; omega) (by omega)
  have e0 : f_X6_levels z = f_X6_levels_b4 z FU 0 (nI 0) := rfl
  rw [e0, this]
  simp
/-- both sums of levels agree -/
theorem lev_both {x z : PD} {B : Nat} (hV : ScV x) (hX : LvX x B) (hR : LvR x z) : S32 (fun p => gt z (36 + p)) (cnp x) 0 = S32 (rA x 14) 20 0 := by
  have hnp := hV.np.2
  have h0 : ∀ p, cnp x ≤ p → p < 20 → rA x 14 p = 0 := by
    obtain ⟨T, -, -, -, -, -, -, -, h⟩ := hX
    exact h
  have hl : ∀ p, p < 20 → gt z (36 + p) = rA x 14 p := hR.2.2.2.2.2.2.2.2.2.1
  have e : 20 = cnp x + (20 - cnp x) := by omega
  rw [e, S32_add, S32_zero (rA x 14) (20 - cnp x) (0 + cnp x) (fun j h1 h2 => h0 j (by omega) (by omega)), S32_cong (fun p => gt z (36 + p)) (rA x 14) (cnp x) 0 (fun j h1 h2 => hl j (by omega))]
  simp
theorem op_now : Op_now Rel := by
  intro c x z p1 hc hRel
  have hV := hRel.1.1
  have hS := hRel.1.2.1
  have hX := hRel.1.2.2.1
  have hR := hRel.1.2.2.2.1
  have hL := hRel.1.2.2.2.2.1
  have l0 : (0 : Int32).toInt = 0 := by decide
  have l1 : (1 : Int32).toInt = 1 := by decide
  have l2 : (2 : Int32).toInt = 2 := by decide
  have l3 : (3 : Int32).toInt = 3 := by decide
  have l4 : (4 : Int32).toInt = 4 := by decide
  have l5 : (5 : Int32).toInt = 5 := by decide
  have l6 : (6 : Int32).toInt = 6 := by decide
  have l7 : (7 : Int32).toInt = 7 := by decide
  have l8 : (8 : Int32).toInt = 8 := by decide
  have l9 : (9 : Int32).toInt = 9 := by decide
  have l10 : (10 : Int32).toInt = 10 := by decide
  have good : ∀ z1, z1 = wI z 0 0 → Rel (c + 1) x z1 := fun z1 h => by subst h; exact good1 hRel 0
  obtain ⟨h0, h1, h2, h3, h4, h5, h6, h7, h8, h9, h10, h11⟩ := hR
  have hz : f_X6_now z p1 = (if p1 < 0 then f_X6_now_b21 (wI z 0 0) p1 0 else if 10 < p1 then f_X6_now_b21 (wI z 0 0) p1 0 else f_X6_now_b21 (wI z 0 0) p1 1) := rfl
  rw [hz]
  by_cases hin : 0 ≤ p1 ∧ p1 ≤ 10
  · left
    rw [if_neg (by simp only [ltT, leT] at *; omega), if_neg (by simp only [ltT, leT] at *; omega)]
    unfold f_X5_now f_X6_now_b21
    rw [right_y (z := wI z 0 0) rfl, bn2_s, if_neg (show ¬ (1 : Int32) = 0 by decide)]
    by_cases q0 : p1 = 0
    · rw [if_pos q0, if_pos q0, get0, bn1_s]
      exact ⟨_, _, rfl, by rw [← h0]; rfl, rfl, good _ rfl⟩
    rw [if_neg q0, if_neg q0]
    by_cases q1 : p1 = 1
    · rw [if_pos q1, if_pos q1, get1, bn1_s]
      exact ⟨_, _, rfl, by rw [← h1]; rfl, rfl, good _ rfl⟩
    rw [if_neg q1, if_neg q1]
    by_cases q2 : p1 = 2
    · rw [if_pos q2, if_pos q2, get2, bn1_s]
      exact ⟨_, _, rfl, by rw [← h2]; rfl, rfl, good _ rfl⟩
    rw [if_neg q2, if_neg q2]
    by_cases q3 : p1 = 3
    · rw [if_pos q3, if_pos q3, get3, bn1_s]
      refine ⟨gt z 3, _, ?_, rfl, rfl, good _ rfl⟩
      have e3 : gt z 3 = _ := h3
      rw [e3]
      unfold f_X3_beatOver
      rw [bn1_s]
      split <;> rfl
    rw [if_neg q3, if_neg q3]
    by_cases q4 : p1 = 4
    · rw [if_pos q4, if_pos q4, get4, bn1_s]
      exact ⟨_, _, rfl, by rw [← h4]; rfl, rfl, good _ rfl⟩
    rw [if_neg q4, if_neg q4]
    by_cases q5 : p1 = 5
    · rw [if_pos q5, if_pos q5, get5, bn1_s]
      exact ⟨_, _, rfl, by rw [← h5]; rfl, rfl, good _ rfl⟩
    rw [if_neg q5, if_neg q5]
    by_cases q6 : p1 = 6
    · rw [if_pos q6, if_pos q6, get6, bn1_s]
      exact ⟨_, _, rfl, by rw [← h6]; rfl, rfl, good _ rfl⟩
    rw [if_neg q6, if_neg q6]
    by_cases q7 : p1 = 7
    · rw [if_pos q7, if_pos q7, levT_c, bn1_s, lev_m (z := wI z 0 0) hV hS, bn1_s]
      have e := lev_both (z := wI z 0 0) hV hX ⟨h0, h1, h2, h3, h4, h5, h6, h7, h8, h9, h10, h11⟩
      exact ⟨_, _, rfl, by rw [e], rfl, good _ rfl⟩
    rw [if_neg q7, if_neg q7]
    by_cases q8 : p1 = 8
    · rw [if_pos q8, if_pos q8]
      obtain ⟨N, e27, hN, -, -, -, hor⟩ := hL
      have e27' : rI (wI z 0 0) 27 = nI N := e27
      have e300 : (300 : Int32) = nI 300 := by decide
      rw [e27', e300]
      rcases hor with ⟨g1, -, g3⟩ | ⟨g1, -, g3⟩
      · rw [if_neg (by rw [nI_leI (by omega) (by omega)]; omega), g3]
        exact ⟨_, _, rfl, rfl, rfl, good _ rfl⟩
      · rw [if_pos (by rw [nI_leI (by omega) (by omega)]; omega), g3]
        exact ⟨_, _, rfl, rfl, rfl, good _ rfl⟩
    rw [if_neg q8, if_neg q8]
    by_cases q9 : p1 = 9
    · rw [if_pos q9, if_pos q9]
      have e1 : rI (wI z 0 0) 1 = rI x 37 := hS.1
      exact ⟨_, _, rfl, by rw [e1], rfl, good _ rfl⟩
    rw [if_neg q9, if_neg q9]
    have q10 : p1 = 10 := by simp only [leT, eqT, l0, l1, l2, l3, l4, l5, l6, l7, l8, l9, l10] at *; omega
    rw [if_pos q10]
    have e1 : rI (wI z 0 0) 2 = rI x 42 := hS.2.1
    exact ⟨_, _, rfl, by rw [e1], rfl, good _ rfl⟩
  · right
    have b0 : f_X6_now_b21 (wI z 0 0) p1 0 = some (0, wI (wI z 0 0) 0 1) := by
      unfold f_X6_now_b21
      rw [right_n1 (z := wI z 0 0) rfl, bn2_s, if_pos rfl]
    refine ⟨?_, 0, wI (wI z 0 0) 0 1, ?_, rfl, bad1 hRel 0 1⟩
    · unfold g_X5_now
      have n0 : ¬ p1 = 0 := by intro h; subst h; exact hin (by decide)
      have n1 : ¬ p1 = 1 := by intro h; subst h; exact hin (by decide)
      have n2 : ¬ p1 = 2 := by intro h; subst h; exact hin (by decide)
      have n3 : ¬ p1 = 3 := by intro h; subst h; exact hin (by decide)
      have n4 : ¬ p1 = 4 := by intro h; subst h; exact hin (by decide)
      have n5 : ¬ p1 = 5 := by intro h; subst h; exact hin (by decide)
      have n6 : ¬ p1 = 6 := by intro h; subst h; exact hin (by decide)
      have n7 : ¬ p1 = 7 := by intro h; subst h; exact hin (by decide)
      have n8 : ¬ p1 = 8 := by intro h; subst h; exact hin (by decide)
      have n9 : ¬ p1 = 9 := by intro h; subst h; exact hin (by decide)
      have n10 : ¬ p1 = 10 := by intro h; subst h; exact hin (by decide)
      rw [if_neg n0, if_neg n1, if_neg n2, if_neg n3, if_neg n4, if_neg n5, if_neg n6, if_neg n7, if_neg n8, if_neg n9, if_neg n10]
    · rw [b0]
      by_cases a1 : p1 < 0
      · rw [if_pos a1]
      · rw [if_neg a1, if_pos (by simp only [ltT, leT] at *; omega)]
theorem op_level : Op_level Rel := by
  intro c x z p1 hc hRel
  have hV := hRel.1.1
  have hS := hRel.1.2.1
  have hR := hRel.1.2.2.2.1
  have hnp := hV.np.2
  unfold f_X5_level g_X5_level f_X5_checkPiece g_X5_checkPiece f_X6_level
  rcases pcs hV p1 with ⟨p, rfl, hp⟩ | hn
  · left
    have e36 : (36 : Int32) + nI p = nI (36 + p) := nI_add 36 p
    have hl : gt (wI z 0 0) (36 + p) = rA x 14 p := hR.2.2.2.2.2.2.2.2.2.1 p (by omega)
    rw [isPiece_y hV hp, bn1_s, if_neg (by decide), bn1_s, letv_e, isPieceM_y (z := wI z 0 0) hV hS hp rfl, bn2_s, if_neg (by decide), e36, get_m (by omega), bn1_s, hl, inR_nI (show p < 20 by omega) (by decide), gd_t, nI_clamp (by omega)]
    exact ⟨_, _, rfl, rfl, rfl, good1 hRel 0⟩
  · right
    rw [isPiece_n hn, bn1_s, if_pos rfl, letv_e, isPieceM_n (z := wI z 0 0) hV hS hn rfl, bn2_s, if_pos rfl]
    exact ⟨rfl, 0, _, rfl, rfl, bad1 hRel 0 1⟩
theorem op_log : Op_log Rel := by
  intro c x z p1 p2 hc hRel
  have hL := hRel.1.2.2.2.2.1
  obtain ⟨N, e27, hN, eP, eA1, eA2, hor⟩ := hL
  have e300 : (300 : Int32) = nI 300 := by decide
  have l0 : (0 : Int32).toInt = 0 := by decide
  have l1 : (1 : Int32).toInt = 1 := by decide
  have l2 : (2 : Int32).toInt = 2 := by decide
  have hcnt : ∃ C, rI x 1061 = nI C ∧ C ≤ 300 ∧ (if 300 ≤ rI z 27 then (300 : Int32) else rI z 27) = nI C ∧ C ≤ N ∧ ∀ i, i < C → (rI x 1060 + nI i) - (rI x 1060 + nI i) / 300 * 300 = nI ((N - C + i) % 300) := by
    rcases hor with ⟨g1, g2, g3⟩ | ⟨g1, g2, g3⟩
    · refine ⟨N, g3, by omega, ?_, Nat.le_refl _, fun i hi => ?_⟩
      · rw [e27, e300, if_neg (by rw [nI_leI (by omega) (by omega)]; omega)]
      · have : (0 : Int32) = nI 0 := rfl
        rw [g2, this, nI_add, e300, pk_rem (by omega) (by omega) (by omega), Nat.zero_add, Nat.sub_self, Nat.zero_add]
    · refine ⟨300, g3, by omega, ?_, g1, fun i hi => ?_⟩
      · rw [e27, e300, if_pos (by rw [nI_leI (by omega) (by omega)]; omega)]
      · have em : (N % 300 + i) % 300 = (N - 300 + i) % 300 := by omega
        rw [g2, nI_add, e300, pk_rem (by omega) (by omega) (by omega), em]
  obtain ⟨C, d1, d2, d3, d4, d5⟩ := hcnt
  have hz : f_X6_log z p1 p2 = f_X6_log_b25 (wI z 0 0) p1 p2 (nI C) := by
    have e27' : rI (wI z 0 0) 27 = rI z 27 := rfl
    unfold f_X6_log
    rw [letv_e, e27', ← d3]
    split <;> rfl
  rw [hz]
  have b50 : f_X6_log_b50 (wI z 0 0) p1 p2 (nI C) 0 = some (0, wI (wI z 0 0) 0 1) := by
    unfold f_X6_log_b50
    rw [right_n1 (z := wI z 0 0) rfl, bn2_s, if_pos rfl]
  unfold f_X5_log g_X5_log f_X6_log_b25
  rw [d1]
  by_cases a1 : p1 < 0
  · right
    rw [if_pos a1, if_pos a1, b50]
    exact ⟨rfl, _, _, rfl, rfl, bad1 hRel 0 1⟩
  rw [if_neg a1, if_neg a1, if_neg a1]
  by_cases a2 : nI C ≤ p1
  · right
    rw [if_pos a2, if_pos a2, b50]
    exact ⟨rfl, _, _, rfl, rfl, bad1 hRel 0 1⟩
  rw [if_neg a2, if_neg a2, if_neg a2]
  by_cases a3 : p2 < 0
  · right
    rw [if_pos a3, if_pos a3, b50]
    exact ⟨rfl, _, _, rfl, rfl, bad1 hRel 0 1⟩
  rw [if_neg a3, if_neg a3, if_neg a3]
  by_cases a4 : p2 ≤ 2
  · left
    rw [if_pos a4, if_neg (by simp only [ltT, leT] at *; omega)]
    obtain ⟨i, hi, rfl⟩ := nI_of a1
    have hiC : i < C := by rw [nI_leI (by omega) hi] at a2; omega
    have hx := d5 i hiC
    have e27' : rI (wI z 0 0) 27 = nI N := e27
    have hzi : (rI (wI z 0 0) 27 - nI C + nI i) - (rI (wI z 0 0) 27 - nI C + nI i) / 300 * 300 = nI ((N - C + i) % 300) := by
      rw [e27', pk_sub d4, nI_add, e300, pk_rem (by omega) (by omega) (by omega)]
    have hr : (N - C + i) % 300 < 300 := Nat.mod_lt _ (by decide)
    unfold f_X0_look f_X6_log_b50
    rw [right_y (z := wI z 0 0) rfl, bn2_s, if_neg (show ¬ (1 : Int32) = 0 by decide), hx, hzi, inR_nI hr (by decide), gd_t, gd_t, gd_t, gd_t, gd_t, gd_t, nI_clamp (show (N - C + i) % 300 < 2 ^ 31 by omega)]
    have r17 : rB (wI z 0 0) 17 = rB x 34 := eP
    have r18 : rA (wI z 0 0) 18 = rA x 35 := eA1
    have r19 : rA (wI z 0 0) 19 = rA x 36 := eA2
    rw [r17, r18, r19]
    by_cases b0 : p2 = 0
    · rw [if_pos b0, if_pos b0, bn1_s]
      exact ⟨_, _, rfl, rfl, rfl, good1 hRel 0⟩
    · rw [if_neg b0, if_neg b0]
      by_cases b1 : p2 = 1
      · rw [if_pos b1, if_pos b1, bn1_s]
        exact ⟨_, _, rfl, rfl, rfl, good1 hRel 0⟩
      · rw [if_neg b1, if_neg b1, bn1_s]
        exact ⟨_, _, rfl, rfl, rfl, good1 hRel 0⟩
  · right
    rw [if_neg a4, if_pos (by simp only [ltT, leT] at *; omega), b50]
    exact ⟨rfl, _, _, rfl, rfl, bad1 hRel 0 1⟩
theorem kind2 {x : PD} {k p : Nat} (hk : k ≤ 3) (h : ckd x p ≤ 3) : (nI (ckd x p) = nI k) = (ckd x p = k) := propext (nI_eq (by omega) (by omega))
theorem op_layer : Op_layer Rel := by
  intro c x z p1 p2 hc hRel
  have hV := hRel.1.1
  have hS := hRel.1.2.1
  have hR := hRel.1.2.2.2.1
  have hnp := hV.np.2
  unfold f_X5_layer g_X5_layer f_X5_checkPiece g_X5_checkPiece f_X6_layer
  simp only [letv_e]
  rcases pcs hV p1 with ⟨p, rfl, hp⟩ | hn
  · left
    have e16 : (16 : Int32) + nI p = nI (16 + p) := nI_add 16 p
    have hS' : SEq x (wI z 0 0) := hS
    have m1 := (hS'.pc hV hp).1
    have k1 := (hV.pc hp).1
    have hl : gt (wI z 0 0) (16 + p) = rA x 13 p := hR.2.2.2.2.2.2.2.2.1 p (by omega)
    have i20 : inR (nI p) 20 = true := inR_nI (by omega) (by decide)
    have cl : Int32.toNatClampNeg (nI p) = p := nI_clamp (by omega)
    rw [isPiece_y hV hp, bn1_s, if_neg (by decide), bn1_s, isPieceM_y (z := wI z 0 0) hV hS hp rfl, bn2_s, if_neg (show ¬ (1 : Int32) = 0 by decide), e16, get_m (by omega), bn1_s, hl, i20, gd_t, gd_t, gd_t, gd_t, cl, m1, k1, inR_nI (show 16 + p < 56 by omega) (by decide), gd_t, nI_clamp (show 16 + p < 2 ^ 31 by omega)]
    by_cases a1 : nI (ckd x p) = 2
    · rw [if_pos a1, if_pos a1]
      by_cases a2 : p2 < 0
      · rw [if_pos a2, if_pos a2]
        exact ⟨_, _, _, rfl, rfl, rfl, good1 hRel 0⟩
      · rw [if_neg a2, if_neg a2]
        by_cases a3 : p2 ≤ 8
        · rw [if_pos a3, if_pos a3]
          refine ⟨_, _, _, rfl, rfl, rfl, ?_⟩
          obtain ⟨b1, b2, b3, b4, b5, b6, b7, b8, b9, b10⟩ := hRel.1
          refine Rel_of (RelB_mono (B := 20000 * c) (M := 100000 * c) (Nat.le_refl _) (by omega) ⟨b1, b2, ?_, ?_, b5, b6, b7, b8, b9, b10⟩) hRel.2
          · obtain ⟨T, q1, q2, q3, q4, q5, q6, q7, q8⟩ := b3
            refine ⟨T, q1, q2, q3, q4, q5, q6, fun i hi => ?_, q8⟩
            show 0 ≤ upd (rA x 13) p p2 i
            by_cases e : i = p
            · rw [e, upd_eq]; simp only [ltT, leT] at *; omega
            · rw [upd_ne e]; exact q7 i hi
          · obtain ⟨h0, h1, h2, h3, h4, h5, h6, h7, h8, h9, h10, h11⟩ := b4
            have hne : ∀ j, ¬ j = 16 + p → vp_updL (rB (wI z 0 0) 11) (16 + p) (Int32.toInt64 p2) j = rB z 11 j := fun j hj => by simp only [vp_updL, if_neg hj]; rfl
            refine ⟨?_, ?_, ?_, ?_, ?_, ?_, ?_, fun i hi => ?_, fun i hi => ?_, fun i hi => ?_, h10, h11⟩
            · exact (congrArg Int64.toInt32 (hne 0 (by omega))).trans h0
            · exact (congrArg Int64.toInt32 (hne 1 (by omega))).trans h1
            · exact (congrArg Int64.toInt32 (hne 2 (by omega))).trans h2
            · exact (congrArg Int64.toInt32 (hne 3 (by omega))).trans h3
            · exact (congrArg Int64.toInt32 (hne 4 (by omega))).trans h4
            · exact (congrArg Int64.toInt32 (hne 5 (by omega))).trans h5
            · exact (congrArg Int64.toInt32 (hne 6 (by omega))).trans h6
            · exact (congrArg Int64.toInt32 (hne (7 + i) (by omega))).trans (h7 i hi)
            · show (vp_updL (rB (wI z 0 0) 11) (16 + p) (Int32.toInt64 p2) (16 + i)).toInt32 = upd (rA x 13) p p2 i
              by_cases e : i = p
              · subst e
                rw [upd_eq]
                simp only [vp_updL, if_true]
                exact t32 _
              · rw [upd_ne e, hne _ (by omega)]
                exact h8 i hi
            · exact (congrArg Int64.toInt32 (hne (36 + i) (by omega))).trans (h9 i hi)
        · rw [if_neg a3, if_neg a3]
          exact ⟨_, _, _, rfl, rfl, rfl, good1 hRel 0⟩
    · rw [if_neg a1, if_neg a1]
      exact ⟨_, _, _, rfl, rfl, rfl, good1 hRel 0⟩
  · right
    rw [isPiece_n hn, bn1_s, if_pos rfl, isPieceM_n (z := wI z 0 0) hV hS hn rfl, bn2_s, if_pos rfl]
    exact ⟨rfl, 0, _, rfl, rfl, bad1 hRel 0 1⟩
theorem op_sting : Op_sting Rel := by
  intro c x z p1 hc hRel
  have hV := hRel.1.1
  have hS := hRel.1.2.1
  have hX := hRel.1.2.2.1
  have hR := hRel.1.2.2.2.1
  have hnp := hV.np.2
  unfold f_X5_sting g_X5_sting f_X5_checkPiece g_X5_checkPiece f_X6_sting
  simp only [letv_e]
  rcases pcs hV p1 with ⟨p, rfl, hp⟩ | hn
  · left
    have hS' : SEq x (wI z 0 0) := hS
    have m1 := (hS'.pc hV hp).1
    have k1 := (hV.pc hp).1
    have hl : gt (wI z 0 0) 6 = rI x 394 := hR.2.2.2.2.2.2.1
    obtain ⟨w, hw1, hw2, hw3⟩ : ∃ w, rI x 394 = nI w ∧ w ≤ 4 ∧ ∀ i, i < w → ∃ s, rA x 15 i = nI s ∧ s < cnp x := by
      obtain ⟨T, -, -, -, -, h, -⟩ := hX
      exact h
    have i20 : inR (nI p) 20 = true := inR_nI (by omega) (by decide)
    have cl : Int32.toNatClampNeg (nI p) = p := nI_clamp (by omega)
    rw [isPiece_y hV hp, bn1_s, if_neg (by decide), bn1_s, isPieceM_y (z := wI z 0 0) hV hS hp rfl, bn2_s, if_neg (show ¬ (1 : Int32) = 0 by decide), get6, bn1_s, bn1_s, hl, i20, gd_t, gd_t, cl, m1, k1, hw1]
    by_cases a1 : nI (ckd x p) = 3
    · rw [if_pos a1, if_pos a1]
      have e4 : (4 : Int32) = nI 4 := by decide
      by_cases a2 : w < 4
      · have e7 : (7 : Int32) + nI w = nI (7 + w) := nI_add 7 w
        rw [e4, if_pos (by rw [nI_ltI (by omega) (by omega)]; exact a2), if_neg (by rw [nI_eq (by omega) (by omega)]; omega), inR_nI a2 (by decide), gd_t, e7, inR_nI (show 7 + w < 56 by omega) (by decide), gd_t, nI_clamp (by omega), nI_clamp (show 7 + w < 2 ^ 31 by omega)]
        have e6 : Int32.toNatClampNeg 6 = 6 := by decide
        rw [e6, get6, bn1_s]
        have r394 : rI (wA x 15 (upd (rA x 15) w (nI p))) 394 = nI w := hw1
        rw [r394, nI_1]
        have hg : gt (wB (wB (wI z 0 0) 11 (vp_updL (rB (wI z 0 0) 11) (7 + w) (Int32.toInt64 (nI p)))) 11 (vp_updL (rB (wB (wI z 0 0) 11 (vp_updL (rB (wI z 0 0) 11) (7 + w) (Int32.toInt64 (nI p)))) 11) 6 (rB (wB (wI z 0 0) 11 (vp_updL (rB (wI z 0 0) 11) (7 + w) (Int32.toInt64 (nI p)))) 11 6 + 1))) 6 = nI (w + 1) := by
          show (vp_updL (rB z 11) (7 + w) (Int32.toInt64 (nI p)) 6 + 1).toInt32 = nI (w + 1)
          have : vp_updL (rB z 11) (7 + w) (Int32.toInt64 (nI p)) 6 = rB z 11 6 := by simp only [vp_updL]; rw [if_neg (by omega)]
          rw [this, Int64.toInt32_add]
          have h6 : (rB z 11 6).toInt32 = nI w := hl.trans hw1
          rw [h6, ← nI_1]
          rfl
        rw [hg]
        refine ⟨_, _, _, rfl, rfl, rfl, ?_⟩
        obtain ⟨b1, b2, b3, b4, b5, b6, b7, b8, b9, b10⟩ := hRel.1
        refine Rel_of (RelB_mono (B := 20000 * c) (M := 100000 * c) (Nat.le_refl _) (by omega) ⟨b1, b2, ?_, ?_, b5, b6, b7, b8, b9, b10⟩) hRel.2
        · obtain ⟨T, q1, q2, q3, q4, q5, q6, q7, q8⟩ := b3
          refine ⟨T, q1, q2, q3, q4, ⟨w + 1, rfl, by omega, fun i hi => ?_⟩, q6, q7, q8⟩
          by_cases e : i = w
          · exact ⟨p, by rw [e]; exact upd_eq, hp⟩
          · obtain ⟨s, s1, s2⟩ := hw3 i (by omega)
            exact ⟨s, (upd_ne e).trans s1, s2⟩
        · obtain ⟨h0, h1, h2, h3, h4, h5, h6, h7, h8, h9, h10, h11⟩ := b4
          have hne : ∀ j, ¬ j = 6 → ¬ j = 7 + w → vp_updL (vp_updL (rB z 11) (7 + w) (Int32.toInt64 (nI p))) 6 (vp_updL (rB z 11) (7 + w) (Int32.toInt64 (nI p)) 6 + 1) j = rB z 11 j := fun j hj hj2 => by simp only [vp_updL, if_neg hj, if_neg hj2]
          refine ⟨?_, ?_, ?_, ?_, ?_, ?_, hg, fun i hi => ?_, fun i hi => ?_, fun i hi => ?_, h10, h11⟩
          · exact (congrArg Int64.toInt32 (hne 0 (by omega) (by omega))).trans h0
          · exact (congrArg Int64.toInt32 (hne 1 (by omega) (by omega))).trans h1
          · exact (congrArg Int64.toInt32 (hne 2 (by omega) (by omega))).trans h2
          · exact (congrArg Int64.toInt32 (hne 3 (by omega) (by omega))).trans h3
          · exact (congrArg Int64.toInt32 (hne 4 (by omega) (by omega))).trans h4
          · exact (congrArg Int64.toInt32 (hne 5 (by omega) (by omega))).trans h5
          · show (vp_updL (vp_updL (rB z 11) (7 + w) (Int32.toInt64 (nI p))) 6 (vp_updL (rB z 11) (7 + w) (Int32.toInt64 (nI p)) 6 + 1) (7 + i)).toInt32 = upd (rA x 15) w (nI p) i
            by_cases e : i = w
            · subst e
              rw [upd_eq]
              simp only [vp_updL]
              rw [if_neg (by omega), if_pos trivial]
              exact t32 _
            · rw [upd_ne e, hne _ (by omega) (by omega)]
              exact h7 i hi
          · exact (congrArg Int64.toInt32 (hne (16 + i) (by omega) (by omega))).trans (h8 i hi)
          · exact (congrArg Int64.toInt32 (hne (36 + i) (by omega) (by omega))).trans (h9 i hi)
      · have hw4 : w = 4 := by omega
        subst hw4
        rw [e4, if_neg (by decide), if_pos rfl]
        exact ⟨_, _, _, rfl, rfl, rfl, good1 hRel 0⟩
    · rw [if_neg a1, if_neg a1]
      exact ⟨_, _, _, rfl, rfl, rfl, good1 hRel 0⟩
  · right
    rw [isPiece_n hn, bn1_s, if_pos rfl, isPieceM_n (z := wI z 0 0) hV hS hn rfl, bn2_s, if_pos rfl]
    exact ⟨rfl, 0, _, rfl, rfl, bad1 hRel 0 1⟩
