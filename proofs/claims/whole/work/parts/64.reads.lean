/-! ===== PURE: way, cost, now, level, log, layer, sting ===== -/
theorem bad1 {c : Nat} {x z : PD} (h : Rel c x z) (v w : Int32) : Rel (c + 1) x (wI (wI z 0 v) 0 w) := Rel_of (RelB_mono (B := 20000 * c) (M := 100000 * c) (z := wI (wI z 0 v) 0 w) (Nat.le_refl _) (by omega) h.1) h.2
theorem good1 {c : Nat} {x z : PD} (h : Rel c x z) (v : Int32) : Rel (c + 1) x (wI z 0 v) := Rel_of (RelB_mono (B := 20000 * c) (M := 100000 * c) (z := wI z 0 v) (Nat.le_refl _) (by omega) h.1) h.2
theorem op_way : Op_way Rel := by
  intro c x z p1 hc hRel
  have hV := hRel.1.1
  have b46n : ∀ v2, f_X6_way_b46 (wI z 0 0) p1 v2 0 = some (0, wI (wI z 0 0) 0 1) := by
    intro v2
    unfold f_X6_way_b46
    rw [right_n1 (z := wI z 0 0) rfl, bn2_s, if_pos rfl]
  have hz : ∀ t0, (rI z 20 = 0 → t0 = 0) → (¬ rI z 20 = 0 → t0 = rI z 21 - rI z 22) → f_X6_way z p1 = f_X6_way_b25 (wI z 0 0) p1 t0 := by
    intro t0 h1 h2
    unfold f_X6_way
    rw [letv_e]
    have e20 : rI (wI z 0 0) 20 = rI z 20 := rfl
    have e21 : rI (wI z 0 0) 21 = rI z 21 := rfl
    have e22 : rI (wI z 0 0) 22 = rI z 22 := rfl
    rw [e20, e21, e22]
    by_cases h : rI z 20 = 0
    · rw [if_pos h, h1 h]
    · rw [if_neg h, h2 h]
  unfold f_X5_way g_X5_way f_X5_stepsLeft f_X1_left
  rw [bn1_s, bn1_s, bn1_s]
  have hW := hRel.2
  rcases hW with ⟨c1, c2, c3, c4, c5⟩ | ⟨m, t, p, d, s, k, n, -, -, -, -, -, -, -, -, -, -, -, -, hkn, c6, c5, c20, c21, c22, cW⟩
  · have h00 : (0 : Int32) - 0 = 0 := by decide
    rw [hz 0 (fun _ => rfl) (fun h => absurd c3 h), c1, c2, h00]
    unfold f_X6_way_b25
    by_cases a1 : p1 = -1
    · left
      rw [if_pos a1, if_pos rfl, bn1_s, if_pos a1]
      unfold f_X6_way_b46
      have e20 : rI (wI z 0 0) 20 = 0 := c3
      rw [right_y (z := wI z 0 0) rfl, bn2_s, if_neg (by decide), if_pos a1, if_pos e20]
      exact ⟨_, _, rfl, rfl, rfl, good1 hRel 0⟩
    · right
      rw [if_neg a1, if_neg a1]
      by_cases a2 : p1 < 0
      · rw [if_pos a2, if_pos a2, b46n]
        exact ⟨rfl, _, _, rfl, rfl, bad1 hRel 0 1⟩
      · have a3 : (0 : Int32) ≤ p1 := by simp only [ltT, leT] at *; omega
        simp only [if_neg a2, if_pos a3]
        rw [b46n]
        exact ⟨trivial, _, _, rfl, rfl, bad1 hRel 0 1⟩
  · have hsub : nI (k + 1 + n) - nI k = nI (n + 1) := by rw [pk_sub (by omega)]; congr 1; omega
    rw [hz (nI (n + 1)) (fun h => absurd h (by rw [c20]; decide)) (fun _ => by rw [c21, c22, hsub]), c5, c6, hsub]
    unfold f_X6_way_b25
    by_cases a1 : p1 = -1
    · left
      rw [if_pos a1, if_neg (by rw [nI_e0 (by omega)]; omega), bn1_s, if_pos a1]
      unfold f_X6_way_b46
      have e20 : ¬ rI (wI z 0 0) 20 = 0 := by
        show ¬ rI z 20 = 0
        rw [c20]; decide
      rw [right_y (z := wI z 0 0) rfl, bn2_s, if_neg (by decide), if_pos a1, if_neg e20]
      exact ⟨_, _, rfl, rfl, rfl, good1 hRel 0⟩
    · rw [if_neg a1, if_neg a1, if_neg a1]
      by_cases a2 : p1 < 0
      · right
        rw [if_pos a2, if_pos a2, b46n]
        exact ⟨rfl, _, _, rfl, rfl, bad1 hRel 0 1⟩
      · rw [if_neg a2, if_neg a2, if_neg a2]
        obtain ⟨i, hi, rfl⟩ := nI_of a2
        by_cases a3 : i < n + 1
        · left
          rw [if_pos (show nI i < nI (n + 1) by rw [nI_ltI hi (by omega)]; exact a3), if_neg (by rw [nI_leI (by omega) hi]; omega)]
          unfold f_X1_stepAt f_X6_way_b46
          have e22 : rI (wI z 0 0) 22 = nI k := c22
          have eW : rA (wI z 0 0) 16 (k + i) = rA x 44 (k + i) := cW (k + i) (by omega)
          rw [c5, c6, nI_add, if_neg (nI_pos (by omega)), if_neg (by rw [nI_leI (by omega) (by omega)]; omega), inR_nI (show k + i < 20 by omega) (by decide), gd_t, bn1_s, nI_clamp (by omega), right_y (z := wI z 0 0) rfl, bn2_s, if_neg (by decide), if_neg a1, e22, nI_add, inR_nI (show k + i < 32 by omega) (by decide), gd_t, nI_clamp (by omega), eW]
          exact ⟨_, _, rfl, rfl, rfl, good1 hRel 0⟩
        · right
          rw [if_neg (show ¬ nI i < nI (n + 1) by rw [nI_ltI hi (by omega)]; exact a3), if_pos (by rw [nI_leI (by omega) hi]; omega), b46n]
          exact ⟨rfl, _, _, rfl, rfl, bad1 hRel 0 1⟩
theorem cost44_m {x z : PD} (hV : ScV x) (hS : SEq x z) {t : Tb} {m : Nat} (hF : FinT x 24 (cpL x) m t) {e : Nat} (he : rI z 21 = nI e) (he32 : e ≤ 32) : ∀ (n f i q c : Nat) (acc : Nat), n < f → i + n = e → Ch x t (rA z 16) n i q → t q = some (c, n) → f_X6_cost_b44 f z (lN acc) (nI q) 0 0 (nI i) = some (lN (acc + c), z) := by
  have hnp := hV.np.2
  have hnj := hV.nj.2
  intro n
  induction n with
  | zero =>
    intro f i q c acc hf hi hch hc
    cases f with
    | zero => omega
    | succ f =>
      have := (Fin_zero hF hc).1
      subst this
      rw [f_X6_cost_b44, he, if_pos (by rw [nI_leI (by omega) (by omega)]; omega)]
      rfl
  | succ n ih =>
    intro f i q c acc hf hi hch hc
    cases f with
    | zero => omega
    | succ f =>
      obtain ⟨h1, h2, j, h3, h4, h5⟩ := hch
      have hq : q < cnp x := h1
      obtain ⟨hj1, hjf, u, hu1, hu2⟩ := h4.1
      rw [hc] at hu2
      cases hu2
      obtain ⟨-, -, -, k4, k5, -, k7, -⟩ := hV.pc hq
      obtain ⟨-, -, -, -, -, ht, -, -, -, -, hj100⟩ := hV.jt hj1
      have hbh := (hV.2.2.2.1 j hj1).2.2.2.2.1
      have ho : opn x q 0 j := Or.inr ⟨hj1, hjf, by omega⟩
      have hsc := stepCost_m hV hS (p := q) (d := 0) (o := 0) hq (by omega) (by omega) ho
      have hsc' : f_X6_stepCost z (nI j) (nI q) 0 0 = some (lN (scst x q 0 0 j)) := hsc
      have hld := leads_m hV hS ho
      have hlds : lds x q j = ctt x j := by unfold lds; rw [if_neg (by omega)]
      rw [f_X6_cost_b44, he, if_neg (by rw [nI_leI (by omega) (by omega)]; omega), inR_nI (show i < 32 by omega) (by decide), gd_t, nI_clamp (by omega), h3, hsc', bn1_s, gd_t, hld, bn1_s, lN_add, nI_1, hlds, scst_w hj100 hjf]
      rw [ih f (i + 1) (ctt x j) u.1 (acc + wgt x 24 (cpL x) j) (by omega) (by omega) h5 hu1]
      congr 3
      omega
theorem op_cost : Op_cost Rel := by
  intro c x z hc hRel
  have hV := hRel.1.1
  have hS := hRel.1.2.1
  have hX := hRel.1.2.2.1
  have hR := hRel.1.2.2.2.1
  have hnp := hV.np.2
  have hnj := hV.nj.2
  have hz : f_X6_cost z = (if rI z 20 = 0 then some ((-1 : Int64), wI z 0 0) else f_X6_cost_b44 FU (wI z 0 0) 0 (gt z 0) (gt z 1) (gt z 3) (rI z 22)) := by
    unfold f_X6_cost
    rw [letv_e, get0, bn1_s, get1, bn1_s, get3, bn1_s]
    rfl
  rw [hz]
  unfold f_X5_cost f_X1_costLeft f_X1_stepAt
  rcases hRel.2 with ⟨c1, c2, c3, c4, c5⟩ | ⟨m, t, p, d, s, k, n, q1, q2, q3, q4, q5, q6, q7, q8, q9, q10, q11, q12, hkn, c6, c5, c20, c21, c22, cW⟩
  · rw [c1, c2, c3, if_neg (by decide), if_pos (by decide), if_pos rfl, bn1_s, if_pos rfl, bn1_s]
    exact ⟨_, _, rfl, rfl, good1 hRel 0⟩
  · have hs100 : s ≤ 100 := by rcases q10 with ⟨h, -⟩ | ⟨h, -⟩ <;> omega
    have e0 : (0 : Int32) = nI 0 := rfl
    rw [c5, c6, e0, nI_add, ← e0, Nat.add_zero, if_neg (nI_pos (by omega)), if_neg (by rw [nI_leI (by omega) (by omega)]; omega), inR_nI (show k < 20 by omega) (by decide), gd_t, bn1_s, nI_clamp (by omega), q11, if_neg (nI_ne_m1 (by omega))]
    have hpl : ∃ d' o, LV x p d' o ∧ opn x p d' s := by
      rcases LvX_pl hX with h | ⟨p', d', o, hL⟩
      · rw [q7] at h
        exact absurd h (nI_ne_m1 (by omega))
      · have e1 : p' = p := nI_inj (by have := hL.2.1; omega) (by omega) (by rw [← hL.1, q7])
        subst e1
        obtain ⟨-, -, -, -, kb, -⟩ := hV.pc q8
        have hd' := hL.2.2.2.2.1
        refine ⟨d', o, hL, ?_⟩
        rcases q10 with h | ⟨h, h1, h2⟩
        · exact Or.inl h
        · have := (hV.jt h).2.2.2.2.2.2.1
          have e2 : d' = d := nI_inj (by omega) (by omega) (by rw [← hL.2.2.2.1, q9])
          rw [e2]
          exact Or.inr ⟨h, h1, h2⟩
    obtain ⟨d', o, hL, q10'⟩ := hpl
    rw [costBy_c hV q4 q5 hL q10', bn1_s, bn1_s, c20, if_neg (by decide), c22]
    have g0 : gt z 0 = nI p := by rw [← q7]; exact hR.1
    have g1 : gt z 1 = nI d' := by rw [← hL.2.2.2.1]; exact hR.2.1
    have g3 := LvR_over hR hL (by omega)
    rw [g0, g1, g3]
    obtain ⟨hq, cc, hcc⟩ := Ch_at q12
    rw [hcc]
    simp only
    have hS' : SEq x (wI z 0 0) := hS
    have hsc := stepCost_m hV hS' q8 hL.2.2.2.2.1 hL.2.2.2.2.2.2 q10'
    have hld := leads_m hV hS' q10'
    have hfu : FU = 999999 + 1 := rfl
    have e21 : rI (wI z 0 0) 21 = nI (k + 1 + n) := c21
    have eW : rA (wI z 0 0) 16 k = nI s := by
      show rA z 16 k = nI s
      rw [cW k (by omega), q11]
    rw [hfu, f_X6_cost_b44, e21, if_neg (by rw [nI_leI (by omega) (by omega)]; omega), inR_nI (show k < 32 by omega) (by decide), gd_t, nI_clamp (by omega), eW, hsc, bn1_s, gd_t, hld, bn1_s, nI_1]
    have e9 : (0 : Int64) + lN (scst x p d' o s) = lN (scst x p d' o s) := by
      have : (0 : Int64) = lN 0 := rfl
      rw [this, lN_add, Nat.zero_add]
    have hch : Ch x t (rA (wI z 0 0) 16) n (k + 1) (lds x p s) := Ch_cong _ _ _ q12 (fun i h1 h2 => (cW i (by omega)).symm)
    have hm := cost44_m (z := wI z 0 0) hV hS q6 e21 (by omega) n 999999 (k + 1) (lds x p s) cc (scst x p d' o s) (by omega) rfl hch hcc
    rw [e9, hm, Nat.add_comm]
    exact ⟨_, _, rfl, rfl, good1 hRel 0⟩
