/-! ===== PURE: go ===== -/
theorem lMax : (4611686018427387904 : Int64) = lN 4611686018427387904 := by decide
/-- when the beat ends, when the sting: far away where there is none -/
def PC (x : PD) (T be : Nat) : Prop := (rI x 386 = -1 ∧ rI x 387 = 0 ∧ be = 1000000000000) ∨ ∃ p d o, rI x 386 = nI p ∧ p < cnp x ∧ ckd x p ≤ 1 ∧ rI x 387 = nI d ∧ d < cbs x p ∧ o ≤ T ∧ rL x 389 = lN (T - o) ∧ o < cbt x p ∧ be = T - o + cbt x p
def SC (x : PD) (T se : Nat) : Prop := (rI x 395 = -1 ∧ se = 1000000000000) ∨ ∃ s, rI x 395 = nI s ∧ s < cnp x ∧ rL x 396 = lN se ∧ T < se ∧ se ≤ T + 153600
theorem beatEnd_c {x : PD} {p t : Nat} (hV : ScV x) (k1 : rI x 386 = nI p) (hp : p < cnp x) (k7 : rL x 389 = lN t) : f_X5_beatEnd x = some (lN (t + cbt x p)) := by
  have hnp := hV.np.2
  obtain ⟨-, -, -, -, -, p4, -, p8, -⟩ := hV.pc hp
  unfold f_X5_beatEnd
  rw [k1, inR_nI (show p < 20 by omega) (by decide), gd_t, nI_clamp (show p < 2 ^ 31 by omega), p4, k7, nI_l (by omega), lN_add]
theorem PC_of {B T : Nat} {x : PD} (hBB : B < 2 ^ 30) (h : LvX x B) (hT : rL x 385 = lN T) (hTB : T ≤ B) : (∃ be, PC x T be) ∧ ∃ se, SC x T se := by
  obtain ⟨T', q1, q2, q3, q4, q5, q6, q7, q8⟩ := h
  have e : T' = T := (pk_lEQ (by omega) (by omega)).mp (by rw [← q1, hT])
  subst e
  constructor
  · rcases q3 with ⟨a, b⟩ | ⟨p, d, o, a1, a2, a3, a4, a5, a6, a7, a8⟩
    · exact ⟨_, Or.inl ⟨a, b, rfl⟩⟩
    · exact ⟨_, Or.inr ⟨p, d, o, a1, a2, a3, a4, a5, a6, a7, a8, rfl⟩⟩
  · rcases q6 with a | ⟨s, U, a1, a2, a3, a4, a5⟩
    · exact ⟨_, Or.inl ⟨a, rfl⟩⟩
    · exact ⟨U, Or.inr ⟨s, a1, a2, a3, a4, a5⟩⟩
theorem PC_lt {B T be : Nat} {x : PD} (hV : ScV x) (hBB : B < 2 ^ 30) (hTB : T ≤ B) (h : PC x T be) : T < be ∧ be ≤ 1000000000000 := by
  rcases h with ⟨a, b, rfl⟩ | ⟨p, d, o, a1, a2, a3, a4, a5, a6, a7, a8, rfl⟩
  · omega
  · obtain ⟨-, -, -, -, -, p4, -, p8, -⟩ := hV.pc a2
    omega
theorem SC_lt {B T se : Nat} {x : PD} (hBB : B < 2 ^ 30) (hTB : T ≤ B) (h : SC x T se) : T < se ∧ se ≤ 1000000000000 := by
  rcases h with ⟨a, rfl⟩ | ⟨s, a1, a2, a3, a4, a5⟩
  · omega
  · omega
theorem next_c {B T be se : Nat} {x : PD} (hV : ScV x) (hBB : B < 2 ^ 30) (hTB : T ≤ B) (hP : PC x T be) (hS : SC x T se) : ∃ N', f_X5_nextMoment x = some (lN N') ∧ N' < 2 ^ 63 ∧ (N' = min be se ∨ (1000000000000 ≤ N' ∧ 1000000000000 ≤ min be se)) := by
  have hnp := hV.np.2
  have l1 := PC_lt hV hBB hTB hP
  have l2 := SC_lt hBB hTB hS
  unfold f_X5_nextMoment f_X5_nextMoment_b20
  rw [lMax]
  rcases hP with ⟨a, b, rfl⟩ | ⟨p, d, o, a1, a2, a3, a4, a5, a6, a7, a8, rfl⟩
  · rw [if_pos a]
    rcases hS with ⟨c, rfl⟩ | ⟨s, c1, c2, c3, c4, c5⟩
    · rw [if_pos c]
      exact ⟨_, rfl, by omega, Or.inr ⟨by omega, by omega⟩⟩
    · rw [if_neg (by rw [c1]; exact nI_ne_m1 (by omega)), c3, if_pos (by rw [pk_lLT (by omega) (by omega)]; omega)]
      exact ⟨_, rfl, by omega, Or.inl (by omega)⟩
  · rw [if_neg (by rw [a1]; exact nI_ne_m1 (by omega)), beatEnd_c hV a1 a2 a7, bn1_s]
    rcases hS with ⟨c, rfl⟩ | ⟨s, c1, c2, c3, c4, c5⟩
    · rw [if_pos c]
      exact ⟨_, rfl, by omega, Or.inl (by omega)⟩
    · rw [if_neg (by rw [c1]; exact nI_ne_m1 (by omega)), c3]
      by_cases e : se < T - o + cbt x p
      · rw [if_pos (by rw [pk_lLT (by omega) (by omega)]; exact e)]
        exact ⟨_, rfl, by omega, Or.inl (by omega)⟩
      · rw [if_neg (by rw [pk_lLT (by omega) (by omega)]; exact e)]
        exact ⟨_, rfl, by omega, Or.inl (by omega)⟩
theorem next_m {B T be se : Nat} {x z : PD} (hV : ScV x) (hSq : SEq x z) (hR : LvR x z) (hT : rL x 385 = lN T) (hBB : B < 2 ^ 30) (hTB : T ≤ B) (hP : PC x T be) (hS : SC x T se) (g E : Nat) : f_X6_go_b42 (g + 1) z (lN E) 1 = f_X6_go_b107 (f_X6_go_b42 g) z (lN E) (rI x 386) (lN be) (lN se) := by
  have hnp := hV.np.2
  have g0 : gt z 0 = rI x 386 := hR.1
  have g3 : gt z 3 = (if rI x 386 = -1 then 0 else (rL x 385 - rL x 389).toInt32) := hR.2.2.2.1
  have g5 : gt z 5 = rI x 395 := hR.2.2.2.2.2.1
  have z15 : rL z 15 = lN T := by rw [LvR_T hR]; exact hT
  have z16 : rL z 16 = rL x 396 := hR.2.2.2.2.2.2.2.2.2.2.2
  have h86 : ∀ t0, f_X6_go_b86 (f_X6_go_b42 g) z (lN E) (rI x 386) t0 = f_X6_go_b107 (f_X6_go_b42 g) z (lN E) (rI x 386) t0 (lN se) := by
    intro t0
    unfold f_X6_go_b86
    rw [get5, bn1_s, g5]
    rcases hS with ⟨c, rfl⟩ | ⟨s, c1, c2, c3, c4, c5⟩
    · rw [if_pos c, lFar]
    · rw [if_neg (by rw [c1]; exact nI_ne_m1 (by omega)), z16, c3]
  rw [f_X6_go_b42, if_neg (show ¬ (1 : Int32) = 0 by decide), get0, bn1_s, g0, get3, bn1_s, h86, h86]
  rcases hP with ⟨a, b, rfl⟩ | ⟨p, d, o, a1, a2, a3, a4, a5, a6, a7, a8, rfl⟩
  · rw [if_pos a, lFar]
  · obtain ⟨-, -, -, -, -, p4, -, p8, -⟩ := hV.pc a2
    obtain ⟨-, -, m3, -⟩ := hSq.pc hV a2
    have hne : ¬ rI x 386 = -1 := by rw [a1]; exact nI_ne_m1 (by omega)
    have eo : gt z 3 = nI o := by
      rw [g3, if_neg hne, hT, a7, lN_sub (by omega), lN_i]
      congr 1
      omega
    rw [if_neg hne, eo, a1, inR_nI (show p < 20 by omega) (by decide), gd_t, nI_clamp (show p < 2 ^ 31 by omega), m3, z15, nI_l (show cbt x p < 2 ^ 31 by omega), nI_l (show o < 2 ^ 31 by omega), lN_add, lN_sub (by omega)]
    congr 2
    omega
theorem b107_m {be se E : Nat} (k : PD → Int64 → Int32 → Option (Int64 × PD)) (z : PD) (pl : Int32) (h1 : be ≤ 1000000000000) (h2 : se ≤ 1000000000000) (hE : E < 2 ^ 30) : f_X6_go_b107 k z (lN E) pl (lN be) (lN se) = if min be se ≤ E then f_X6_go_b151 k z (lN E) 1 pl (lN se) (lN (min be se)) (lN (min be se)) else f_X6_go_b151 k z (lN E) 0 pl (lN se) (lN (min be se)) (lN E) := by
  unfold f_X6_go_b107 f_X6_go_b124 f_X6_go_b138
  have n10 : ¬ (1 : Int32) = 0 := by decide
  simp only [lg_ge0, lg_gt0, if_neg n10, if_true]
  by_cases a : se ≤ be
  · have em : min be se = se := by omega
    rw [em, if_pos (by rw [pk_lLE (by omega) (by omega)]; exact a)]
    by_cases b : se ≤ E
    · rw [if_pos b, if_neg (by rw [pk_lLT (by omega) (by omega)]; omega)]
    · rw [if_neg b, if_pos (by rw [pk_lLT (by omega) (by omega)]; omega)]
  · have em : min be se = be := by omega
    rw [em, if_neg (by rw [pk_lLE (by omega) (by omega)]; exact a)]
    by_cases b : be ≤ E
    · rw [if_pos b, if_neg (by rw [pk_lLT (by omega) (by omega)]; omega)]
    · rw [if_neg b, if_pos (by rw [pk_lLT (by omega) (by omega)]; omega)]
/-- the model's time moves -/
theorem b151_m (k : PD → Int64 → Int32 → Option (Int64 × PD)) (z : PD) (pl : Int32) (v2 v8 v10 t : Int64) (v4 : Int32) : ∃ b, (∀ i, ¬ i = 3 → b i = rB z 11 i) ∧ (pl = -1 → b 3 = rB z 11 3) ∧ (¬ pl = -1 → b 3 = rB z 11 3 + (t - rL z 15)) ∧ f_X6_go_b151 k z v2 v4 pl v8 v10 t = f_X6_go_b175 k (wB z 11 b) v2 v4 v8 v10 t := by
  have e3 : Int32.toNatClampNeg 3 = 3 := by decide
  unfold f_X6_go_b151
  by_cases a : pl = -1
  · refine ⟨rB z 11, fun _ _ => rfl, fun _ => rfl, fun h => absurd a h, ?_⟩
    rw [if_pos a, wB_self]
  · refine ⟨vp_updL (rB z 11) 3 (rB z 11 3 + (t - rL z 15)), fun i hi => updL_ne hi, fun h => absurd h a, fun _ => updL_eq, ?_⟩
    rw [if_neg a, letv_e, e3]
/-- time moves, no sting ends -/
theorem mv_N {B M T N : Nat} {x z : PD} {b : Nat → Int64} (hBB : B < 2 ^ 30) (h : RelN B M x z) (hT : rL x 385 = lN T) (hTN : T ≤ N) (hN : N ≤ B) (hs : ∀ U, ¬ rI x 395 = -1 → rL x 396 = lN U → U < 2 ^ 31 → N < U) (hb : ∀ i, ¬ i = 3 → b i = rB z 11 i) : RelN B M (wL x 385 (lN N)) (wL (wB z 11 b) 15 (lN N)) := by
  obtain ⟨hV, hS, hX, hR, hr⟩ := h
  have hnp := hV.np.2
  refine ⟨hV, hS, ?_, ?_, hr⟩
  · obtain ⟨T', q1, q2, q4, q5, q6, q7, q8⟩ := hX
    have e : T' = T := (pk_lEQ (by omega) (by omega)).mp (by rw [← q1, hT])
    subst e
    refine ⟨N, rfl, hN, q4, q5, ?_, q7, q8⟩
    rcases q6 with a | ⟨s, U, a1, a2, a3, a4, a5⟩
    · exact Or.inl a
    · exact Or.inr ⟨s, U, a1, a2, a3, hs U (by rw [a1]; exact nI_ne_m1 (by omega)) a3 (by omega), by omega⟩
  · obtain ⟨h4, h5, h6, h7, h8, h9, h10, h11⟩ := hR
    refine ⟨?_, ?_, ?_, fun i hi => ?_, fun i hi => ?_, fun i hi => ?_, rfl, h11⟩
    · exact (congrArg Int64.toInt32 (hb 4 (by omega))).trans h4
    · exact (congrArg Int64.toInt32 (hb 5 (by omega))).trans h5
    · exact (congrArg Int64.toInt32 (hb 6 (by omega))).trans h6
    · exact (congrArg Int64.toInt32 (hb (7 + i) (by omega))).trans (h7 i hi)
    · exact (congrArg Int64.toInt32 (hb (16 + i) (by omega))).trans (h8 i hi)
    · exact (congrArg Int64.toInt32 (hb (36 + i) (by omega))).trans (h9 i hi)
/-- time moves, and the sting ends -/
theorem mv_S {B M T N : Nat} {x z : PD} {b : Nat → Int64} (hBB : B < 2 ^ 30) (hM : M < 2 ^ 30) (h : RelN B M x z) (hT : rL x 385 = lN T) (hTN : T ≤ N) (hN : N ≤ B) (hb : ∀ i, ¬ i = 3 → b i = rB z 11 i) : ∃ P A1 A2 e c n, f_X0_add (wL x 385 (lN N)) 6 (rI x 395) = some (lgX (wL x 385 (lN N)) P A1 A2 e c) ∧ f_X6_logs (wL (wB z 11 b) 15 (lN N)) 6 (rI x 395) = some (lgZ (wL (wB z 11 b) 15 (lN N)) P A1 A2 n) ∧ RelN B (M + 1) (wI (lgX (wL x 385 (lN N)) P A1 A2 e c) 395 (-1)) (wB (lgZ (wL (wB z 11 b) 15 (lN N)) P A1 A2 n) 11 (vp_updL b 5 (-1))) := by
  obtain ⟨hV, hS, hX, hR, hL, hTV, s0, s1, s2, s3⟩ := h
  have hnp := hV.np.2
  have hL' : LogR (wL x 385 (lN N)) (wL (wB z 11 b) 15 (lN N)) M := hL
  obtain ⟨P, A1, A2, e, c, n, k1, k2, k3⟩ := add_both (x := wL x 385 (lN N)) (z := wL (wB z 11 b) 15 (lN N)) 6 (rI x 395) hM rfl hL'
  refine ⟨P, A1, A2, e, c, n, k1, k2, hV, hS, ?_, ?_, k3, hTV, s0, s1, s2, s3⟩
  · obtain ⟨T', q1, q2, q4, q5, q6, q7, q8⟩ := hX
    exact ⟨N, rfl, hN, q4, q5, Or.inl rfl, q7, q8⟩
  · obtain ⟨h4, h5, h6, h7, h8, h9, h10, h11⟩ := hR
    refine ⟨?_, show (-1 : Int64).toInt32 = -1 by decide, ?_, fun i hi => ?_, fun i hi => ?_, fun i hi => ?_, rfl, h11⟩
    · exact (congrArg Int64.toInt32 (hb 4 (by omega))).trans h4
    · exact (congrArg Int64.toInt32 (hb 6 (by omega))).trans h6
    · exact (congrArg Int64.toInt32 ((updL_ne (by omega)).trans (hb (7 + i) (by omega)))).trans (h7 i hi)
    · exact (congrArg Int64.toInt32 ((updL_ne (by omega)).trans (hb (16 + i) (by omega)))).trans (h8 i hi)
    · exact (congrArg Int64.toInt32 ((updL_ne (by omega)).trans (hb (36 + i) (by omega)))).trans (h9 i hi)
theorem N_B {B M : Nat} {x z : PD} (h : RelN B M x z) (hp : ∀ T, rL x 385 = lN T → T ≤ B → (rI x 386 = -1 ∧ rI x 387 = 0) ∨ ∃ p d o, rI x 386 = nI p ∧ p < cnp x ∧ ckd x p ≤ 1 ∧ rI x 387 = nI d ∧ d < cbs x p ∧ o ≤ T ∧ rL x 389 = lN (T - o) ∧ o < cbt x p) (g0 : gt z 0 = rI x 386) (g1 : gt z 1 = rI x 387) (g2 : gt z 2 = rI x 388) (g3 : gt z 3 = (if rI x 386 = -1 then 0 else (rL x 385 - rL x 389).toInt32)) : RelB B M x z := by
  obtain ⟨hV, hS, ⟨T, q1, q2, q4⟩, ⟨h4, h5⟩, hr⟩ := h
  exact ⟨hV, hS, ⟨T, q1, q2, hp T q1 q2, q4⟩, ⟨g0, g1, g2, g3, h4, h5⟩, hr⟩
/-- b 3 when time has moved -/
theorem over_mv {x z : PD} {b : Nat → Int64} {T N : Nat} (hR : LvR x z) (hT : rL x 385 = lN T) (b1 : rI x 386 = -1 → b 3 = rB z 11 3) (b2 : ¬ rI x 386 = -1 → b 3 = rB z 11 3 + (lN N - rL z 15)) : (b 3).toInt32 = (if rI x 386 = -1 then 0 else (lN N - rL x 389).toInt32) := by
  have g3 : (rB z 11 3).toInt32 = (if rI x 386 = -1 then 0 else (rL x 385 - rL x 389).toInt32) := hR.2.2.2.1
  have z15 : rL z 15 = rL x 385 := LvR_T hR
  by_cases a : rI x 386 = -1
  · rw [b1 a, g3, if_pos a, if_pos a]
  · rw [b2 a, Int64.toInt32_add, g3, if_neg a, if_neg a, z15, ← Int64.toInt32_add]
    congr 1
    generalize rL x 385 = u
    generalize rL x 389 = v
    generalize lN N = w
    grind
theorem play_mv {B T N be : Nat} {x : PD} (hBB : B < 2 ^ 30) (hP : PC x T be) (hTN : T ≤ N) (hNB : N ≤ B) (hN : N < be) : ∀ T', lN N = lN T' → T' ≤ B → (rI x 386 = -1 ∧ rI x 387 = 0) ∨ ∃ p d o, rI x 386 = nI p ∧ p < cnp x ∧ ckd x p ≤ 1 ∧ rI x 387 = nI d ∧ d < cbs x p ∧ o ≤ T' ∧ rL x 389 = lN (T' - o) ∧ o < cbt x p := by
  intro T' e hT'
  have e' : N = T' := (pk_lEQ (by omega) (by omega)).mp e
  subst e'
  rcases hP with ⟨a, b, rfl⟩ | ⟨p, d, o, a1, a2, a3, a4, a5, a6, a7, a8, rfl⟩
  · exact Or.inl ⟨a, b⟩
  · refine Or.inr ⟨p, d, o + (N - T), a1, a2, a3, a4, a5, by omega, ?_, by omega⟩
    rw [a7]
    congr 1
    omega
theorem LvR_g {x z : PD} (hR : LvR x z) : gt z 0 = rI x 386 ∧ gt z 1 = rI x 387 ∧ gt z 2 = rI x 388 := ⟨hR.1, hR.2.1, hR.2.2.1⟩
theorem go_both {B E n : Nat} (hBB : B < 2 ^ 30) (hE : E ≤ B) (hn : n ≤ 20000) : ∀ (f g k T M : Nat) (x z : PD), RelB B M x z → WR x z → rL x 385 = lN T → T ≤ E → k + (E - T) ≤ n → E - T < f → 2 * (E - T) + 2 ≤ g → M + 4 * (E - T) + 4 < 2 ^ 30 → ∃ x' z', f_X5_go_b35 f x (nI n) (lN E) (nI k) = some (lN E, x') ∧ f_X6_go_b42 g z (lN E) 1 = some (lN E, z') ∧ RelB B (M + 4 * (E - T)) x' z' ∧ WR x' z' ∧ rI z' 0 = rI z 0 := by
  intro f
  induction f with
  | zero => intro g k T M x z _ _ _ _ _ h; omega
  | succ f ih =>
    intro g k T M x z h hW hT hTE hk hf hg hM
    obtain ⟨g, rfl⟩ : ∃ g', g = g' + 2 := ⟨g - 2, by omega⟩
    have hV := h.1
    have hSq := h.2.1
    have hX := h.2.2.1
    have hR := h.2.2.2.1
    have hN0 := RelN_of h
    have hnp := hV.np.2
    obtain ⟨⟨be, hP⟩, ⟨se, hSC⟩⟩ := PC_of hBB hX hT (by omega)
    have l1 := PC_lt hV hBB (show T ≤ B by omega) hP
    have l2 := SC_lt hBB (show T ≤ B by omega) hSC
    obtain ⟨N', c1, c2, c3⟩ := next_c hV hBB (show T ≤ B by omega) hP hSC
    have n10 : ¬ (1 : Int32) = 0 := by decide
    have hz0 : ∀ m b, f_X6_go_b42 (m + 1) (wL (wB z 11 b) 15 (lN E)) (lN E) 0 = some (lN E, wL (wB z 11 b) 15 (lN E)) := by
      intro m b
      rw [f_X6_go_b42, if_pos rfl]
      rfl
    rw [next_m hV hSq hR hT hBB (show T ≤ B by omega) hP hSC (g + 1) E, b107_m _ z (rI x 386) l1.2 l2.2 (by omega)]
    rw [f_X5_go_b35, if_neg (show ¬ nI n < nI k by rw [nI_ltI (by omega) (by omega)]; omega), c1, bn1_s]
    by_cases hm : min be se ≤ E
    · have eN : N' = min be se := by omega
      subst eN
      rw [if_pos hm, if_pos (show lg_cmp (lN (min be se)) (lN E) ≤ 0 by rw [lg_le0, pk_lLE (by omega) (by omega)]; exact hm), letv_e]
      obtain ⟨b, hb, hb1, hb2, hb3⟩ := b151_m (f_X6_go_b42 (g + 1)) z (rI x 386) (lN E) (lN se) (lN (min be se)) (lN (min be se)) 1
      rw [hb3]
      unfold f_X6_go_b175
      rw [letv_e, if_neg n10]
      obtain ⟨g0, g1, g2⟩ := LvR_g hR
      have gb : ∀ i, ¬ i = 3 → (b i).toInt32 = gt z i := fun i hi => congrArg Int64.toInt32 (hb i hi)
      by_cases hse : se = min be se
      · -- the sting ends
        have hsn : ¬ rI x 395 = -1 := by
          rcases hSC with ⟨c, e⟩ | ⟨s, d1, d2, d3, d4, d5⟩
          · omega
          · rw [d1]; exact nI_ne_m1 (by omega)
        have h396 : rL x 396 = lN (min be se) := by
          rcases hSC with ⟨c, e⟩ | ⟨s, d1, d2, d3, d4, d5⟩
          · exact absurd c hsn
          · rw [d3, ← hse]
        obtain ⟨P, A1, A2, e, c, q, k1, k2, k3⟩ := mv_S (b := b) hBB (show M < 2 ^ 30 by omega) hN0 hT (show T ≤ min be se by omega) (show min be se ≤ B by omega) hb
        have x395 : rI (wL x 385 (lN (min be se))) 395 = rI x 395 := rfl
        have x396 : rL (wL x 385 (lN (min be se))) 396 = lN (min be se) := h396
        have c5 : Int32.toNatClampNeg 5 = 5 := by decide
        have z5 : gt (wL (wB z 11 b) 15 (lN (min be se))) 5 = rI x 395 := (gb 5 (by omega)).trans hR.2.2.2.2.2.1
        have zb : rB (lgZ (wL (wB z 11 b) 15 (lN (min be se))) P A1 A2 q) 11 = b := rfl
        rw [x395, if_neg hsn, x396, if_pos (show lg_cmp (lN (min be se)) (lN (min be se)) = 0 by rw [lg_eq0]), if_pos (show lg_cmp (lN se) (lN (min be se)) = 0 by rw [lg_eq0, ← hse]), get5, bn1_s, z5, k2, bn1_s, letv_e, c5, zb]
        unfold f_X5_endSting
        rw [x395, k1, bn1_s, letv_e, bn1_s]
        have x386 : rI (wI (lgX (wL x 385 (lN (min be se))) P A1 A2 e c) 395 (-1)) 386 = rI x 386 := rfl
        have t385 : rL (wI (lgX (wL x 385 (lN (min be se))) P A1 A2 e c) 395 (-1)) 385 = lN (min be se) := rfl
        have t387 : rI (wI (lgX (wL x 385 (lN (min be se))) P A1 A2 e c) 395 (-1)) 387 = rI x 387 := rfl
        have t389 : rL (wI (lgX (wL x 385 (lN (min be se))) P A1 A2 e c) 395 (-1)) 389 = rL x 389 := rfl
        have hW1 : WR (wI (lgX (wL x 385 (lN (min be se))) P A1 A2 e c) 395 (-1)) (wB (lgZ (wL (wB z 11 b) 15 (lN (min be se))) P A1 A2 q) 11 (vp_updL b 5 (-1))) := hW
        have z0 : gt (wB (lgZ (wL (wB z 11 b) 15 (lN (min be se))) P A1 A2 q) 11 (vp_updL b 5 (-1))) 0 = rI x 386 := (gb 0 (by omega)).trans g0
        have z1 : gt (wB (lgZ (wL (wB z 11 b) 15 (lN (min be se))) P A1 A2 q) 11 (vp_updL b 5 (-1))) 1 = rI x 387 := (gb 1 (by omega)).trans g1
        have z2 : gt (wB (lgZ (wL (wB z 11 b) 15 (lN (min be se))) P A1 A2 q) 11 (vp_updL b 5 (-1))) 2 = rI x 388 := (gb 2 (by omega)).trans g2
        have z3 : gt (wB (lgZ (wL (wB z 11 b) 15 (lN (min be se))) P A1 A2 q) 11 (vp_updL b 5 (-1))) 3 = (if rI x 386 = -1 then 0 else (lN (min be se) - rL x 389).toInt32) := over_mv hR hT hb1 hb2
        have z00 : rI (wB (lgZ (wL (wB z 11 b) 15 (lN (min be se))) P A1 A2 q) 11 (vp_updL b 5 (-1))) 0 = rI z 0 := rfl
        have hV1 : ScV (wI (lgX (wL x 385 (lN (min be se))) P A1 A2 e c) 395 (-1)) := hV
        by_cases hbe : be = min be se
        · -- and the beat too
          rcases hP with ⟨a, _, e1⟩ | ⟨p, d, o, a1, a2, a3, a4, a5, a6, a7, a8, a9⟩
          · omega
          · obtain ⟨-, -, -, -, -, p4, -, p8, -⟩ := hV.pc a2
            obtain ⟨-, -, m3, -⟩ := hSq.pc hV a2
            have hne : ¬ rI x 386 = -1 := by rw [a1]; exact nI_ne_m1 (by omega)
            have hz3 : gt (wB (lgZ (wL (wB z 11 b) 15 (lN (min be se))) P A1 A2 q) 11 (vp_updL b 5 (-1))) 3 = nI (cbt x p) := by
              rw [z3, if_neg hne, a7, lN_sub (by omega), lN_i]
              congr 1
              omega
            have hz5 : gt (wB (lgZ (wL (wB z 11 b) 15 (lN (min be se))) P A1 A2 q) 11 (vp_updL b 5 (-1))) 5 = -1 := show (-1 : Int64).toInt32 = -1 by decide
            have hzT : rL (wB (lgZ (wL (wB z 11 b) 15 (lN (min be se))) P A1 A2 q) 11 (vp_updL b 5 (-1))) 15 = lN (min be se) := rfl
            have hzb : rA (wB (lgZ (wL (wB z 11 b) 15 (lN (min be se))) P A1 A2 q) 11 (vp_updL b 5 (-1))) 3 p = nI (cbt x p) := m3
            have hmn : min (min be se) 1000000000000 = min be se := by omega
            obtain ⟨b', hb', -, -, hb3'⟩ := b151_m (f_X6_go_b42 g) (wB (lgZ (wL (wB z 11 b) 15 (lN (min be se))) P A1 A2 q) 11 (vp_updL b 5 (-1))) (nI p) (lN E) (lN 1000000000000) (lN (min be se)) (lN (min be se)) 1
            have hmod : f_X6_go_b42 (g + 1) (wB (lgZ (wL (wB z 11 b) 15 (lN (min be se))) P A1 A2 q) 11 (vp_updL b 5 (-1))) (lN E) 1 = bn1 (f_X6_isDone (wL (wB (wB (lgZ (wL (wB z 11 b) 15 (lN (min be se))) P A1 A2 q) 11 (vp_updL b 5 (-1))) 11 b') 15 (lN (min be se)))) fun x8 => f_X6_go_b42 g x8 (lN E) 1 := by
              rw [f_X6_go_b42, if_neg n10, get0, bn1_s, z0, a1, if_neg (nI_ne_m1 (show p < 2 ^ 31 by omega)), inR_nI (show p < 20 by omega) (by decide), gd_t, get3, bn1_s, hz3, nI_clamp (show p < 2 ^ 31 by omega), hzb, hzT, nI_l (show cbt x p < 2 ^ 31 by omega), lN_add, lN_sub (by omega), Nat.add_sub_cancel]
              unfold f_X6_go_b86
              rw [get5, bn1_s, hz5, if_pos rfl, lFar, b107_m _ _ _ (by omega) (by omega) (by omega), hmn, if_pos hm, hb3']
              unfold f_X6_go_b175
              rw [letv_e, if_neg n10, if_neg (by rw [lg_eq0, pk_lEQ (by omega) (by omega)]; omega)]
            obtain ⟨y0, y1, y2⟩ : gt (wL (wB (wB (lgZ (wL (wB z 11 b) 15 (lN (min be se))) P A1 A2 q) 11 (vp_updL b 5 (-1))) 11 b') 15 (lN (min be se))) 0 = rI x 386 ∧ gt (wL (wB (wB (lgZ (wL (wB z 11 b) 15 (lN (min be se))) P A1 A2 q) 11 (vp_updL b 5 (-1))) 11 b') 15 (lN (min be se))) 1 = rI x 387 ∧ gt (wL (wB (wB (lgZ (wL (wB z 11 b) 15 (lN (min be se))) P A1 A2 q) 11 (vp_updL b 5 (-1))) 11 b') 15 (lN (min be se))) 2 = rI x 388 := ⟨(congrArg Int64.toInt32 (hb' 0 (by omega))).trans z0, (congrArg Int64.toInt32 (hb' 1 (by omega))).trans z1, (congrArg Int64.toInt32 (hb' 2 (by omega))).trans z2⟩
            have hN2 : RelN B (M + 1) (wI (lgX (wL x 385 (lN (min be se))) P A1 A2 e c) 395 (-1)) (wL (wB (wB (lgZ (wL (wB z 11 b) 15 (lN (min be se))) P A1 A2 q) 11 (vp_updL b 5 (-1))) 11 b') 15 (lN (min be se))) := mv_N hBB k3 t385 (Nat.le_refl _) (show min be se ≤ B by omega) (fun U hu _ _ => absurd rfl hu) hb'
            have hE2 : RelE B (M + 1) (wI (lgX (wL x 385 (lN (min be se))) P A1 A2 e c) 395 (-1)) (wL (wB (wB (lgZ (wL (wB z 11 b) 15 (lN (min be se))) P A1 A2 q) 11 (vp_updL b 5 (-1))) 11 b') 15 (lN (min be se))) p d := ⟨hN2, a1, a2, a3, a4, a5, y0.trans a1, y1.trans a4, y2⟩
            have hW2 : WR (wI (lgX (wL x 385 (lN (min be se))) P A1 A2 e c) 395 (-1)) (wL (wB (wB (lgZ (wL (wB z 11 b) 15 (lN (min be se))) P A1 A2 q) 11 (vp_updL b 5 (-1))) 11 b') 15 (lN (min be se))) := hW
            obtain ⟨x2, z2', s1, s2, s3, s4, s5, s6⟩ := beat_both (show M + 1 + 2 < 2 ^ 30 by omega) hBB hE2 hW2
            obtain ⟨x', z', r1, r2, r3, r4, r5⟩ := ih g (k + 1) (min be se) (M + 1 + 3) x2 z2' s3 s4 (s6.trans t385) hm (by omega) (by omega) (by omega) (by omega)
            have hcl : f_X5_go_b94 (f_X5_go_b35 f) (wI (lgX (wL x 385 (lN (min be se))) P A1 A2 e c) 395 (-1)) (nI n) (lN E) (nI k) (lN (min be se)) = some (lN E, x') := by
              unfold f_X5_go_b94
              have hbE : f_X5_beatEnd (wI (lgX (wL x 385 (lN (min be se))) P A1 A2 e c) 395 (-1)) = some (lN (T - o + cbt x p)) := beatEnd_c (x := wI (lgX (wL x 385 (lN (min be se))) P A1 A2 e c) 395 (-1)) hV1 a1 a2 a7
              rw [x386, nI_1, if_neg hne, hbE, bn1_s, if_pos (by rw [lg_eq0, ← a9, ← hbe]), s1, bn1_s]
              exact r1
            rw [hcl, hmod, s2, bn1_s, r2]
            exact ⟨x', z', rfl, rfl, RelB_mono (Nat.le_refl _) (by omega) r3, r4, by rw [r5, s5]; rfl⟩
        · have hB1 : RelB B (M + 1) (wI (lgX (wL x 385 (lN (min be se))) P A1 A2 e c) 395 (-1)) (wB (lgZ (wL (wB z 11 b) 15 (lN (min be se))) P A1 A2 q) 11 (vp_updL b 5 (-1))) := N_B k3 (play_mv hBB hP (show T ≤ min be se by omega) (show min be se ≤ B by omega) (show min be se < be by omega)) z0 z1 z2 z3
          obtain ⟨x', z', r1, r2, r3, r4, r5⟩ := ih (g + 1) (k + 1) (min be se) (M + 1) _ _ hB1 hW1 t385 hm (by omega) (by omega) (by omega) (by omega)
          have hcl : f_X5_go_b94 (f_X5_go_b35 f) (wI (lgX (wL x 385 (lN (min be se))) P A1 A2 e c) 395 (-1)) (nI n) (lN E) (nI k) (lN (min be se)) = some (lN E, x') := by
            unfold f_X5_go_b94
            rw [x386, nI_1]
            rcases hP with ⟨a, _, e1⟩ | ⟨p, d, o, a1, a2, a3, a4, a5, a6, a7, a8, a9⟩
            · rw [if_pos a]
              exact r1
            · have hbE : f_X5_beatEnd (wI (lgX (wL x 385 (lN (min be se))) P A1 A2 e c) 395 (-1)) = some (lN be) := by
                rw [a9]
                exact beatEnd_c (x := wI (lgX (wL x 385 (lN (min be se))) P A1 A2 e c) 395 (-1)) hV1 a1 a2 a7
              rw [if_neg (by rw [a1]; exact nI_ne_m1 (by omega)), hbE, bn1_s, if_neg (by rw [lg_eq0, pk_lEQ (by omega) (by omega)]; exact hbe)]
              exact r1
          rw [hcl, r2]
          exact ⟨x', z', rfl, rfl, RelB_mono (Nat.le_refl _) (by omega) r3, r4, r5.trans z00⟩
      · -- the beat ends
        have hbe : be = min be se := by omega
        rcases hP with ⟨a, _, e1⟩ | ⟨p, d, o, a1, a2, a3, a4, a5, a6, a7, a8, a9⟩
        · omega
        · have hne : ¬ rI x 386 = -1 := by rw [a1]; exact nI_ne_m1 (by omega)
          have x395 : rI (wL x 385 (lN (min be se))) 395 = rI x 395 := rfl
          have x396 : rL (wL x 385 (lN (min be se))) 396 = rL x 396 := rfl
          have x386 : rI (wL x 385 (lN (min be se))) 386 = rI x 386 := rfl
          have hV1 : ScV (wL x 385 (lN (min be se))) := hV
          have hN1 : RelN B M (wL x 385 (lN (min be se))) (wL (wB z 11 b) 15 (lN (min be se))) := mv_N hBB hN0 hT (show T ≤ min be se by omega) (show min be se ≤ B by omega) (fun U hu1 hu2 hu3 => by
            rcases hSC with ⟨c, e⟩ | ⟨s, d1, d2, d3, d4, d5⟩
            · exact absurd c hu1
            · have : U = se := (pk_lEQ (by omega) (by omega)).mp (by rw [← hu2, d3])
              omega) hb
          have hE1 : RelE B M (wL x 385 (lN (min be se))) (wL (wB z 11 b) 15 (lN (min be se))) p d := ⟨hN1, a1, a2, a3, a4, a5, ((gb 0 (by omega)).trans g0).trans a1, ((gb 1 (by omega)).trans g1).trans a4, (gb 2 (by omega)).trans g2⟩
          have hW1 : WR (wL x 385 (lN (min be se))) (wL (wB z 11 b) 15 (lN (min be se))) := hW
          obtain ⟨x2, z2', s1, s2, s3, s4, s5, s6⟩ := beat_both (show M + 2 < 2 ^ 30 by omega) hBB hE1 hW1
          have t385 : rL x2 385 = lN (min be se) := s6
          obtain ⟨x', z', r1, r2, r3, r4, r5⟩ := ih (g + 1) (k + 1) (min be se) (M + 3) x2 z2' s3 s4 t385 hm (by omega) (by omega) (by omega) (by omega)
          have hcl : f_X5_go_b94 (f_X5_go_b35 f) (wL x 385 (lN (min be se))) (nI n) (lN E) (nI k) (lN (min be se)) = some (lN E, x') := by
            unfold f_X5_go_b94
            have hbE : f_X5_beatEnd (wL x 385 (lN (min be se))) = some (lN (T - o + cbt x p)) := beatEnd_c (x := wL x 385 (lN (min be se))) hV1 a1 a2 a7
            rw [x386, nI_1, if_neg hne, hbE, bn1_s, if_pos (by rw [lg_eq0, ← a9, ← hbe]), s1, bn1_s]
            exact r1
          rw [if_neg (show ¬ lg_cmp (lN se) (lN (min be se)) = 0 by rw [lg_eq0, pk_lEQ (by omega) (by omega)]; exact hse), s2, bn1_s, r2, x395, x396, hcl]
          have hcs : ∀ y : Option (Int64 × PD), (if rI x 395 = -1 then some (lN E, x') else if lg_cmp (rL x 396) (lN (min be se)) = 0 then y else some (lN E, x')) = some (lN E, x') := by
            intro y
            rcases hSC with ⟨c, e⟩ | ⟨s, d1, d2, d3, d4, d5⟩
            · rw [if_pos c]
            · rw [if_neg (by rw [d1]; exact nI_ne_m1 (by omega)), d3, if_neg (by rw [lg_eq0, pk_lEQ (by omega) (by omega)]; exact hse)]
          rw [hcs]
          exact ⟨x', z', rfl, rfl, RelB_mono (Nat.le_refl _) (by omega) r3, r4, by rw [r5, s5]; rfl⟩
    · have hN' : E < N' := by omega
      rw [if_neg hm, if_neg (show ¬ lg_cmp (lN N') (lN E) ≤ 0 by rw [lg_le0, pk_lLE (by omega) (by omega)]; omega), letv_e]
      obtain ⟨b, hb, hb1, hb2, hb3⟩ := b151_m (f_X6_go_b42 (g + 1)) z (rI x 386) (lN E) (lN se) (lN (min be se)) (lN E) 0
      rw [hb3]
      unfold f_X6_go_b175
      rw [letv_e, if_pos rfl, hz0]
      obtain ⟨g0, g1, g2⟩ := LvR_g hR
      have hN1 : RelN B M (wL x 385 (lN E)) (wL (wB z 11 b) 15 (lN E)) := mv_N hBB hN0 hT hTE hE (fun U hu1 hu2 hu3 => by
        rcases hSC with ⟨c, e⟩ | ⟨s, d1, d2, d3, d4, d5⟩
        · exact absurd c hu1
        · have : U = se := (pk_lEQ (by omega) (by omega)).mp (by rw [← hu2, d3])
          omega) hb
      refine ⟨_, _, rfl, rfl, RelB_mono (Nat.le_refl _) (Nat.le_add_right _ _) (N_B hN1 (play_mv hBB hP hTE hE (by omega)) ?_ ?_ ?_ ?_), hW, rfl⟩
      · exact (congrArg Int64.toInt32 (hb 0 (by omega))).trans g0
      · exact (congrArg Int64.toInt32 (hb 1 (by omega))).trans g1
      · exact (congrArg Int64.toInt32 (hb 2 (by omega))).trans g2
      · show (b 3).toInt32 = (if rI x 386 = -1 then 0 else (lN E - rL x 389).toInt32)
        exact over_mv hR hT hb1 hb2
theorem op_go : Op_go Rel := by
  intro c x z p1 hc hRel
  obtain ⟨hB, hW⟩ := hRel
  have e20 : (20000 : Int32) = nI 20000 := by decide
  unfold f_X5_go f_X6_go g_X5_go f_X6_go_b22
  by_cases a1 : p1 < 0
  · right
    rw [if_pos a1, letv_e, if_pos a1, right_n1 (z := wI z 0 0) rfl, bn2_s, if_pos rfl]
    exact ⟨rfl, _, _, rfl, rfl, bad1 ⟨hB, hW⟩ 0 1⟩
  · obtain ⟨n, hn, rfl⟩ := nI_of a1
    rw [e20]
    by_cases a2 : n ≤ 20000
    · left
      rw [if_neg a1, if_pos (by rw [nI_leI (by omega) (by omega)]; exact a2), letv_e, if_neg a1, if_neg (by rw [nI_ltI (by omega) (by omega)]; omega), right_y (z := wI z 0 0) rfl, bn2_s, if_neg (show ¬ (1 : Int32) = 0 by decide)]
      obtain ⟨T, q1, q2, -⟩ := hB.2.2.1
      have q1' : rL x 385 = lN T := q1
      have z15 : rL (wI z 0 0) 15 = lN T := by
        show rL z 15 = lN T
        rw [LvR_T hB.2.2.2.1]
        exact q1
      rw [z15, q1', nI_l (by omega), lN_add]
      have hB0 : RelB (20000 * (c + 1)) (100000 * c) x (wI z 0 0) := RelB_mono (B := 20000 * c) (M := 100000 * c) (z := wI z 0 0) (by omega) (Nat.le_refl _) hB
      have hE : T + n - T = n := by omega
      obtain ⟨x', z', r1, r2, r3, r4, r5⟩ := go_both (B := 20000 * (c + 1)) (E := T + n) (n := n) (by omega) (by omega) a2 FU FU 0 T (100000 * c) x (wI z 0 0) hB0 hW q1' (by omega) (by omega) (by unfold FU; omega) (by unfold FU; omega) (by omega)
      exact ⟨_, x', z', r1, r2, r5, RelB_mono (Nat.le_refl _) (by omega) r3, r4⟩
    · right
      rw [if_neg a1, if_neg (by rw [nI_leI (by omega) (by omega)]; exact a2), letv_e, if_neg a1, if_pos (by rw [nI_ltI (by omega) (by omega)]; omega), right_n1 (z := wI z 0 0) rfl, bn2_s, if_pos rfl]
      exact ⟨rfl, _, _, rfl, rfl, bad1 ⟨hB, hW⟩ 0 1⟩
