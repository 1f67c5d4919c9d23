/-! ===== PURE: pieces asked for; beginning a piece, meeting the mood; play, ask, leave ===== -/
theorem t32 (a : Int32) : (Int32.toInt64 a).toInt32 = a := by simp
theorem pcs {x : PD} (hV : ScV x) (p1 : Int32) : (∃ p, p1 = nI p ∧ p < cnp x) ∨ (p1 < 0 ∨ (¬ p1 < 0 ∧ rI x 37 ≤ p1)) := by
  by_cases h : p1 < 0
  · exact Or.inr (Or.inl h)
  · obtain ⟨j, hj, rfl⟩ := nI_of h
    have := hV.np
    by_cases h2 : j < cnp x
    · exact Or.inl ⟨j, rfl, h2⟩
    · exact Or.inr (Or.inr ⟨h, by rw [this.1, nI_leI (by omega) hj]; omega⟩)
theorem isPiece_y {x : PD} (hV : ScV x) {p : Nat} (hp : p < cnp x) : f_X2_isPiece x (nI p) = some 1 := by
  have := hV.np
  unfold f_X2_isPiece
  rw [if_neg (nI_pos (by omega)), this.1, if_neg (by rw [nI_leI (by omega) (by omega)]; omega)]
theorem isPiece_n {x : PD} {p1 : Int32} (h : p1 < 0 ∨ (¬ p1 < 0 ∧ rI x 37 ≤ p1)) : f_X2_isPiece x p1 = some 0 := by
  unfold f_X2_isPiece
  rcases h with h | ⟨h1, h2⟩
  · rw [if_pos h]
  · rw [if_neg h1, if_pos h2]
theorem right_y {z : PD} (h0 : rI z 0 = 0) (k : Int32) : f_X6_right z 1 k = some (1, z) := by
  unfold f_X6_right f_X6_right_b16
  rw [if_pos h0, if_neg (by decide), if_pos h0]
theorem right_n1 {z : PD} (h0 : rI z 0 = 0) : f_X6_right z 0 1 = some (0, wI z 0 1) := by
  unfold f_X6_right f_X6_right_b16
  rw [if_pos h0, if_pos rfl]
  rfl
theorem right_n2 {z : PD} (h0 : rI z 0 = 0) : f_X6_right z 0 2 = some (0, wI z 0 2) := by
  unfold f_X6_right f_X6_right_b16
  rw [if_pos h0, if_pos rfl]
  rfl
theorem isPieceM_y {x z : PD} (hV : ScV x) (hS : SEq x z) {p : Nat} (hp : p < cnp x) (h0 : rI z 0 = 0) : f_X6_isPiece z (nI p) = some (1, z) := by
  have := hV.np
  unfold f_X6_isPiece f_X6_isPiece_b18
  rw [if_neg (nI_pos (by omega)), hS.np hV, if_neg (by rw [nI_leI (by omega) (by omega)]; omega), right_y h0, bn2_s]
  rfl
theorem isPieceM_n {x z : PD} (hV : ScV x) (hS : SEq x z) {p1 : Int32} (h : p1 < 0 ∨ (¬ p1 < 0 ∧ rI x 37 ≤ p1)) (h0 : rI z 0 = 0) : f_X6_isPiece z p1 = some (0, wI z 0 1) := by
  unfold f_X6_isPiece f_X6_isPiece_b18
  have e : rI z 1 = rI x 37 := hS.1
  rw [e, right_n1 h0, bn2_s]
  rcases h with h | ⟨h1, h2⟩
  · rw [if_pos h]; rfl
  · rw [if_neg h1, if_pos h2]; rfl
theorem nI_e0 {n : Nat} (h : n < 2 ^ 31) : (nI n = 0) = (n = 0) := by
  have : (0 : Int32) = nI 0 := rfl
  rw [this]; exact propext (nI_eq h (by omega))
theorem nI_e1 {n : Nat} (h : n < 2 ^ 31) : (nI n = 1) = (n = 1) := by
  have : (1 : Int32) = nI 1 := by decide
  rw [this]; exact propext (nI_eq h (by omega))
theorem canPlay_c {x : PD} (hV : ScV x) {p : Nat} (hp : p < cnp x) : f_X2_canPlay x (nI p) = some (if ckd x p ≤ 1 then 1 else 0) := by
  obtain ⟨k1, k2, -, -, -, -, -, -, -, -, h20⟩ := hV.pc hp
  unfold f_X2_canPlay
  rw [isPiece_y hV hp, bn1_s, if_neg (by decide), inR_nI h20 (by decide), gd_t, gd_t, nI_clamp (by omega), k1]
  simp only [nI_e0 (show ckd x p < 2 ^ 31 by omega), nI_e1 (show ckd x p < 2 ^ 31 by omega)]
  by_cases a : ckd x p = 0
  · rw [if_pos a, if_pos (by omega)]
  · rw [if_neg a]
    by_cases b : ckd x p = 1
    · rw [if_pos b, if_pos (by omega)]
    · rw [if_neg b, if_neg (by omega)]
theorem isMain_m {x z : PD} (hV : ScV x) (hS : SEq x z) {p : Nat} (hp : p < cnp x) : f_X6_isMain z (nI p) = some (if ckd x p ≤ 1 then 1 else 0) := by
  obtain ⟨-, k2, -, -, -, -, -, -, -, -, h20⟩ := hV.pc hp
  obtain ⟨m1, -⟩ := hS.pc hV hp
  unfold f_X6_isMain
  rw [inR_nI h20 (by decide), gd_t, gd_t, nI_clamp (by omega), m1]
  simp only [nI_e0 (show ckd x p < 2 ^ 31 by omega), nI_e1 (show ckd x p < 2 ^ 31 by omega)]
  by_cases a : ckd x p = 0
  · rw [if_pos a, if_pos (by omega)]
  · rw [if_neg a]
    by_cases b : ckd x p = 1
    · rw [if_pos b, if_pos (by omega)]
    · rw [if_neg b, if_neg (by omega)]
theorem LiveR_4 {pl dn tu md md' wt sn : Int32} {tm bg un : Int64} {tp lv wa : Nat → Int32} {b : Nat → Int64} {zt zs v : Int64} (h : LiveR pl dn tu md wt sn tm bg un tp lv wa b zt zs) (hv : v.toInt32 = md') : LiveR pl dn tu md' wt sn tm bg un tp lv wa (vp_updL b 4 v) zt zs := by
  obtain ⟨h0, h1, h2, h3, h4, h5, h6, h7, h8, h9, h10, h11⟩ := h
  refine ⟨h0, h1, h2, h3, hv, h5, h6, fun i hi => ?_, fun i hi => ?_, fun i hi => ?_, h10, h11⟩
  · simp only [vp_updL]; rw [if_neg (by omega)]; exact h7 i hi
  · simp only [vp_updL]; rw [if_neg (by omega)]; exact h8 i hi
  · simp only [vp_updL]; rw [if_neg (by omega)]; exact h9 i hi
theorem LvR_T {x z : PD} (h : LvR x z) : rL z 15 = rL x 385 := h.2.2.2.2.2.2.2.2.2.2.1
def WN (x z : PD) : Prop := rI x 1285 = 0 ∧ rI x 1286 = 0 ∧ rI z 20 = 0 ∧ rI z 21 = 0 ∧ rI z 22 = 0
theorem findWay_none {x : PD} (h : rI x 386 = -1 ∨ rI x 390 = -1) : f_X1_findWay x = some (wyX x (rB x 42) (rA x 43) (rA x 44) (rI x 1283) 0 0) := by
  have e0 : wI (wI x 1285 0) 1286 0 = wyX x (rB x 42) (rA x 43) (rA x 44) (rI x 1283) 0 0 := by
    refine XW_form (x := x) (x' := wI (wI x 1285 0) 1286 0) ⟨fun i h1 h2 h3 => ?_, fun i => rfl, fun i _ _ => rfl, fun i _ => rfl⟩
    simp only [rI_wI, if_neg h2, if_neg h3]
  unfold f_X1_findWay f_X1_forget
  simp only [letv_e, bn1_s]
  rw [e0]
  have r386 : rI (wyX x (rB x 42) (rA x 43) (rA x 44) (rI x 1283) 0 0) 386 = rI x 386 := rfl
  have r390 : rI (wyX x (rB x 42) (rA x 43) (rA x 44) (rI x 1283) 0 0) 390 = rI x 390 := rfl
  rw [r386, r390]
  by_cases a1 : rI x 386 = -1
  · rw [if_pos a1]
  · rw [if_neg a1, if_pos (h.resolve_left a1)]
/-- the mood is met: both log it and forget it -/
theorem met_rel {B M : Nat} {x z : PD} (hM : M < 2 ^ 30) (h : RelB B M x z) : ∃ P A1 A2 e c, ∃ z', f_X0_add x 4 (rI x 390) = some (lgX x P A1 A2 e c) ∧ f_X6_met z = some z' ∧ RelB B (M + 1) (wI (wI (wI (lgX x P A1 A2 e c) 390 (-1)) 1285 0) 1286 0) z' ∧ WN (wI (wI (wI (lgX x P A1 A2 e c) 390 (-1)) 1285 0) 1286 0) z' ∧ rI z' 0 = rI z 0 := by
  obtain ⟨hV, hS, hX, hR, hL, hTV, s0, s1, s2, s3⟩ := h
  have g4 : gt z 4 = rI x 390 := hR.2.2.2.2.1
  obtain ⟨P, A1, A2, e, c, n, k1, k2, k3⟩ := add_both 4 (rI x 390) hM (LvR_T hR) hL
  have hf := finds_none (z := wB (lgZ z P A1 A2 n) 11 (vp_updL (rB (lgZ z P A1 A2 n) 11) 4 (-1))) (Or.inl rfl)
  refine ⟨P, A1, A2, e, c, wyZ (wB (lgZ z P A1 A2 n) 11 (vp_updL (rB (lgZ z P A1 A2 n) 11) 4 (-1))) (rB z 20) (rA z 21) (rA z 16) 0 0 0, k1, ?_, ⟨hV, hS, ?_, ?_, k3, hTV, s0, s1, s2, s3⟩, ⟨rfl, rfl, rfl, rfl, rfl⟩, rfl⟩
  · unfold f_X6_met
    rw [get4, bn1_s, g4, k2, bn1_s, letv_e]
    have e4 : Int32.toNatClampNeg 4 = 4 := by decide
    rw [e4, hf, bn1_s]
    rfl
  · obtain ⟨T, q1, q2, q3, q4, q5⟩ := hX
    exact ⟨T, q1, q2, q3, Or.inl rfl, q5⟩
  · exact LiveR_4 (v := -1) hR (show (-1 : Int64).toInt32 = -1 by decide)
theorem meet_rel {B M : Nat} {x z : PD} (hM : M < 2 ^ 30) (h : RelB B M x z) :
    (f_X5_meetMood x = some (0, x) ∧ (rI x 386 = -1 ∨ rI x 390 = -1 ∨ ∃ p m, rI x 386 = nI p ∧ rI x 390 = nI m ∧ p < cnp x ∧ m ≤ 7 ∧ mbit x m p = 0)) ∨
    (∃ x' z', f_X5_meetMood x = some (1, x') ∧ f_X6_met z = some z' ∧ RelB B (M + 1) x' z' ∧ WN x' z' ∧ (rI z' 0 = rI z 0 ∧ rL x' 385 = rL x 385 ∧ rI x' 386 = rI x 386) ∧ rI x' 390 = -1 ∧ ∃ p m, rI x 386 = nI p ∧ rI x 390 = nI m ∧ p < cnp x ∧ m ≤ 7 ∧ ¬ mbit x m p = 0) := by
  have hV := h.1
  have hnp := hV.np.2
  have hX := h.2.2.1
  unfold f_X5_meetMood
  by_cases a1 : rI x 386 = -1
  · rw [if_pos a1]; exact Or.inl ⟨rfl, Or.inl a1⟩
  · rw [if_neg a1]
    by_cases a2 : rI x 390 = -1
    · rw [if_pos a2]; exact Or.inl ⟨rfl, Or.inr (Or.inl a2)⟩
    · rw [if_neg a2]
      obtain ⟨p, d, o, hL⟩ := (LvX_pl hX).resolve_left a1
      obtain ⟨m, hm, hm7⟩ := (LvX_md hX).resolve_left a2
      have hp := hL.2.1
      have hh : f_X2_hasMood x (rI x 386) (rI x 390) = some (if mbit x m p = 0 then 0 else 1) := by rw [hL.1, hm]; exact hasMood_c (by omega) hm7
      rw [hh, bn1_s]
      by_cases a3 : mbit x m p = 0
      · rw [if_pos a3, if_pos rfl]
        exact Or.inl ⟨rfl, Or.inr (Or.inr ⟨p, m, hL.1, hm, hp, hm7, a3⟩)⟩
      · rw [if_neg a3, if_neg (by decide)]
        obtain ⟨P, A1, A2, e, c, z', k1, k2, k3, k4, k5⟩ := met_rel hM h
        rw [k1, bn1_s]
        exact Or.inr ⟨_, z', rfl, k2, k3, k4, ⟨k5, rfl, rfl⟩, rfl, p, m, hL.1, hm, hp, hm7, a3⟩
/-- all but what plays -/
def LvN (x : PD) (B : Nat) : Prop := ∃ T, rL x 385 = lN T ∧ T ≤ B ∧ (rI x 390 = -1 ∨ ∃ m, rI x 390 = nI m ∧ m ≤ 7) ∧ (∃ w, rI x 394 = nI w ∧ w ≤ 4 ∧ ∀ i, i < w → ∃ s, rA x 15 i = nI s ∧ s < cnp x) ∧ (rI x 395 = -1 ∨ ∃ s U, rI x 395 = nI s ∧ s < cnp x ∧ rL x 396 = lN U ∧ T < U ∧ U ≤ T + 153600) ∧ (∀ p, p < 20 → 0 ≤ rA x 13 p) ∧ (∀ p, cnp x ≤ p → p < 20 → rA x 14 p = 0)
def LvRN (x z : PD) : Prop := gt z 4 = rI x 390 ∧ gt z 5 = rI x 395 ∧ gt z 6 = rI x 394 ∧ (∀ i, i < 4 → gt z (7 + i) = rA x 15 i) ∧ (∀ p, p < 20 → gt z (16 + p) = rA x 13 p) ∧ (∀ p, p < 20 → gt z (36 + p) = rA x 14 p) ∧ rL z 15 = rL x 385 ∧ rL z 16 = rL x 396
def RelN (B M : Nat) (x z : PD) : Prop := ScV x ∧ SEq x z ∧ LvN x B ∧ LvRN x z ∧ LogR x z M ∧ TV x ∧ SlR x z B 512 17 0 ∧ SlR x z B 640 21 1 ∧ SlR x z B 768 25 2 ∧ SlR x z B 896 29 3
theorem RelN_of {B M : Nat} {x z : PD} (h : RelB B M x z) : RelN B M x z := by
  obtain ⟨hV, hS, ⟨T, q1, q2, q3, q4, q5⟩, ⟨h0, h1, h2, h3, h4, h5, h6, h7, h8, h9, h10, h11⟩, hr⟩ := h
  exact ⟨hV, hS, ⟨T, q1, q2, q4, q5⟩, ⟨h4, h5, h6, h7, h8, h9, h10, h11⟩, hr⟩
/-- a piece begins: both states before the mood is looked at -/
def bgX (x : PD) (p q : Int32) : PD := wL (wI (wI (wI x 386 p) 388 q) 387 0) 389 (rL x 385)
def bgB (b : Nat → Int64) (p q : Int32) : Nat → Int64 := vp_updL (vp_updL (vp_updL (vp_updL b 0 (Int32.toInt64 p)) 1 0) 3 0) 2 (Int32.toInt64 q)
def bgZ (z : PD) (p q : Int32) : PD := wB z 11 (bgB (rB z 11) p q)
theorem bg_rel {B M : Nat} {x z : PD} {p : Nat} (q : Int32) (h : RelN B M x z) (hp : p < cnp x) (hk : ckd x p ≤ 1) : RelB B M (bgX x (nI p) q) (bgZ z (nI p) q) := by
  obtain ⟨hV, hS, hX, hR, hL, hTV, s0, s1, s2, s3⟩ := h
  refine ⟨hV, hS, ?_, ?_, hL, hTV, s0, s1, s2, s3⟩
  · obtain ⟨T, q1, q2, q4, q5⟩ := hX
    obtain ⟨-, -, -, k4, -, -, k7, -⟩ := hV.pc hp
    exact ⟨T, q1, q2, Or.inr ⟨p, 0, 0, rfl, hp, hk, rfl, by show 0 < cbs x p; omega, Nat.zero_le _, q1, by show 0 < cbt x p; omega⟩, q4, q5⟩
  · obtain ⟨h4, h5, h6, h7, h8, h9, h10, h11⟩ := hR
    have hnp := hV.np.2
    refine ⟨t32 _, show (0 : Int64).toInt32 = 0 by decide, t32 _, ?_, h4, h5, h6, fun i hi => ?_, fun i hi => ?_, fun i hi => ?_, h10, h11⟩
    · show (0 : Int64).toInt32 = if nI p = -1 then 0 else (rL x 385 - rL x 385).toInt32
      rw [if_neg (nI_ne_m1 (by omega))]
      have : rL x 385 - rL x 385 = 0 := by simp
      rw [this]
    · show (bgB (rB z 11) (nI p) q (7 + i)).toInt32 = _
      simp only [bgB, vp_updL]; rw [if_neg (by omega), if_neg (by omega), if_neg (by omega), if_neg (by omega)]; exact h7 i hi
    · show (bgB (rB z 11) (nI p) q (16 + i)).toInt32 = _
      simp only [bgB, vp_updL]; rw [if_neg (by omega), if_neg (by omega), if_neg (by omega), if_neg (by omega)]; exact h8 i hi
    · show (bgB (rB z 11) (nI p) q (36 + i)).toInt32 = _
      simp only [bgB, vp_updL]; rw [if_neg (by omega), if_neg (by omega), if_neg (by omega), if_neg (by omega)]; exact h9 i hi
theorem wB_wB {z : PD} {k : Nat} {f g : Nat → Int64} : wB (wB z k f) k g = wB z k g := by
  unfold wB
  simp only [bx_uu]
theorem begin_c (x : PD) (p q : Int32) : f_X5_begin x p q = bn2 (f_X5_meetMood (bgX x p q)) fun _ x6 => some x6 := rfl
theorem begins_m (z : PD) (p q r : Int32) : f_X6_begins z p q r = (if gt (bgZ z p q) 4 = -1 then f_X6_begins_b59 (bgZ z p q) r else bn1 (f_X6_has (bgZ z p q) p (gt (bgZ z p q) 4)) fun r8 => if r8 = 0 then f_X6_begins_b59 (bgZ z p q) r else bn1 (f_X6_met (bgZ z p q)) fun x9 => some x9) := by
  unfold f_X6_begins
  have e0 : Int32.toNatClampNeg 0 = 0 := by decide
  have e1 : Int32.toNatClampNeg 1 = 1 := by decide
  have e2 : Int32.toNatClampNeg 2 = 2 := by decide
  have e3 : Int32.toNatClampNeg 3 = 3 := by decide
  have r11 : ∀ (y : PD) (f : Nat → Int64), rB (wB y 11 f) 11 = f := fun _ _ => rfl
  simp only [letv_e, e0, e1, e2, e3, r11, wB_wB]
  have : wB z 11 (vp_updL (vp_updL (vp_updL (vp_updL (rB z 11) 0 (Int32.toInt64 p)) 1 0) 3 0) 2 (Int32.toInt64 q)) = bgZ z p q := rfl
  rw [this, get4, bn1_s, bn1_s]
/-- .. and then the way is looked for -/
theorem begin_find {B M : Nat} {x z : PD} {p : Nat} (q : Int32) (hM : M < 2 ^ 30) (h : RelN B M x z) (hp : p < cnp x) (hk : ckd x p ≤ 1) : ∃ x1 x' z', f_X5_begin x (nI p) q = some x1 ∧ f_X1_findWay x1 = some x' ∧ f_X6_begins z (nI p) q 0 = some z' ∧ RelB B (M + 1) x' z' ∧ WR x' z' ∧ (rI z' 0 = rI z 0 ∧ rL x' 385 = rL x 385 ∧ rI x' 386 = nI p) := by
  have hb := bg_rel q h hp hk
  have hnp := h.1.np.2
  have g4 : gt (bgZ z (nI p) q) 4 = rI x 390 := h.2.2.2.1.1
  rw [begin_c, begins_m, g4]
  rcases meet_rel hM hb with ⟨k1, k2⟩ | ⟨x', z', k1, k2, k3, k4, k5, k6, p', m, j1, j2, j3, j4, j5⟩
  · obtain ⟨F, G, W, a, b, F', G', W', a', b', w1, w2, w3, w4⟩ := find_rel hb
    have hfind : (if rI x 390 = -1 then f_X6_begins_b59 (bgZ z (nI p) q) 0 else bn1 (f_X6_has (bgZ z (nI p) q) (nI p) (rI x 390)) fun r8 => if r8 = 0 then f_X6_begins_b59 (bgZ z (nI p) q) 0 else bn1 (f_X6_met (bgZ z (nI p) q)) fun x9 => some x9) = some (wyZ (bgZ z (nI p) q) F' G' W' a' b' 0) := by
      have h59 : f_X6_begins_b59 (bgZ z (nI p) q) 0 = some (wyZ (bgZ z (nI p) q) F' G' W' a' b' 0) := by
        unfold f_X6_begins_b59
        rw [if_pos rfl, w2, bn1_s]
      by_cases a2 : rI x 390 = -1
      · rw [if_pos a2, h59]
      · rw [if_neg a2]
        rcases k2 with k2 | k2 | ⟨p', m, j1, j2, j3, j4, j5⟩
        · exact absurd k2 (nI_ne_m1 (show p < 2 ^ 31 by omega))
        · exact absurd k2 a2
        · have hpp : p = p' := nI_inj (by omega) (by have : p' < cnp x := j3; omega) j1
          subst hpp
          have j2' : rI x 390 = nI m := j2
          have hh : f_X6_has (bgZ z (nI p) q) (nI p) (nI m) = some (if mbit (bgX x (nI p) q) m p = 0 then 0 else 1) := has_m hb.2.1 (by omega) j4
          rw [j2', hh, bn1_s, if_pos j5, if_pos rfl, h59]
    rw [k1, bn2_s, hfind]
    exact ⟨_, _, _, rfl, w1, rfl, RelB_mono (Nat.le_refl _) (by omega) w3, w4, rfl, rfl, rfl⟩
  · have hf := findWay_none (x := x') (Or.inr k6)
    have hpp : p = p' := nI_inj (by omega) (by have : p' < cnp x := j3; omega) j1
    subst hpp
    have j2' : rI x 390 = nI m := j2
    have hh : f_X6_has (bgZ z (nI p) q) (nI p) (nI m) = some (if mbit (bgX x (nI p) q) m p = 0 then 0 else 1) := has_m hb.2.1 (by omega) j4
    rw [j2', if_neg (nI_ne_m1 (by omega)), hh, bn1_s, if_neg j5, if_neg (by decide), k2, bn1_s, k1, bn2_s]
    exact ⟨_, _, _, rfl, hf, rfl, k3, Or.inl ⟨rfl, rfl, k4.2.2⟩, k5.1, k5.2.1, k5.2.2⟩
theorem op_play : Op_play Rel := by
  intro c x z p1 hc hRel
  obtain ⟨hB, hW⟩ := hRel
  have hV := hB.1
  have hS := hB.2.1
  have hnp := hV.np.2
  have hB0 : RelB (20000 * c) (100000 * c) x (wI z 0 0) := hB
  unfold f_X5_play f_X6_play g_X5_play f_X5_checkPiece g_X5_checkPiece
  rcases pcs hV p1 with ⟨p, rfl, hp⟩ | hn
  · left
    rw [isPiece_y hV hp, bn1_s, if_neg (by decide), bn1_s, letv_e, isPieceM_y (z := wI z 0 0) hV hS hp rfl, bn2_s, if_neg (by decide), canPlay_c hV hp, bn1_s, isMain_m (z := wI z 0 0) hV hS hp, bn1_s]
    by_cases hk : ckd x p ≤ 1
    · rw [if_pos hk, if_neg (by decide), if_neg (by decide)]
      obtain ⟨P, A1, A2, e, c', n, k1, k2, k3⟩ := add_both (x := x) (z := wI z 0 0) 0 (nI p) (by omega) (LvR_T hB0.2.2.2.1) hB0.2.2.2.2.1
      obtain ⟨b1, b2, b3, b4, b5, b6, b7, b8, b9, b10⟩ := hB0
      have hB1 : RelB (20000 * c) (100000 * c + 1) (lgX x P A1 A2 e c') (lgZ (wI z 0 0) P A1 A2 n) := ⟨b1, b2, b3, b4, k3, b6, b7, b8, b9, b10⟩
      obtain ⟨x1, x', z', q1, q2, q3, q4, q5, q6⟩ := begin_find (p := p) 1 (by omega) (RelN_of hB1) hp hk
      rw [k1, bn1_s, q1, bn1_s, q2, bn1_s, k2, bn1_s, q3, bn1_s]
      exact ⟨1, x', z', rfl, rfl, by rw [q6.1]; rfl, Rel_of (RelB_mono (Nat.le_refl _) (by omega) q4) q5⟩
    · rw [if_neg hk, if_pos rfl, if_pos rfl]
      exact ⟨0, x, wI z 0 0, rfl, rfl, rfl, Rel_of (RelB_mono (Nat.le_refl _) (by omega) hB0) hW⟩
  · right
    rw [isPiece_n hn, bn1_s, if_pos rfl, letv_e, isPieceM_n (z := wI z 0 0) hV hS hn rfl, bn2_s, if_pos rfl]
    exact ⟨rfl, 0, _, rfl, rfl, Rel_of (RelB_mono (B := 20000 * c) (M := 100000 * c) (z := wI (wI z 0 0) 0 1) (Nat.le_refl _) (by omega) hB) hW⟩
theorem op_leave : Op_leave Rel := by
  intro c x z hc hRel
  obtain ⟨hB, hW⟩ := hRel
  unfold f_X5_leave f_X6_leave f_X1_forget
  have g4 : gt (wI z 0 0) 4 = rI x 390 := hB.2.2.2.1.2.2.2.2.1
  have e4 : Int32.toNatClampNeg 4 = 4 := by decide
  simp only [letv_e, bn1_s]
  rw [get4, bn1_s, g4, e4, finds_none (Or.inl rfl), bn1_s]
  obtain ⟨b1, b2, b3, b4, b5, b6, b7, b8, b9, b10⟩ := hB
  refine ⟨_, _, _, rfl, rfl, Rel_of (RelB_mono (B := 20000 * c) (M := 100000 * c) (Nat.le_refl _) (by omega) ⟨b1, b2, ?_, ?_, b5, b6, b7, b8, b9, b10⟩) (Or.inl ⟨rfl, rfl, rfl, rfl, rfl⟩)⟩
  · obtain ⟨T, q1, q2, q3, q4, q5⟩ := b3
    exact ⟨T, q1, q2, q3, Or.inl rfl, q5⟩
  · exact LiveR_4 (v := -1) b4 (show (-1 : Int64).toInt32 = -1 by decide)
theorem checkMood {p1 : Int32} : (∃ m, p1 = nI m ∧ m ≤ 7) ∨ (p1 < 0 ∨ (¬ p1 < 0 ∧ ¬ p1 < 8)) := by
  by_cases h : p1 < 0
  · exact Or.inr (Or.inl h)
  · obtain ⟨j, hj, rfl⟩ := nI_of h
    have e8 : (8 : Int32) = nI 8 := by decide
    by_cases h2 : j ≤ 7
    · exact Or.inl ⟨j, rfl, h2⟩
    · exact Or.inr (Or.inr ⟨h, by rw [e8, nI_ltI hj (by omega)]; omega⟩)
theorem ckM_y {x : PD} {m : Nat} (hm : m ≤ 7) : f_X5_checkMood x (nI m) = some () := by
  have e8 : (8 : Int32) = nI 8 := by decide
  unfold f_X5_checkMood
  rw [if_neg (nI_pos (by omega)), e8, if_pos (by rw [nI_ltI (by omega) (by omega)]; omega)]
theorem ckM_n {x : PD} {p1 : Int32} (h : p1 < 0 ∨ (¬ p1 < 0 ∧ ¬ p1 < 8)) : g_X5_checkMood x p1 = some 2 := by
  unfold g_X5_checkMood
  rcases h with h | ⟨h1, h2⟩
  · rw [if_pos h]
  · rw [if_neg h1, if_neg h2]
theorem nlt8 {p1 : Int32} (h : ¬ p1 < 8) : 7 < p1 := by
  have h1 : ¬ p1.toInt < (8 : Int32).toInt := by rw [← Int32.lt_iff_toInt_lt]; exact h
  rw [Int32.lt_iff_toInt_lt]
  have e1 : (8 : Int32).toInt = 8 := by decide
  have e2 : (7 : Int32).toInt = 7 := by decide
  omega
theorem op_ask : Op_ask Rel := by
  intro c x z p1 hc hRel
  obtain ⟨hB, hW⟩ := hRel
  have hV := hB.1
  have hS := hB.2.1
  have hnp := hV.np.2
  have e7 : (7 : Int32) = nI 7 := by decide
  have e4 : Int32.toNatClampNeg 4 = 4 := by decide
  unfold f_X5_ask f_X6_ask g_X5_ask
  rcases checkMood (p1 := p1) with ⟨m, rfl, hm⟩ | hn
  · left
    rw [ckM_y hm, bn1_s, letv_e, letv_e, if_neg (nI_pos (by omega)), e7, if_neg (by rw [nI_ltI (by omega) (by omega)]; omega)]
    unfold f_X6_ask_b21
    rw [right_y (z := wI z 0 0) rfl, bn2_s, if_neg (by decide), letv_e, e4]
    have hB1 : RelB (20000 * c) (100000 * c) (wI x 390 (nI m)) (wB (wI z 0 0) 11 (vp_updL (rB (wI z 0 0) 11) 4 (Int32.toInt64 (nI m)))) := by
      obtain ⟨b1, b2, b3, b4, b5, b6, b7, b8, b9, b10⟩ := hB
      refine ⟨b1, b2, ?_, ?_, b5, b6, b7, b8, b9, b10⟩
      · obtain ⟨T, q1, q2, q3, q4, q5⟩ := b3
        exact ⟨T, q1, q2, q3, Or.inr ⟨m, rfl, hm⟩, q5⟩
      · exact LiveR_4 (v := Int32.toInt64 (nI m)) b4 (t32 _)
    have g0 : gt (wB (wI z 0 0) 11 (vp_updL (rB (wI z 0 0) 11) 4 (Int32.toInt64 (nI m)))) 0 = rI x 386 := hB1.2.2.2.1.1
    rw [get0, bn1_s, g0, bn1_s]
    have fin : ∃ r x1 z1, (bn1 (f_X1_findWay (wI x 390 (nI m))) fun x4 => bn1 (f_X5_stepsLeft x4) fun r5 => some (r5, x4)) = some (r, x1) ∧ f_X6_ask_b66 (wB (wI z 0 0) 11 (vp_updL (rB (wI z 0 0) 11) 4 (Int32.toInt64 (nI m)))) = some (r, z1) ∧ rI z1 0 = 0 ∧ Rel (c + 1) x1 z1 := by
      obtain ⟨F, G, W, a, b, F', G', W', a', b', w1, w2, w3, w4⟩ := find_rel hB1
      unfold f_X6_ask_b66
      rw [w1, bn1_s, w2, bn1_s]
      unfold f_X5_stepsLeft f_X1_left
      rw [bn1_s]
      have hRl : Rel (c + 1) (wyX (wI x 390 (nI m)) F G W a b 0) (wyZ (wB (wI z 0 0) 11 (vp_updL (rB (wI z 0 0) 11) 4 (Int32.toInt64 (nI m)))) F' G' W' a' b' 0) := Rel_of (RelB_mono (Nat.le_refl _) (by omega) w3) w4
      rcases w4 with ⟨c1, c2, c3, c4, c5⟩ | ⟨m', t, p, d, s, k, n, -, -, -, -, -, -, -, -, -, -, -, -, hkn, c6, c5, c20, c21, c22, -⟩
      · rw [c1, c2, c3, if_pos (by decide), if_pos rfl, bn1_s]
        exact ⟨_, _, _, rfl, rfl, rfl, hRl⟩
      · have hk0 : k = 0 := by
          have : (0 : Int32) = nI k := c6
          exact (nI_inj (a := 0) (by omega) (by omega) this).symm
        subst hk0
        rw [c5, c6, c20, c21, pk_sub (by omega), if_neg (by rw [nI_e0 (by omega)]; omega), if_neg (by decide), bn1_s]
        refine ⟨_, _, _, ?_, rfl, rfl, hRl⟩
        rw [Nat.sub_zero]
    rcases meet_rel (by omega) hB1 with ⟨k1, k2⟩ | ⟨x', z', k1, k2, k3, k4, k5, k6, p', m', j1, j2, j3, j4, j5⟩
    · rw [k1, bn2_s, if_pos rfl]
      by_cases a1 : rI x 386 = -1
      · rw [if_pos a1]; exact fin
      · rw [if_neg a1]
        rcases k2 with k2 | k2 | ⟨p, m', j1, j2, j3, j4, j5⟩
        · exact absurd k2 a1
        · exact absurd k2 (nI_ne_m1 (show m < 2 ^ 31 by omega))
        · have hmm : m = m' := nI_inj (by omega) (by omega) j2
          subst hmm
          have j1' : rI x 386 = nI p := j1
          have hp' : p < cnp x := j3
          rw [j1', has_m hB1.2.1 (by omega) hm, bn1_s, if_pos j5, if_pos rfl]
          exact fin
    · have hmm : m = m' := nI_inj (by omega) (by omega) j2
      subst hmm
      have j1' : rI x 386 = nI p' := j1
      have hp' : p' < cnp x := j3
      rw [k1, bn2_s, if_neg (by decide), j1', if_neg (nI_ne_m1 (by omega)), has_m hB1.2.1 (by omega) hm, bn1_s, if_neg j5, if_neg (by decide), k2, bn1_s]
      exact ⟨_, _, _, rfl, rfl, by rw [k5.1]; rfl, Rel_of (RelB_mono (Nat.le_refl _) (by omega) k3) (Or.inl k4)⟩
  · right
    refine ⟨ckM_n hn, 0, wI (wI z 0 0) 0 1, ?_, rfl, Rel_of (RelB_mono (B := 20000 * c) (M := 100000 * c) (z := wI (wI z 0 0) 0 1) (Nat.le_refl _) (by omega) hB) hW⟩
    unfold f_X6_ask_b21
    rw [letv_e, right_n1 (z := wI z 0 0) rfl, bn2_s, if_pos rfl]
    rcases hn with h | ⟨h1, h2⟩
    · rw [if_pos h]
    · rw [if_neg h1, if_pos (nlt8 h2)]
