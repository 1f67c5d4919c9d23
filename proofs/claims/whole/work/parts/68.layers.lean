/-! ===== PURE: layers and stings behind a beat ===== -/
theorem wA_self (z : PD) (k : Nat) : wA z k (rA z k) = z := by
  apply PD_ext
  · intro i; rfl
  · intro i; rfl
  · intro i
    simp only [rA_wA]
    split
    · next e => rw [e]
    · rfl
  · intro i; rfl
theorem lev_w {B M : Nat} {x z : PD} (h : RelB B M x z) {p : Nat} (hp : p < cnp x) (r : Int32) (v : Int64) (hv : v.toInt32 = rA x 14 p + r) : RelB B M (wA x 14 (upd (rA x 14) p (rA x 14 p + r))) (wB z 11 (vp_updL (rB z 11) (36 + p) v)) := by
  obtain ⟨b1, b2, b3, b4, b5, b6, b7, b8, b9, b10⟩ := h
  refine ⟨b1, b2, ?_, ?_, b5, b6, b7, b8, b9, b10⟩
  · obtain ⟨T, q1, q2, q3, q4, q5, q6, q7, q8⟩ := b3
    refine ⟨T, q1, q2, q3, q4, q5, q6, q7, fun q hq hq2 => ?_⟩
    have hq' : cnp x ≤ q := hq
    exact (upd_ne (by omega)).trans (q8 q hq hq2)
  · obtain ⟨h0, h1, h2, h3, h4, h5, h6, h7, h8, h9, h10, h11⟩ := b4
    refine ⟨?_, ?_, ?_, ?_, ?_, ?_, ?_, fun i hi => ?_, fun i hi => ?_, fun i hi => ?_, h10, h11⟩
    · exact (congrArg Int64.toInt32 (updL_ne (by omega))).trans h0
    · exact (congrArg Int64.toInt32 (updL_ne (by omega))).trans h1
    · exact (congrArg Int64.toInt32 (updL_ne (by omega))).trans h2
    · exact (congrArg Int64.toInt32 (updL_ne (by omega))).trans h3
    · exact (congrArg Int64.toInt32 (updL_ne (by omega))).trans h4
    · exact (congrArg Int64.toInt32 (updL_ne (by omega))).trans h5
    · exact (congrArg Int64.toInt32 (updL_ne (by omega))).trans h6
    · exact (congrArg Int64.toInt32 (updL_ne (by omega))).trans (h7 i hi)
    · exact (congrArg Int64.toInt32 (updL_ne (by omega))).trans (h8 i hi)
    · show (vp_updL (rB z 11) (36 + p) v (36 + i)).toInt32 = upd (rA x 14) p (rA x 14 p + r) i
      by_cases e : i = p
      · subst e
        rw [upd_eq, updL_eq]
        exact hv
      · rw [upd_ne e, updL_ne (by omega)]
        exact h9 i hi
theorem lev_0 (x : PD) (p : Nat) : wA x 14 (upd (rA x 14) p (rA x 14 p + 0)) = x := by
  have e : upd (rA x 14) p (rA x 14 p + 0) = rA x 14 := by
    funext i
    by_cases h : i = p
    · rw [h, upd_eq]; simp
    · rw [upd_ne h]
  rw [e, wA_self]
theorem b52_c {x : PD} {p : Nat} (hp : p < 20) (r : Int32) : f_X3_moveLevel_b52 x (nI p) r = some (r, wA x 14 (upd (rA x 14) p (rA x 14 p + r))) := by
  unfold f_X3_moveLevel_b52
  rw [inR_nI hp (by decide), gd_t, gd_t, letv_e, nI_clamp (by omega)]
theorem layers_both {B M : Nat} : ∀ (n i : Nat) (x z : PD), RelB B M x z → WR x z → cnp x - i < n → i ≤ cnp x → ∃ x' z', f_X5_moveLayers_b33 n x (S32 (rA x 14) 20 0) (nI i) = some x' ∧ f_X6_layers_b2 n z (nI i) = some z' ∧ RelB B M x' z' ∧ WR x' z' ∧ rI x' 386 = rI x 386 ∧ rI z' 0 = rI z 0 ∧ rL x' 385 = rL x 385 := by
  intro n
  induction n with
  | zero => intro i x z _ _ h; omega
  | succ n ih =>
    intro i x z h hW hn hi
    have hV := h.1
    have hS := h.2.1
    have hX := h.2.2.1
    have hR := h.2.2.2.1
    have hnp := hV.np
    have hz1 : rI z 1 = nI (cnp x) := hS.np hV
    rw [f_X5_moveLayers_b33, f_X6_layers_b2, hnp.1, hz1]
    by_cases hlt : i < cnp x
    · have c1 : ¬ nI (cnp x) ≤ nI i := by rw [nI_leI (by omega) (by omega)]; omega
      have i20 : inR (nI i) 20 = true := inR_nI (by omega) (by decide)
      have cl : Int32.toNatClampNeg (nI i) = i := nI_clamp (by omega)
      obtain ⟨k1, -, k3, k4, k5, -⟩ := hV.pc hlt
      obtain ⟨m1, m2, -⟩ := hS.pc hV hlt
      have g1 : gt z 1 = rI x 387 := hR.2.1
      have g16 : gt z (16 + i) = rA x 13 i := hR.2.2.2.2.2.2.2.2.1 i (by omega)
      have g36 : gt z (36 + i) = rA x 14 i := hR.2.2.2.2.2.2.2.2.2.1 i (by omega)
      have htp : 0 ≤ rA x 13 i := by
        obtain ⟨T, -, -, -, -, -, -, h7, -⟩ := hX
        exact h7 i (by omega)
      have e16 : (16 : Int32) + nI i = nI (16 + i) := nI_add 16 i
      have e36 : (36 : Int32) + nI i = nI (36 + i) := nI_add 36 i
      have i56 : inR (nI (36 + i)) 56 = true := inR_nI (by omega) (by decide)
      have c36 : Int32.toNatClampNeg (nI (36 + i)) = 36 + i := nI_clamp (by omega)
      rw [if_neg c1, if_neg c1, i20, gd_t, gd_t, cl, k1, m1, nI_1]
      have next : ∃ x' z', f_X5_moveLayers_b33 n x (S32 (rA x 14) 20 0) (nI (i + 1)) = some x' ∧ f_X6_layers_b2 n z (nI (i + 1)) = some z' ∧ RelB B M x' z' ∧ WR x' z' ∧ rI x' 386 = rI x 386 ∧ rI z' 0 = rI z 0 ∧ rL x' 385 = rL x 385 := ih (i + 1) x z h hW (by omega) (by omega)
      by_cases a1 : nI (ckd x i) = 2
      · rw [if_pos a1, if_pos a1, get1, bn1_s, g1, gd_t, m2]
        have hb0 : ¬ nI (cbs x i) = 0 := by rw [nI_e0 (by omega)]; omega
        rw [decide_eq_true hb0, gd_t]
        unfold f_X2_isMultiple
        rw [i20, gd_t, gd_t, cl, k3, if_neg (by
          have : (0 : Int32) = nI 0 := rfl
          rw [this, nI_leI (by omega) (by omega)]; omega), decide_eq_true hb0, gd_t]
        by_cases a2 : rI x 387 - rI x 387 / nI (cbs x i) * nI (cbs x i) = 0
        · rw [if_pos a2, if_pos a2, bn1_s, if_neg (show ¬ (1 : Int32) = 0 by decide), e16, e36, get_m (by omega), bn1_s, get_m (by omega), bn1_s, g16, g36]
          unfold f_X3_moveLevel
          rw [i20, gd_t, gd_t, gd_t, gd_t, cl]
          have stay : ∃ x' z', (bn2 (some ((0 : Int32), wA x 14 (upd (rA x 14) i (rA x 14 i + 0)))) fun r3 x4 => f_X5_moveLayers_b33 n x4 (S32 (rA x 14) 20 0 + r3) (nI (i + 1))) = some x' ∧ f_X6_layers_b2 n z (nI (i + 1)) = some z' ∧ RelB B M x' z' ∧ WR x' z' ∧ rI x' 386 = rI x 386 ∧ rI z' 0 = rI z 0 ∧ rL x' 385 = rL x 385 := by
            rw [bn2_s, lev_0]
            have e : S32 (rA x 14) 20 0 + 0 = S32 (rA x 14) 20 0 := by simp
            rw [e]
            exact next
          have move : ∀ (r : Int32) (v : Int64), v.toInt32 = rA x 14 i + r → ∃ x' z', (bn2 (some (r, wA x 14 (upd (rA x 14) i (rA x 14 i + r)))) fun r3 x4 => f_X5_moveLayers_b33 n x4 (S32 (rA x 14) 20 0 + r3) (nI (i + 1))) = some x' ∧ f_X6_layers_b2 n (wB z 11 (vp_updL (rB z 11) (36 + i) v)) (nI (i + 1)) = some z' ∧ RelB B M x' z' ∧ WR x' z' ∧ rI x' 386 = rI x 386 ∧ rI z' 0 = rI z 0 ∧ rL x' 385 = rL x 385 := by
            intro r v hv
            rw [bn2_s, ← S32_upd (rA x 14) i r 20 0 (by omega) (by omega)]
            exact ih (i + 1) (wA x 14 (upd (rA x 14) i (rA x 14 i + r))) (wB z 11 (vp_updL (rB z 11) (36 + i) v)) (lev_w h hlt r v hv) hW (by show cnp x - (i + 1) < n; omega) (by show i + 1 ≤ cnp x; omega)
          by_cases t0 : rA x 13 i = 0
          · rw [if_pos t0, if_pos (show rA x 13 i ≤ 0 by rw [t0]; decide)]
            unfold f_X6_layers_b87
            rw [if_pos t0, nI_1]
            by_cases l0 : rA x 14 i ≤ 0
            · rw [if_pos l0, if_pos l0, b52_c (by omega)]
              exact stay
            · rw [if_neg l0, if_neg l0, b52_c (by omega), e36, i56, gd_t, gd_t, letv_e, c36]
              refine move (-1) _ ?_
              rw [Int64.toInt32_sub]
              have : (rB z 11 (36 + i)).toInt32 = rA x 14 i := g36
              rw [this, ← Int32.sub_eq_add_neg]
              rfl
          · have tpos : ¬ rA x 13 i ≤ 0 := by
              have l0 : (0 : Int32).toInt = 0 := by decide
              simp only [leT, eqT, l0] at *
              omega
            rw [if_neg t0, if_neg tpos]
            unfold f_X6_layers_b87
            simp only [if_neg t0, nI_1]
            by_cases l0 : rA x 13 i ≤ rA x 14 i
            · rw [if_pos l0, if_pos l0, b52_c (by omega)]
              exact stay
            · rw [if_neg l0, if_neg l0, lev_m hV hS, bn1_s, lev_both hV hX hR]
              by_cases s16 : 16 ≤ S32 (rA x 14) 20 0
              · rw [if_pos s16, if_pos s16, b52_c (by omega)]
                exact stay
              · rw [if_neg s16, if_neg s16, b52_c (by omega), i56, gd_t, gd_t, letv_e, c36]
                refine move 1 _ ?_
                rw [Int64.toInt32_add]
                have : (rB z 11 (36 + i)).toInt32 = rA x 14 i := g36
                rw [this]
                rfl
        · rw [if_neg a2, if_neg a2, bn1_s, if_pos (show (0 : Int32) = 0 from rfl)]
          exact next
      · rw [if_neg a1, if_neg a1]
        exact next
    · have c1 : nI (cnp x) ≤ nI i := by rw [nI_leI (by omega) (by omega)]; omega
      rw [if_pos c1, if_pos c1]
      exact ⟨x, z, rfl, rfl, h, hW, rfl, rfl, rfl⟩
def sh (W : Nat → Int32) (i j : Nat) : Int32 := if j < i then W (j + 1) else W j
def shD (D : Nat → Int64) (i k : Nat) : Int64 := if 7 ≤ k ∧ k < 7 + i then D (k + 1) else D k
theorem sh_0 (W : Nat → Int32) : sh W 0 = W := by funext j; simp [sh]
theorem shD_0 (D : Nat → Int64) : shD D 0 = D := by
  funext j
  unfold shD
  rw [if_neg (by omega)]
theorem sh_s (W : Nat → Int32) (i : Nat) : upd (sh W i) i (sh W i (i + 1)) = sh W (i + 1) := by
  funext j
  by_cases h : j = i
  · subst h
    rw [upd_eq]
    unfold sh
    rw [if_neg (by omega), if_pos (by omega)]
  · rw [upd_ne h]
    unfold sh
    by_cases h2 : j < i
    · rw [if_pos h2, if_pos (by omega)]
    · rw [if_neg h2, if_neg (by omega)]
theorem shD_s (D : Nat → Int64) (i : Nat) : vp_updL (shD D i) (7 + i) (shD D i (7 + i + 1)) = shD D (i + 1) := by
  funext j
  by_cases h : j = 7 + i
  · subst h
    rw [updL_eq]
    unfold shD
    rw [if_neg (by omega), if_pos (by omega)]
  · rw [updL_ne h]
    unfold shD
    by_cases h2 : 7 ≤ j ∧ j < 7 + i
    · rw [if_pos h2, if_pos (by omega)]
    · rw [if_neg h2, if_neg (by omega)]
theorem shift_c {x : PD} {w : Nat} (hw : rI x 394 = nI w) (hw3 : w ≤ 3) (W : Nat → Int32) : ∀ (n i : Nat), w - i < n → i ≤ w → f_X3_shiftWaiting_b12 n (wA x 15 (sh W i)) (nI i) = some (wA x 15 (sh W w)) := by
  intro n
  induction n with
  | zero => intro i h; omega
  | succ n ih =>
    intro i hn hi
    have e : rI (wA x 15 (sh W i)) 394 = nI w := hw
    have r15 : rA (wA x 15 (sh W i)) 15 = sh W i := rfl
    rw [f_X3_shiftWaiting_b12, e]
    by_cases hlt : i < w
    · rw [if_neg (by rw [nI_leI (by omega) (by omega)]; omega), nI_1, inR_nI (show i + 1 < 4 by omega) (by decide), inR_nI (show i < 4 by omega) (by decide), gd_t, gd_t, letv_e, nI_clamp (show i + 1 < 2 ^ 31 by omega), nI_clamp (show i < 2 ^ 31 by omega), r15, wA_wA, sh_s]
      exact ih (i + 1) (by omega) (by omega)
    · have : i = w := by omega
      subst this
      rw [if_pos (by rw [nI_leI (by omega) (by omega)]; omega)]
def stE (y : PD) (s : Int32) : Option PD :=
  letv (wB y 11 (vp_updL (rB y 11) 5 (Int32.toInt64 s))) fun x4 =>
  gd (inR s 20) (gd (inR s 20) (letv (wL x4 16 ((rL x4 15) + ((Int32.toInt64 (rA x4 2 (Int32.toNatClampNeg s))) * (Int32.toInt64 (rA x4 3 (Int32.toNatClampNeg s)))))) fun x5 =>
  bn1 (f_X6_logs x5 5 s) fun x6 =>
  some x6))
theorem shift_m {z : PD} {w : Nat} {s : Int32} (D : Nat → Int64) (hw : (D 6).toInt32 = nI w) (hw3 : w ≤ 3) : ∀ (n i : Nat), w - i < n → i ≤ w → f_X6_stings_b20 n (wB z 11 (shD D i)) s (nI i) = stE (wB z 11 (shD D w)) s := by
  intro n
  induction n with
  | zero => intro i h; omega
  | succ n ih =>
    intro i hn hi
    have e6 : gt (wB z 11 (shD D i)) 6 = nI w := by
      show (shD D i 6).toInt32 = nI w
      unfold shD
      rw [if_neg (by omega)]
      exact hw
    have r11 : rB (wB z 11 (shD D i)) 11 = shD D i := rfl
    rw [f_X6_stings_b20, get6, bn1_s, e6]
    by_cases hlt : i < w
    · have e7 : (7 : Int32) + nI i = nI (7 + i) := nI_add 7 i
      rw [if_neg (by rw [nI_leI (by omega) (by omega)]; omega), e7, nI_1, nI_1, inR_nI (show 7 + i + 1 < 56 by omega) (by decide), inR_nI (show 7 + i < 56 by omega) (by decide), gd_t, gd_t, letv_e, nI_clamp (show 7 + i + 1 < 2 ^ 31 by omega), nI_clamp (show 7 + i < 2 ^ 31 by omega), r11, wB_wB, shD_s]
      exact ih (i + 1) (by omega) (by omega)
    · have : i = w := by omega
      subst this
      rw [if_pos (by rw [nI_leI (by omega) (by omega)]; omega)]
      rfl
def stM (x6 : PD) : Option PD :=
  bn1 (f_X6_get x6 5) fun r7 =>
  if r7 = -1 then
  bn1 (f_X6_get x6 6) fun r8 =>
  if r8 ≤ 0 then
  (some x6)
  else
  bn1 (f_X6_get x6 0) fun r9 =>
  gd (inR r9 20) (bn1 (f_X6_get x6 1) fun r10 =>
  bn1 (f_X6_get x6 7) fun r11 =>
  gd (inR r11 20) (if ((rA x6 2 (Int32.toNatClampNeg r9)) - r10) < (rA x6 2 (Int32.toNatClampNeg r11)) then
  (some x6)
  else
  bn1 (f_X6_stings x6) fun x12 =>
  some x12))
  else
  some x6
theorem b212_m (z : PD) : f_X6_isDone_b212 z = (if gt z 0 = -1 then some z else bn1 (f_X6_layers z) stM) := by
  unfold f_X6_isDone_b212
  rw [get0, bn1_s]
  rfl
theorem sting_both {B M : Nat} {x z : PD} (hM : M < 2 ^ 30) (hBB : B < 2 ^ 30) (h : RelB B M x z) (hW : WR x z) (hpl : ¬ rI x 386 = -1) : ∃ x' z', f_X5_beginSting x = some x' ∧ stM z = some z' ∧ RelB B (M + 1) x' z' ∧ WR x' z' ∧ rI z' 0 = rI z 0 ∧ rL x' 385 = rL x 385 := by
  have hV := h.1
  have hS := h.2.1
  have hX := h.2.2.1
  have hR := h.2.2.2.1
  have hnp := hV.np.2
  have keep : ∃ x' z', (some x) = some x' ∧ some z = some z' ∧ RelB B (M + 1) x' z' ∧ WR x' z' ∧ rI z' 0 = rI z 0 ∧ rL x' 385 = rL x 385 := ⟨x, z, rfl, rfl, RelB_mono (Nat.le_refl _) (by omega) h, hW, rfl, rfl⟩
  unfold f_X5_beginSting stM
  have g0 : gt z 0 = rI x 386 := hR.1
  have g1 : gt z 1 = rI x 387 := hR.2.1
  have g5 : gt z 5 = rI x 395 := hR.2.2.2.2.2.1
  have g6 : gt z 6 = rI x 394 := hR.2.2.2.2.2.2.1
  have g7 : gt z 7 = rA x 15 0 := hR.2.2.2.2.2.2.2.1 0 (by omega)
  have c0 : Int32.toNatClampNeg 0 = 0 := by decide
  rw [if_neg hpl, get5, bn1_s, g5, get6, bn1_s, g6, get0, bn1_s, g0, get1, bn1_s, g1, get7, bn1_s, g7, c0]
  by_cases a1 : rI x 395 = -1
  · rw [if_pos a1, if_pos a1]
    obtain ⟨p, d, o, hL⟩ := (LvX_pl hX).resolve_left hpl
    obtain ⟨p1, p2, -, p4, p5, -, -⟩ := hL
    obtain ⟨b1, b2, b3, b4, b5, b6, b7, b8, b9, b10⟩ := h
    obtain ⟨T, q1, q2, q3, q4, ⟨w, w1, w2, w3⟩, q6, q7, q8⟩ := b3
    by_cases a2 : w = 0
    · subst a2
      rw [w1, if_pos (show nI 0 = 0 from rfl), if_pos (show nI 0 ≤ 0 by decide)]
      exact keep
    · rw [w1, if_neg (by rw [nI_e0 (by omega)]; exact a2), if_neg (nI_nle (by omega) (by omega))]
      obtain ⟨s, s1, s2⟩ := w3 0 (by omega)
      obtain ⟨-, -, k3, -, k5, -⟩ := hV.pc p2
      obtain ⟨-, -, j3, j4, j5, j6, j7, j8, -⟩ := hV.pc s2
      obtain ⟨-, m2, -⟩ := hS.pc hV p2
      obtain ⟨-, n2, n3, -⟩ := hS.pc hV s2
      have cp : Int32.toNatClampNeg (nI p) = p := nI_clamp (by omega)
      have cs : Int32.toNatClampNeg (nI s) = s := nI_clamp (by omega)
      have ip : inR (nI p) 20 = true := inR_nI (by omega) (by decide)
      have is' : inR (nI s) 20 = true := inR_nI (by omega) (by decide)
      rw [p1, p4, s1, ip, is', gd_t, gd_t, gd_t, gd_t, cp, cs, k3, j3, m2, n2, pk_sub (by omega)]
      by_cases a3 : cbs x s ≤ cbs x p - d
      · rw [if_pos (by rw [nI_leI (by omega) (by omega)]; exact a3), if_neg (by rw [nI_ltI (by omega) (by omega)]; omega)]
        have hbb : cbs x s * cbt x s ≤ 64 * 2400 := Nat.mul_le_mul j5 j8
        have hbl : 1 * 24 ≤ cbs x s * cbt x s := Nat.mul_le_mul j4 j7
        have ew : nI w - 1 = nI (w - 1) := by
          have : (1 : Int32) = nI 1 := by decide
          rw [this, pk_sub (by omega)]
        have hsx : f_X3_shiftWaiting x = some (wA (wI x 394 (nI (w - 1))) 15 (sh (rA x 15) (w - 1))) := by
          unfold f_X3_shiftWaiting
          rw [letv_e, w1, ew]
          have := shift_c (x := wI x 394 (nI (w - 1))) (w := w - 1) rfl (by omega) (rA x 15) FU 0 (by unfold FU; omega) (Nat.zero_le _)
          rw [sh_0] at this
          have e : wA (wI x 394 (nI (w - 1))) 15 (rA x 15) = wI x 394 (nI (w - 1)) := wA_self (wI x 394 (nI (w - 1))) 15
          rw [e] at this
          exact this
        have c6 : Int32.toNatClampNeg 6 = 6 := by decide
        have h6 : (rB z 11 6).toInt32 = nI w := by
          have : gt z 6 = nI w := by rw [g6, w1]
          exact this
        have hD6 : (vp_updL (rB z 11) 6 (rB z 11 6 - 1) 6).toInt32 = nI (w - 1) := by
          rw [updL_eq, Int64.toInt32_sub, h6]
          exact ew
        have hsz : f_X6_stings z = stE (wB z 11 (shD (vp_updL (rB z 11) 6 (rB z 11 6 - 1)) (w - 1))) (nI s) := by
          unfold f_X6_stings
          rw [get7, bn1_s, g7, s1, letv_e, c6]
          have := shift_m (z := z) (w := w - 1) (s := nI s) (vp_updL (rB z 11) 6 (rB z 11 6 - 1)) hD6 (by omega) FU 0 (by unfold FU; omega) (Nat.zero_le _)
          rw [shD_0] at this
          exact this
        rw [hsx, bn1_s, hsz]
        unfold stE f_X2_length
        simp only [letv_e]
        rw [is', gd_t, gd_t, gd_t, gd_t, cs, bn1_s]
        have hlen : (Int32.toInt64 (nI (cbs x s))) * (Int32.toInt64 (nI (cbt x s))) = lN (cbs x s * cbt x s) := by rw [nI_l (by omega), nI_l (by omega), lN_mul]
        have r3 : rA (wI (wA (wI x 394 (nI (w - 1))) 15 (sh (rA x 15) (w - 1))) 395 (nI s)) 3 s = nI (cbs x s) := j3
        have r4 : rA (wI (wA (wI x 394 (nI (w - 1))) 15 (sh (rA x 15) (w - 1))) 395 (nI s)) 4 s = nI (cbt x s) := j6
        have rT : rL (wI (wA (wI x 394 (nI (w - 1))) 15 (sh (rA x 15) (w - 1))) 395 (nI s)) 385 = lN T := q1
        have rzT : rL z 15 = lN T := by rw [LvR_T hR]; exact q1
        rw [r3, r4, hlen, rT, lN_add]
        have t2 : ∀ f : Nat → Int64, rA (wB (wB z 11 (shD (vp_updL (rB z 11) 6 (rB z 11 6 - 1)) (w - 1))) 11 f) 2 s = nI (cbs x s) := fun f => n2
        have t3 : ∀ f : Nat → Int64, rA (wB (wB z 11 (shD (vp_updL (rB z 11) 6 (rB z 11 6 - 1)) (w - 1))) 11 f) 3 s = nI (cbt x s) := fun f => n3
        have t15 : ∀ f : Nat → Int64, rL (wB (wB z 11 (shD (vp_updL (rB z 11) 6 (rB z 11 6 - 1)) (w - 1))) 11 f) 15 = lN T := fun f => rzT
        have t11 : rB (wB z 11 (shD (vp_updL (rB z 11) 6 (rB z 11 6 - 1)) (w - 1))) 11 = shD (vp_updL (rB z 11) 6 (rB z 11 6 - 1)) (w - 1) := rfl
        rw [t2, t3, t15, t11, hlen, lN_add, wB_wB]
        have hB1 : RelB B M (wL (wI (wA (wI x 394 (nI (w - 1))) 15 (sh (rA x 15) (w - 1))) 395 (nI s)) 396 (lN (T + cbs x s * cbt x s))) (wL (wB z 11 (vp_updL (shD (vp_updL (rB z 11) 6 (rB z 11 6 - 1)) (w - 1)) 5 (Int32.toInt64 (nI s)))) 16 (lN (T + cbs x s * cbt x s))) := by
          refine ⟨b1, b2, ?_, ?_, b5, b6, b7, b8, b9, b10⟩
          · refine ⟨T, q1, q2, q3, q4, ⟨w - 1, rfl, by omega, fun i hi => ?_⟩, Or.inr ⟨s, T + cbs x s * cbt x s, rfl, s2, rfl, by omega, by omega⟩, q7, q8⟩
            obtain ⟨s', s1', s2'⟩ := w3 (i + 1) (by omega)
            refine ⟨s', ?_, s2'⟩
            show sh (rA x 15) (w - 1) i = nI s'
            unfold sh
            rw [if_pos hi]
            exact s1'
          · obtain ⟨h0, h1, h2, h3, h4, h5, h6', h7, h8, h9, h10, h11⟩ := b4
            have hne : ∀ k, ¬ k = 5 → ¬ k = 6 → (k < 7 ∨ 11 ≤ k) → vp_updL (shD (vp_updL (rB z 11) 6 (rB z 11 6 - 1)) (w - 1)) 5 (Int32.toInt64 (nI s)) k = rB z 11 k := by
              intro k e5 e6 e7
              rw [updL_ne e5]
              unfold shD
              rw [if_neg (by omega), updL_ne e6]
            refine ⟨?_, ?_, ?_, ?_, ?_, ?_, ?_, fun i hi => ?_, fun i hi => ?_, fun i hi => ?_, h10, rfl⟩
            · exact (congrArg Int64.toInt32 (hne 0 (by omega) (by omega) (by omega))).trans h0
            · exact (congrArg Int64.toInt32 (hne 1 (by omega) (by omega) (by omega))).trans h1
            · exact (congrArg Int64.toInt32 (hne 2 (by omega) (by omega) (by omega))).trans h2
            · exact (congrArg Int64.toInt32 (hne 3 (by omega) (by omega) (by omega))).trans h3
            · exact (congrArg Int64.toInt32 (hne 4 (by omega) (by omega) (by omega))).trans h4
            · exact t32 _
            · show (vp_updL (shD (vp_updL (rB z 11) 6 (rB z 11 6 - 1)) (w - 1)) 5 (Int32.toInt64 (nI s)) 6).toInt32 = nI (w - 1)
              rw [updL_ne (by omega)]
              unfold shD
              rw [if_neg (by omega)]
              exact hD6
            · show (vp_updL (shD (vp_updL (rB z 11) 6 (rB z 11 6 - 1)) (w - 1)) 5 (Int32.toInt64 (nI s)) (7 + i)).toInt32 = sh (rA x 15) (w - 1) i
              rw [updL_ne (by omega)]
              unfold shD sh
              by_cases e : i < w - 1
              · rw [if_pos (by omega), if_pos e, updL_ne (by omega)]
                exact h7 (i + 1) (by omega)
              · rw [if_neg (by omega), if_neg e, updL_ne (by omega)]
                exact h7 i hi
            · exact (congrArg Int64.toInt32 (hne (16 + i) (by omega) (by omega) (by omega))).trans (h8 i hi)
            · exact (congrArg Int64.toInt32 (hne (36 + i) (by omega) (by omega) (by omega))).trans (h9 i hi)
        obtain ⟨P, A1, A2, e, c, n, k1, k2, k3⟩ := add_both 5 (nI s) hM (LvR_T hB1.2.2.2.1) hB1.2.2.2.2.1
        obtain ⟨b1', b2', b3', b4', -, b6', b7', b8', b9', b10'⟩ := hB1
        rw [k1, k2, bn1_s, bn1_s, bn1_s]
        exact ⟨_, _, rfl, rfl, ⟨b1', b2', b3', b4', k3, b6', b7', b8', b9', b10'⟩, hW, rfl, rfl⟩
      · rw [if_neg (by rw [nI_leI (by omega) (by omega)]; exact a3), if_pos (by rw [nI_ltI (by omega) (by omega)]; omega)]
        exact keep
  · rw [if_neg a1, if_neg a1]
    exact keep
theorem b100_both {B M : Nat} {x z : PD} (hM : M < 2 ^ 30) (hBB : B < 2 ^ 30) (h : RelB B M x z) (hW : WR x z) (hpl : ¬ rI x 386 = -1) : ∃ x' z', f_X5_endBeat_b100 x = some x' ∧ f_X6_isDone_b212 z = some z' ∧ RelB B (M + 1) x' z' ∧ WR x' z' ∧ rI z' 0 = rI z 0 ∧ rL x' 385 = rL x 385 := by
  have hnp := h.1.np.2
  have g0 : gt z 0 = rI x 386 := h.2.2.2.1.1
  obtain ⟨x1, z1, k1, k2, k3, k4, k5, k6⟩ := layers_both FU 0 x z h hW (by unfold FU; omega) (Nat.zero_le _)
  obtain ⟨x2, z2, j1, j2, j3, j4, j5⟩ := sting_both hM hBB k3 k4 (by rw [k5]; exact hpl)
  rw [b212_m, g0, if_neg hpl]
  unfold f_X5_endBeat_b100 f_X5_moveLayers
  rw [if_neg hpl, levT_c, bn1_s]
  have k1' : f_X5_moveLayers_b33 FU x (S32 (rA x 14) 20 0) 0 = some x1 := k1
  have k2' : f_X6_layers z = some z1 := k2
  rw [k1', bn1_s, j1, bn1_s, k2', bn1_s, j2]
  exact ⟨_, _, rfl, rfl, j3, j4, by rw [j5.1, k6.1], by rw [j5.2, k6.2]⟩
