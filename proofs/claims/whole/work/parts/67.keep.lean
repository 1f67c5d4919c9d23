/-! ===== PURE: keep, goOn ===== -/
theorem LiveX_cong {x : PD} {B : Nat} {pl dn md wt sn : Int32} {tm bg un : Int64} {tp lv wa tp' lv' wa' : Nat → Int32} (h : LiveX x B pl dn md wt sn tm bg un tp lv wa) (h1 : ∀ i, i < 20 → tp' i = tp i) (h2 : ∀ i, i < 20 → lv' i = lv i) (h3 : ∀ i, i < 4 → wa' i = wa i) : LiveX x B pl dn md wt sn tm bg un tp' lv' wa' := by
  obtain ⟨T, a1, a2, a3, a4, ⟨w, b1, b2, b3⟩, a6, a7, a8⟩ := h
  exact ⟨T, a1, a2, a3, a4, ⟨w, b1, b2, fun i hi => by rw [h3 i (by omega)]; exact b3 i hi⟩, a6, fun p hp => by rw [h1 p hp]; exact a7 p hp, fun p hp hp2 => by rw [h2 p hp2]; exact a8 p hp hp2⟩
theorem LiveR_cong {pl dn tu md wt sn : Int32} {tm bg un : Int64} {tp lv wa tp' lv' wa' : Nat → Int32} {b b' : Nat → Int64} {zt zs : Int64} (h : LiveR pl dn tu md wt sn tm bg un tp lv wa b zt zs) (h1 : ∀ i, i < 20 → tp' i = tp i) (h2 : ∀ i, i < 20 → lv' i = lv i) (h3 : ∀ i, i < 4 → wa' i = wa i) (hb : ∀ i, i < 56 → b' i = b i) : LiveR pl dn tu md wt sn tm bg un tp' lv' wa' b' zt zs := by
  obtain ⟨a0, a1, a2, a3, a4, a5, a6, a7, a8, a9, a10, a11⟩ := h
  refine ⟨by rw [hb 0 (by omega)]; exact a0, by rw [hb 1 (by omega)]; exact a1, by rw [hb 2 (by omega)]; exact a2, by rw [hb 3 (by omega)]; exact a3, by rw [hb 4 (by omega)]; exact a4, by rw [hb 5 (by omega)]; exact a5, by rw [hb 6 (by omega)]; exact a6, fun i hi => ?_, fun i hi => ?_, fun i hi => ?_, a10, a11⟩
  · rw [hb _ (by omega), h3 i hi]; exact a7 i hi
  · rw [hb _ (by omega), h1 i hi]; exact a8 i hi
  · rw [hb _ (by omega), h2 i hi]; exact a9 i hi
theorem isSlot_y {z : PD} {s : Nat} (hs : s < 4) : f_X6_isSlot z (nI s) = some (1, wI z 0 0) := by
  have e3 : (3 : Int32) = nI 3 := by decide
  unfold f_X6_isSlot f_X6_isSlot_b20
  rw [letv_e, if_neg (nI_pos (by omega)), e3, if_neg (by rw [nI_ltI (by omega) (by omega)]; omega), right_y (z := wI z 0 0) rfl, bn2_s]
  rfl
theorem isSlot_n {z : PD} {p1 : Int32} (h : p1 < 0 ∨ (¬ p1 < 0 ∧ 4 ≤ p1)) : f_X6_isSlot z p1 = some (0, wI (wI z 0 0) 0 1) := by
  unfold f_X6_isSlot f_X6_isSlot_b20
  rw [letv_e, right_n1 (z := wI z 0 0) rfl, bn2_s]
  have l3 : (3 : Int32).toInt = 3 := by decide
  have l4 : (4 : Int32).toInt = 4 := by decide
  rcases h with h | ⟨h1, h2⟩
  · rw [if_pos h]; rfl
  · rw [if_neg h1, if_pos (by simp only [ltT, leT, l3, l4] at *; omega)]; rfl
theorem slots (p1 : Int32) : p1 = nI 0 ∨ p1 = nI 1 ∨ p1 = nI 2 ∨ p1 = nI 3 ∨ (p1 < 0 ∨ (¬ p1 < 0 ∧ 4 ≤ p1)) := by
  by_cases h : p1 < 0
  · exact Or.inr (Or.inr (Or.inr (Or.inr (Or.inl h))))
  · obtain ⟨j, hj, rfl⟩ := nI_of h
    have e4 : (4 : Int32) = nI 4 := by decide
    by_cases h4 : j < 4
    · have : j = 0 ∨ j = 1 ∨ j = 2 ∨ j = 3 := by omega
      rcases this with rfl | rfl | rfl | rfl
      · exact Or.inl rfl
      · exact Or.inr (Or.inl rfl)
      · exact Or.inr (Or.inr (Or.inl rfl))
      · exact Or.inr (Or.inr (Or.inr (Or.inl rfl)))
    · exact Or.inr (Or.inr (Or.inr (Or.inr (Or.inr ⟨h, by rw [e4, nI_leI (by omega) hj]; omega⟩))))
theorem slN {x : PD} {p1 : Int32} (h : p1 < 0 ∨ (¬ p1 < 0 ∧ 4 ≤ p1)) : g_X5_slotAt x p1 = some 2 := by
  unfold g_X5_slotAt
  rcases h with h | ⟨h1, h2⟩
  · rw [if_pos h]
  · rw [if_neg h1, if_pos h2]
def kpZ (z : PD) (s : Nat) (D : Nat → Int64) : PD := wB (wB (wB z 12 D) 13 (vp_updL (rB z 13) s (rL z 15))) 14 (vp_updL (rB z 14) s (rL z 16))
theorem keep_loop {z : PD} {s : Nat} (hs : s < 4) {v2 : Int32} (D0 : Nat → Int64) : ∀ (n i : Nat) (D : Nat → Int64), 56 - i < n → i ≤ 56 → (∀ k, k < i → D (56 * s + k) = rB z 11 k) → (∀ j, j < 56 * s ∨ 56 * s + 56 ≤ j → D j = D0 j) → ∃ D', f_X6_keep_b26 n (wB z 12 D) (nI s) v2 (nI i) = gd (isB v2) (some (v2, kpZ z s D')) ∧ (∀ k, k < 56 → D' (56 * s + k) = rB z 11 k) ∧ (∀ j, j < 56 * s ∨ 56 * s + 56 ≤ j → D' j = D0 j) := by
  intro n
  induction n with
  | zero => intro i D h; omega
  | succ n ih =>
    intro i D hn hi h1 h2
    have e56 : (56 : Int32) = nI 56 := by decide
    rw [f_X6_keep_b26, e56]
    by_cases hlt : i < 56
    · rw [if_neg (by rw [nI_leI (by omega) (by omega)]; omega), inR_nI hlt (by decide), gd_t, pk_mul, nI_add, inR_nI (show 56 * s + i < 224 by omega) (by decide), gd_t, letv_e, nI_clamp (show i < 2 ^ 31 by omega), nI_clamp (show 56 * s + i < 2 ^ 31 by omega), nI_1]
      have r12 : rB (wB z 12 D) 12 = D := rfl
      have r11 : rB (wB z 12 D) 11 = rB z 11 := rfl
      rw [r12, r11, wB_wB]
      refine ih (i + 1) _ (by omega) (by omega) (fun k hk => ?_) (fun j hj => ?_)
      · simp only [vp_updL]
        by_cases e : k = i
        · rw [e, if_pos rfl]
        · rw [if_neg (by omega)]; exact h1 k (by omega)
      · simp only [vp_updL]
        rw [if_neg (by omega)]; exact h2 j hj
    · have hie : i = 56 := by omega
      subst hie
      rw [if_pos (by rw [nI_leI (by omega) (by omega)]; omega), inR_nI hs (by decide), nI_clamp (show s < 2 ^ 31 by omega)]
      simp only [letv_e, gd_t]
      exact ⟨D, rfl, h1, h2⟩
theorem goOn_loop {z : PD} {s : Nat} (hs : s < 4) : ∀ (n i : Nat) (D : Nat → Int64), 56 - i < n → i ≤ 56 → (∀ k, k < i → D k = rB z 12 (56 * s + k)) → ∃ D', f_X6_goOn_b21 n (wB z 11 D) (nI s) (nI i) = (bn1 (f_X6_finds (wL (wL (wB z 11 D') 15 (rB z 13 s)) 16 (rB z 14 s))) fun x5 => some (1, x5)) ∧ (∀ k, k < 56 → D' k = rB z 12 (56 * s + k)) := by
  intro n
  induction n with
  | zero => intro i D h; omega
  | succ n ih =>
    intro i D hn hi h1
    have e56 : (56 : Int32) = nI 56 := by decide
    rw [f_X6_goOn_b21, e56]
    by_cases hlt : i < 56
    · rw [if_neg (by rw [nI_leI (by omega) (by omega)]; omega), inR_nI hlt (by decide), pk_mul, nI_add, inR_nI (show 56 * s + i < 224 by omega) (by decide), gd_t, gd_t, letv_e, nI_clamp (show i < 2 ^ 31 by omega), nI_clamp (show 56 * s + i < 2 ^ 31 by omega), nI_1]
      have r12 : rB (wB z 11 D) 12 = rB z 12 := rfl
      have r11 : rB (wB z 11 D) 11 = D := rfl
      rw [r12, r11, wB_wB]
      refine ih (i + 1) _ (by omega) (by omega) (fun k hk => ?_)
      simp only [vp_updL]
      by_cases e : k = i
      · rw [e, if_pos rfl]
      · rw [if_neg e]; exact h1 k (by omega)
    · have hie : i = 56 := by omega
      subst hie
      rw [if_pos (by rw [nI_leI (by omega) (by omega)]; omega), inR_nI hs (by decide), nI_clamp (show s < 2 ^ 31 by omega)]
      simp only [letv_e, gd_t]
      exact ⟨D, rfl, h1⟩
theorem wB_self (z : PD) (k : Nat) : wB z k (rB z k) = z := by
  apply PD_ext
  · intro i; rfl
  · intro i; rfl
  · intro i; rfl
  · intro i
    simp only [rB_wB]
    split
    · next e => rw [e]
    · rfl
theorem cpy0 {f g : Nat → Int32} {n i : Nat} (h : i < n) : va_cpy f g 0 0 n i = f i := by
  rw [pk_cpy_in (by omega) (by omega)]
  congr 1
  omega
/-- a slot that is not written -/
theorem SlR_off {x y z z' : PD} {B k a s : Nat} (h : SlR x z B k a s) (hy : SlR x z B k a s → SlR y z B k a s) (e1 : rA z' 15 s = rA z 15 s) (e2 : ∀ i, i < 56 → rB z' 12 (56 * s + i) = rB z 12 (56 * s + i)) (e3 : rB z' 13 s = rB z 13 s) (e4 : rB z' 14 s = rB z 14 s) : SlR y z' B k a s := by
  have h' := hy h
  unfold SlR at *
  rw [e1, e3, e4]
  rcases h' with h' | ⟨h1, h2, h3, h4⟩
  · exact Or.inl h'
  · exact Or.inr ⟨h1, h2, h3, LiveR_cong h4 (fun _ _ => rfl) (fun _ _ => rfl) (fun _ _ => rfl) e2⟩
theorem updL_ne {f : Nat → Int64} {k j : Nat} {v : Int64} (h : ¬ j = k) : vp_updL f k v j = f j := by simp only [vp_updL, if_neg h]
theorem updL_eq {f : Nat → Int64} {k : Nat} {v : Int64} : vp_updL f k v k = v := by simp [vp_updL]

theorem keep_0 {c : Nat} {x z : PD} (hc : c < 512) (hRel : Rel c x z) : ∃ (r : Int32) (x1 z1 : PD), f_X5_keep_v0 x = some (r, x1) ∧ f_X6_keep z (nI 0) = some (r, z1) ∧ rI z1 0 = 0 ∧ Rel (c + 1) x1 z1 := by
  obtain ⟨b1, b2, b3, b4, b5, b6, b7, b8, b9, b10⟩ := hRel.1
  have hfl : isB (rI x 512) = true ∧ rA z 15 0 = rI x 512 := by
    rcases b7 with ⟨h1, h2⟩ | ⟨h1, h2, -⟩
    · exact ⟨by rw [h1]; decide, by rw [h1, h2]⟩
    · exact ⟨by rw [h1]; decide, by rw [h1, h2]⟩
  have hx : ∃ x1, f_X5_keep_v0 x = some (rI x 512, x1) ∧ x1 = wI (wL (wI (wI (wA (wA (wA (wI (wL (wI (wI (wI (wL x 513 (rL x 385)) 514 (rI x 386)) 515 (rI x 387)) 516 (rI x 388)) 517 (rL x 389)) 518 (rI x 390)) 17 (va_cpy (rA x 13) (rA x 17) 0 0 20)) 18 (va_cpy (rA x 14) (rA x 18) 0 0 20)) 19 (va_cpy (rA x 15) (rA x 19) 0 0 4)) 522 (rI x 394)) 523 (rI x 395)) 524 (rL x 396)) 512 1 := by
    refine ⟨_, ?_, rfl⟩
    unfold f_X5_keep_v0 f_X5_slotAt_v0 f_X3_copyFrom_16_12
    rw [if_neg (by decide), if_neg (by decide), bn1_s]
    simp only [letv_e, bn1_s]
    rw [hfl.1, gd_t]
    rfl
  obtain ⟨x1, hx1, hx2⟩ := hx
  have hz : ∃ D, f_X6_keep z (nI 0) = some (rI x 512, kpZ (wA (wI z 0 0) 15 (upd (rA z 15) 0 1)) 0 D) ∧ (∀ k, k < 56 → D (56 * 0 + k) = rB z 11 k) ∧ (∀ j, j < 56 * 0 ∨ 56 * 0 + 56 ≤ j → D j = rB z 12 j) := by
    unfold f_X6_keep
    have en : vp_nar .boolean 1 = 1 := by decide
    rw [isSlot_y (by decide), bn2_s, if_neg (by decide), inR_nI (show 0 < 4 by decide) (by decide), gd_t, gd_t, letv_e, nI_clamp (by decide), en]
    have r15 : rA (wI z 0 0) 15 = rA z 15 := rfl
    rw [r15, hfl.2]
    obtain ⟨D, h1, h2, h3⟩ := keep_loop (z := wA (wI z 0 0) 15 (upd (rA z 15) 0 1)) (s := 0) (by decide) (v2 := rI x 512) (rB z 12) FU 0 (rB z 12) (by unfold FU; omega) (by omega) (fun k h => by omega) (fun j _ => rfl)
    refine ⟨D, ?_, h2, h3⟩
    have e : wB (wA (wI z 0 0) 15 (upd (rA z 15) 0 1)) 12 (rB z 12) = wA (wI z 0 0) 15 (upd (rA z 15) 0 1) := wB_self (wA (wI z 0 0) 15 (upd (rA z 15) 0 1)) 12
    rw [e] at h1
    rw [hfl.1, gd_t] at h1
    exact h1
  obtain ⟨D, hz1, hD1, hD2⟩ := hz
  refine ⟨_, x1, _, hx1, hz1, rfl, ?_⟩
  subst hx2
  refine Rel_of (RelB_mono (B := 20000 * c) (M := 100000 * c) (Nat.le_refl _) (by omega) ⟨b1, b2, b3, b4, b5, b6, ?_, ?_, ?_, ?_⟩) hRel.2
  · refine Or.inr ⟨rfl, rfl, ?_, ?_⟩
    · exact LiveX_cong (x := x) b3 (fun i hi => cpy0 hi) (fun i hi => cpy0 hi) (fun i hi => cpy0 hi)
    · obtain ⟨a0, a1, a2, a3, a4, a5, a6, a7, a8, a9, a10, a11⟩ := b4
      exact LiveR_cong (b := rB z 11) ⟨a0, a1, a2, a3, a4, a5, a6, a7, a8, a9, a10, a11⟩ (fun i hi => cpy0 hi) (fun i hi => cpy0 hi) (fun i hi => cpy0 hi) (fun i hi => hD1 i hi)
  · exact SlR_off b8 (fun h => h) rfl (fun i hi => hD2 _ (by omega)) rfl rfl
  · exact SlR_off b9 (fun h => h) rfl (fun i hi => hD2 _ (by omega)) rfl rfl
  · exact SlR_off b10 (fun h => h) rfl (fun i hi => hD2 _ (by omega)) rfl rfl
theorem goOn_0 {c : Nat} {x z : PD} (hc : c < 512) (hRel : Rel c x z) : ∃ (r : Int32) (x1 z1 : PD), f_X5_goOn_v0 x = some (r, x1) ∧ f_X6_goOn z (nI 0) = some (r, z1) ∧ rI z1 0 = 0 ∧ Rel (c + 1) x1 z1 := by
  obtain ⟨b1, b2, b3, b4, b5, b6, b7, b8, b9, b10⟩ := hRel.1
  unfold f_X5_goOn_v0 f_X5_slotAt_v0 f_X6_goOn
  have r15 : rA (wI z 0 0) 15 = rA z 15 := rfl
  rw [if_neg (by decide), if_neg (by decide), bn1_s, isSlot_y (by decide), bn2_s, if_neg (show ¬ (1 : Int32) = 0 by decide), inR_nI (show 0 < 4 by decide) (by decide), gd_t, nI_clamp (by decide), r15]
  have hsl := b7
  rcases hsl with ⟨h1, h2⟩ | ⟨h1, h2, h3, h4⟩
  · rw [h1, h2, if_pos rfl, if_pos rfl]
    exact ⟨_, _, _, rfl, rfl, rfl, good1 hRel 0⟩
  · rw [h1, h2, if_neg (by decide), if_neg (by decide)]
    obtain ⟨D, g1, g2⟩ := goOn_loop (z := wI z 0 0) (s := 0) (by decide) FU 0 (rB z 11) (by unfold FU; omega) (by omega) (fun k h => by omega)
    have e : wB (wI z 0 0) 11 (rB z 11) = wI z 0 0 := wB_self (wI z 0 0) 11
    rw [e] at g1
    have g1' : f_X6_goOn_b21 FU (wI z 0 0) (nI 0) 0 = _ := g1
    rw [g1']
    have hx : f_X3_copyFrom_12_16 x = some (wL (wI (wI (wA (wA (wA (wI (wL (wI (wI (wI (wL x 385 (rL x 513)) 386 (rI x 514)) 387 (rI x 515)) 388 (rI x 516)) 389 (rL x 517)) 390 (rI x 518)) 13 (va_cpy (rA x 17) (rA x 13) 0 0 20)) 14 (va_cpy (rA x 18) (rA x 14) 0 0 20)) 15 (va_cpy (rA x 19) (rA x 15) 0 0 4)) 394 (rI x 522)) 395 (rI x 523)) 396 (rL x 524)) := rfl
    rw [hx, bn1_s]
    have hB : RelB (20000 * c) (100000 * c) (wL (wI (wI (wA (wA (wA (wI (wL (wI (wI (wI (wL x 385 (rL x 513)) 386 (rI x 514)) 387 (rI x 515)) 388 (rI x 516)) 389 (rL x 517)) 390 (rI x 518)) 13 (va_cpy (rA x 17) (rA x 13) 0 0 20)) 14 (va_cpy (rA x 18) (rA x 14) 0 0 20)) 15 (va_cpy (rA x 19) (rA x 15) 0 0 4)) 394 (rI x 522)) 395 (rI x 523)) 396 (rL x 524)) (wL (wL (wB (wI z 0 0) 11 D) 15 (rB z 13 0)) 16 (rB z 14 0)) := by
      refine ⟨b1, b2, ?_, ?_, b5, b6, b7, b8, b9, b10⟩
      · exact LiveX_cong (x := x) h3 (fun i hi => cpy0 hi) (fun i hi => cpy0 hi) (fun i hi => cpy0 hi)
      · exact LiveR_cong h4 (fun i hi => cpy0 hi) (fun i hi => cpy0 hi) (fun i hi => cpy0 hi) (fun i hi => g2 i hi)
    obtain ⟨F, G, W, a, b', F', G', W', a', b'', w1, w2, w3, w4⟩ := find_rel hB
    have w2' : f_X6_finds (wL (wL (wB (wI z 0 0) 11 D) 15 (rB (wI z 0 0) 13 0)) 16 (rB (wI z 0 0) 14 0)) = _ := w2
    rw [w1, bn1_s, w2', bn1_s]
    exact ⟨_, _, _, rfl, rfl, rfl, Rel_of (RelB_mono (Nat.le_refl _) (by omega) w3) w4⟩
theorem keep_1 {c : Nat} {x z : PD} (hc : c < 512) (hRel : Rel c x z) : ∃ (r : Int32) (x1 z1 : PD), f_X5_keep_v1 x = some (r, x1) ∧ f_X6_keep z (nI 1) = some (r, z1) ∧ rI z1 0 = 0 ∧ Rel (c + 1) x1 z1 := by
  obtain ⟨b1, b2, b3, b4, b5, b6, b7, b8, b9, b10⟩ := hRel.1
  have hfl : isB (rI x 640) = true ∧ rA z 15 1 = rI x 640 := by
    rcases b8 with ⟨h1, h2⟩ | ⟨h1, h2, -⟩
    · exact ⟨by rw [h1]; decide, by rw [h1, h2]⟩
    · exact ⟨by rw [h1]; decide, by rw [h1, h2]⟩
  have hx : ∃ x1, f_X5_keep_v1 x = some (rI x 640, x1) ∧ x1 = wI (wL (wI (wI (wA (wA (wA (wI (wL (wI (wI (wI (wL x 641 (rL x 385)) 642 (rI x 386)) 643 (rI x 387)) 644 (rI x 388)) 645 (rL x 389)) 646 (rI x 390)) 21 (va_cpy (rA x 13) (rA x 21) 0 0 20)) 22 (va_cpy (rA x 14) (rA x 22) 0 0 20)) 23 (va_cpy (rA x 15) (rA x 23) 0 0 4)) 650 (rI x 394)) 651 (rI x 395)) 652 (rL x 396)) 640 1 := by
    refine ⟨_, ?_, rfl⟩
    unfold f_X5_keep_v1 f_X5_slotAt_v1 f_X3_copyFrom_20_12
    rw [if_neg (by decide), if_neg (by decide), bn1_s]
    simp only [letv_e, bn1_s]
    rw [hfl.1, gd_t]
    rfl
  obtain ⟨x1, hx1, hx2⟩ := hx
  have hz : ∃ D, f_X6_keep z (nI 1) = some (rI x 640, kpZ (wA (wI z 0 0) 15 (upd (rA z 15) 1 1)) 1 D) ∧ (∀ k, k < 56 → D (56 * 1 + k) = rB z 11 k) ∧ (∀ j, j < 56 * 1 ∨ 56 * 1 + 56 ≤ j → D j = rB z 12 j) := by
    unfold f_X6_keep
    have en : vp_nar .boolean 1 = 1 := by decide
    rw [isSlot_y (by decide), bn2_s, if_neg (by decide), inR_nI (show 1 < 4 by decide) (by decide), gd_t, gd_t, letv_e, nI_clamp (by decide), en]
    have r15 : rA (wI z 0 0) 15 = rA z 15 := rfl
    rw [r15, hfl.2]
    obtain ⟨D, h1, h2, h3⟩ := keep_loop (z := wA (wI z 0 0) 15 (upd (rA z 15) 1 1)) (s := 1) (by decide) (v2 := rI x 640) (rB z 12) FU 0 (rB z 12) (by unfold FU; omega) (by omega) (fun k h => by omega) (fun j _ => rfl)
    refine ⟨D, ?_, h2, h3⟩
    have e : wB (wA (wI z 0 0) 15 (upd (rA z 15) 1 1)) 12 (rB z 12) = wA (wI z 0 0) 15 (upd (rA z 15) 1 1) := wB_self (wA (wI z 0 0) 15 (upd (rA z 15) 1 1)) 12
    rw [e] at h1
    rw [hfl.1, gd_t] at h1
    exact h1
  obtain ⟨D, hz1, hD1, hD2⟩ := hz
  refine ⟨_, x1, _, hx1, hz1, rfl, ?_⟩
  subst hx2
  refine Rel_of (RelB_mono (B := 20000 * c) (M := 100000 * c) (Nat.le_refl _) (by omega) ⟨b1, b2, b3, b4, b5, b6, ?_, ?_, ?_, ?_⟩) hRel.2
  · exact SlR_off b7 (fun h => h) rfl (fun i hi => hD2 _ (by omega)) rfl rfl
  · refine Or.inr ⟨rfl, rfl, ?_, ?_⟩
    · exact LiveX_cong (x := x) b3 (fun i hi => cpy0 hi) (fun i hi => cpy0 hi) (fun i hi => cpy0 hi)
    · obtain ⟨a0, a1, a2, a3, a4, a5, a6, a7, a8, a9, a10, a11⟩ := b4
      exact LiveR_cong (b := rB z 11) ⟨a0, a1, a2, a3, a4, a5, a6, a7, a8, a9, a10, a11⟩ (fun i hi => cpy0 hi) (fun i hi => cpy0 hi) (fun i hi => cpy0 hi) (fun i hi => hD1 i hi)
  · exact SlR_off b9 (fun h => h) rfl (fun i hi => hD2 _ (by omega)) rfl rfl
  · exact SlR_off b10 (fun h => h) rfl (fun i hi => hD2 _ (by omega)) rfl rfl
theorem goOn_1 {c : Nat} {x z : PD} (hc : c < 512) (hRel : Rel c x z) : ∃ (r : Int32) (x1 z1 : PD), f_X5_goOn_v1 x = some (r, x1) ∧ f_X6_goOn z (nI 1) = some (r, z1) ∧ rI z1 0 = 0 ∧ Rel (c + 1) x1 z1 := by
  obtain ⟨b1, b2, b3, b4, b5, b6, b7, b8, b9, b10⟩ := hRel.1
  unfold f_X5_goOn_v1 f_X5_slotAt_v1 f_X6_goOn
  have r15 : rA (wI z 0 0) 15 = rA z 15 := rfl
  rw [if_neg (by decide), if_neg (by decide), bn1_s, isSlot_y (by decide), bn2_s, if_neg (show ¬ (1 : Int32) = 0 by decide), inR_nI (show 1 < 4 by decide) (by decide), gd_t, nI_clamp (by decide), r15]
  have hsl := b8
  rcases hsl with ⟨h1, h2⟩ | ⟨h1, h2, h3, h4⟩
  · rw [h1, h2, if_pos rfl, if_pos rfl]
    exact ⟨_, _, _, rfl, rfl, rfl, good1 hRel 0⟩
  · rw [h1, h2, if_neg (by decide), if_neg (by decide)]
    obtain ⟨D, g1, g2⟩ := goOn_loop (z := wI z 0 0) (s := 1) (by decide) FU 0 (rB z 11) (by unfold FU; omega) (by omega) (fun k h => by omega)
    have e : wB (wI z 0 0) 11 (rB z 11) = wI z 0 0 := wB_self (wI z 0 0) 11
    rw [e] at g1
    have g1' : f_X6_goOn_b21 FU (wI z 0 0) (nI 1) 0 = _ := g1
    rw [g1']
    have hx : f_X3_copyFrom_12_20 x = some (wL (wI (wI (wA (wA (wA (wI (wL (wI (wI (wI (wL x 385 (rL x 641)) 386 (rI x 642)) 387 (rI x 643)) 388 (rI x 644)) 389 (rL x 645)) 390 (rI x 646)) 13 (va_cpy (rA x 21) (rA x 13) 0 0 20)) 14 (va_cpy (rA x 22) (rA x 14) 0 0 20)) 15 (va_cpy (rA x 23) (rA x 15) 0 0 4)) 394 (rI x 650)) 395 (rI x 651)) 396 (rL x 652)) := rfl
    rw [hx, bn1_s]
    have hB : RelB (20000 * c) (100000 * c) (wL (wI (wI (wA (wA (wA (wI (wL (wI (wI (wI (wL x 385 (rL x 641)) 386 (rI x 642)) 387 (rI x 643)) 388 (rI x 644)) 389 (rL x 645)) 390 (rI x 646)) 13 (va_cpy (rA x 21) (rA x 13) 0 0 20)) 14 (va_cpy (rA x 22) (rA x 14) 0 0 20)) 15 (va_cpy (rA x 23) (rA x 15) 0 0 4)) 394 (rI x 650)) 395 (rI x 651)) 396 (rL x 652)) (wL (wL (wB (wI z 0 0) 11 D) 15 (rB z 13 1)) 16 (rB z 14 1)) := by
      refine ⟨b1, b2, ?_, ?_, b5, b6, b7, b8, b9, b10⟩
      · exact LiveX_cong (x := x) h3 (fun i hi => cpy0 hi) (fun i hi => cpy0 hi) (fun i hi => cpy0 hi)
      · exact LiveR_cong h4 (fun i hi => cpy0 hi) (fun i hi => cpy0 hi) (fun i hi => cpy0 hi) (fun i hi => g2 i hi)
    obtain ⟨F, G, W, a, b', F', G', W', a', b'', w1, w2, w3, w4⟩ := find_rel hB
    have w2' : f_X6_finds (wL (wL (wB (wI z 0 0) 11 D) 15 (rB (wI z 0 0) 13 1)) 16 (rB (wI z 0 0) 14 1)) = _ := w2
    rw [w1, bn1_s, w2', bn1_s]
    exact ⟨_, _, _, rfl, rfl, rfl, Rel_of (RelB_mono (Nat.le_refl _) (by omega) w3) w4⟩
theorem keep_2 {c : Nat} {x z : PD} (hc : c < 512) (hRel : Rel c x z) : ∃ (r : Int32) (x1 z1 : PD), f_X5_keep_v2 x = some (r, x1) ∧ f_X6_keep z (nI 2) = some (r, z1) ∧ rI z1 0 = 0 ∧ Rel (c + 1) x1 z1 := by
  obtain ⟨b1, b2, b3, b4, b5, b6, b7, b8, b9, b10⟩ := hRel.1
  have hfl : isB (rI x 768) = true ∧ rA z 15 2 = rI x 768 := by
    rcases b9 with ⟨h1, h2⟩ | ⟨h1, h2, -⟩
    · exact ⟨by rw [h1]; decide, by rw [h1, h2]⟩
    · exact ⟨by rw [h1]; decide, by rw [h1, h2]⟩
  have hx : ∃ x1, f_X5_keep_v2 x = some (rI x 768, x1) ∧ x1 = wI (wL (wI (wI (wA (wA (wA (wI (wL (wI (wI (wI (wL x 769 (rL x 385)) 770 (rI x 386)) 771 (rI x 387)) 772 (rI x 388)) 773 (rL x 389)) 774 (rI x 390)) 25 (va_cpy (rA x 13) (rA x 25) 0 0 20)) 26 (va_cpy (rA x 14) (rA x 26) 0 0 20)) 27 (va_cpy (rA x 15) (rA x 27) 0 0 4)) 778 (rI x 394)) 779 (rI x 395)) 780 (rL x 396)) 768 1 := by
    refine ⟨_, ?_, rfl⟩
    unfold f_X5_keep_v2 f_X5_slotAt_v2 f_X3_copyFrom_24_12
    rw [if_neg (by decide), if_neg (by decide), bn1_s]
    simp only [letv_e, bn1_s]
    rw [hfl.1, gd_t]
    rfl
  obtain ⟨x1, hx1, hx2⟩ := hx
  have hz : ∃ D, f_X6_keep z (nI 2) = some (rI x 768, kpZ (wA (wI z 0 0) 15 (upd (rA z 15) 2 1)) 2 D) ∧ (∀ k, k < 56 → D (56 * 2 + k) = rB z 11 k) ∧ (∀ j, j < 56 * 2 ∨ 56 * 2 + 56 ≤ j → D j = rB z 12 j) := by
    unfold f_X6_keep
    have en : vp_nar .boolean 1 = 1 := by decide
    rw [isSlot_y (by decide), bn2_s, if_neg (by decide), inR_nI (show 2 < 4 by decide) (by decide), gd_t, gd_t, letv_e, nI_clamp (by decide), en]
    have r15 : rA (wI z 0 0) 15 = rA z 15 := rfl
    rw [r15, hfl.2]
    obtain ⟨D, h1, h2, h3⟩ := keep_loop (z := wA (wI z 0 0) 15 (upd (rA z 15) 2 1)) (s := 2) (by decide) (v2 := rI x 768) (rB z 12) FU 0 (rB z 12) (by unfold FU; omega) (by omega) (fun k h => by omega) (fun j _ => rfl)
    refine ⟨D, ?_, h2, h3⟩
    have e : wB (wA (wI z 0 0) 15 (upd (rA z 15) 2 1)) 12 (rB z 12) = wA (wI z 0 0) 15 (upd (rA z 15) 2 1) := wB_self (wA (wI z 0 0) 15 (upd (rA z 15) 2 1)) 12
    rw [e] at h1
    rw [hfl.1, gd_t] at h1
    exact h1
  obtain ⟨D, hz1, hD1, hD2⟩ := hz
  refine ⟨_, x1, _, hx1, hz1, rfl, ?_⟩
  subst hx2
  refine Rel_of (RelB_mono (B := 20000 * c) (M := 100000 * c) (Nat.le_refl _) (by omega) ⟨b1, b2, b3, b4, b5, b6, ?_, ?_, ?_, ?_⟩) hRel.2
  · exact SlR_off b7 (fun h => h) rfl (fun i hi => hD2 _ (by omega)) rfl rfl
  · exact SlR_off b8 (fun h => h) rfl (fun i hi => hD2 _ (by omega)) rfl rfl
  · refine Or.inr ⟨rfl, rfl, ?_, ?_⟩
    · exact LiveX_cong (x := x) b3 (fun i hi => cpy0 hi) (fun i hi => cpy0 hi) (fun i hi => cpy0 hi)
    · obtain ⟨a0, a1, a2, a3, a4, a5, a6, a7, a8, a9, a10, a11⟩ := b4
      exact LiveR_cong (b := rB z 11) ⟨a0, a1, a2, a3, a4, a5, a6, a7, a8, a9, a10, a11⟩ (fun i hi => cpy0 hi) (fun i hi => cpy0 hi) (fun i hi => cpy0 hi) (fun i hi => hD1 i hi)
  · exact SlR_off b10 (fun h => h) rfl (fun i hi => hD2 _ (by omega)) rfl rfl
theorem goOn_2 {c : Nat} {x z : PD} (hc : c < 512) (hRel : Rel c x z) : ∃ (r : Int32) (x1 z1 : PD), f_X5_goOn_v2 x = some (r, x1) ∧ f_X6_goOn z (nI 2) = some (r, z1) ∧ rI z1 0 = 0 ∧ Rel (c + 1) x1 z1 := by
  obtain ⟨b1, b2, b3, b4, b5, b6, b7, b8, b9, b10⟩ := hRel.1
  unfold f_X5_goOn_v2 f_X5_slotAt_v2 f_X6_goOn
  have r15 : rA (wI z 0 0) 15 = rA z 15 := rfl
  rw [if_neg (by decide), if_neg (by decide), bn1_s, isSlot_y (by decide), bn2_s, if_neg (show ¬ (1 : Int32) = 0 by decide), inR_nI (show 2 < 4 by decide) (by decide), gd_t, nI_clamp (by decide), r15]
  have hsl := b9
  rcases hsl with ⟨h1, h2⟩ | ⟨h1, h2, h3, h4⟩
  · rw [h1, h2, if_pos rfl, if_pos rfl]
    exact ⟨_, _, _, rfl, rfl, rfl, good1 hRel 0⟩
  · rw [h1, h2, if_neg (by decide), if_neg (by decide)]
    obtain ⟨D, g1, g2⟩ := goOn_loop (z := wI z 0 0) (s := 2) (by decide) FU 0 (rB z 11) (by unfold FU; omega) (by omega) (fun k h => by omega)
    have e : wB (wI z 0 0) 11 (rB z 11) = wI z 0 0 := wB_self (wI z 0 0) 11
    rw [e] at g1
    have g1' : f_X6_goOn_b21 FU (wI z 0 0) (nI 2) 0 = _ := g1
    rw [g1']
    have hx : f_X3_copyFrom_12_24 x = some (wL (wI (wI (wA (wA (wA (wI (wL (wI (wI (wI (wL x 385 (rL x 769)) 386 (rI x 770)) 387 (rI x 771)) 388 (rI x 772)) 389 (rL x 773)) 390 (rI x 774)) 13 (va_cpy (rA x 25) (rA x 13) 0 0 20)) 14 (va_cpy (rA x 26) (rA x 14) 0 0 20)) 15 (va_cpy (rA x 27) (rA x 15) 0 0 4)) 394 (rI x 778)) 395 (rI x 779)) 396 (rL x 780)) := rfl
    rw [hx, bn1_s]
    have hB : RelB (20000 * c) (100000 * c) (wL (wI (wI (wA (wA (wA (wI (wL (wI (wI (wI (wL x 385 (rL x 769)) 386 (rI x 770)) 387 (rI x 771)) 388 (rI x 772)) 389 (rL x 773)) 390 (rI x 774)) 13 (va_cpy (rA x 25) (rA x 13) 0 0 20)) 14 (va_cpy (rA x 26) (rA x 14) 0 0 20)) 15 (va_cpy (rA x 27) (rA x 15) 0 0 4)) 394 (rI x 778)) 395 (rI x 779)) 396 (rL x 780)) (wL (wL (wB (wI z 0 0) 11 D) 15 (rB z 13 2)) 16 (rB z 14 2)) := by
      refine ⟨b1, b2, ?_, ?_, b5, b6, b7, b8, b9, b10⟩
      · exact LiveX_cong (x := x) h3 (fun i hi => cpy0 hi) (fun i hi => cpy0 hi) (fun i hi => cpy0 hi)
      · exact LiveR_cong h4 (fun i hi => cpy0 hi) (fun i hi => cpy0 hi) (fun i hi => cpy0 hi) (fun i hi => g2 i hi)
    obtain ⟨F, G, W, a, b', F', G', W', a', b'', w1, w2, w3, w4⟩ := find_rel hB
    have w2' : f_X6_finds (wL (wL (wB (wI z 0 0) 11 D) 15 (rB (wI z 0 0) 13 2)) 16 (rB (wI z 0 0) 14 2)) = _ := w2
    rw [w1, bn1_s, w2', bn1_s]
    exact ⟨_, _, _, rfl, rfl, rfl, Rel_of (RelB_mono (Nat.le_refl _) (by omega) w3) w4⟩
theorem keep_3 {c : Nat} {x z : PD} (hc : c < 512) (hRel : Rel c x z) : ∃ (r : Int32) (x1 z1 : PD), f_X5_keep_v3 x = some (r, x1) ∧ f_X6_keep z (nI 3) = some (r, z1) ∧ rI z1 0 = 0 ∧ Rel (c + 1) x1 z1 := by
  obtain ⟨b1, b2, b3, b4, b5, b6, b7, b8, b9, b10⟩ := hRel.1
  have hfl : isB (rI x 896) = true ∧ rA z 15 3 = rI x 896 := by
    rcases b10 with ⟨h1, h2⟩ | ⟨h1, h2, -⟩
    · exact ⟨by rw [h1]; decide, by rw [h1, h2]⟩
    · exact ⟨by rw [h1]; decide, by rw [h1, h2]⟩
  have hx : ∃ x1, f_X5_keep_v3 x = some (rI x 896, x1) ∧ x1 = wI (wL (wI (wI (wA (wA (wA (wI (wL (wI (wI (wI (wL x 897 (rL x 385)) 898 (rI x 386)) 899 (rI x 387)) 900 (rI x 388)) 901 (rL x 389)) 902 (rI x 390)) 29 (va_cpy (rA x 13) (rA x 29) 0 0 20)) 30 (va_cpy (rA x 14) (rA x 30) 0 0 20)) 31 (va_cpy (rA x 15) (rA x 31) 0 0 4)) 906 (rI x 394)) 907 (rI x 395)) 908 (rL x 396)) 896 1 := by
    refine ⟨_, ?_, rfl⟩
    unfold f_X5_keep_v3 f_X5_slotAt_v3 f_X3_copyFrom_28_12
    rw [if_neg (by decide), if_neg (by decide), bn1_s]
    simp only [letv_e, bn1_s]
    rw [hfl.1, gd_t]
    rfl
  obtain ⟨x1, hx1, hx2⟩ := hx
  have hz : ∃ D, f_X6_keep z (nI 3) = some (rI x 896, kpZ (wA (wI z 0 0) 15 (upd (rA z 15) 3 1)) 3 D) ∧ (∀ k, k < 56 → D (56 * 3 + k) = rB z 11 k) ∧ (∀ j, j < 56 * 3 ∨ 56 * 3 + 56 ≤ j → D j = rB z 12 j) := by
    unfold f_X6_keep
    have en : vp_nar .boolean 1 = 1 := by decide
    rw [isSlot_y (by decide), bn2_s, if_neg (by decide), inR_nI (show 3 < 4 by decide) (by decide), gd_t, gd_t, letv_e, nI_clamp (by decide), en]
    have r15 : rA (wI z 0 0) 15 = rA z 15 := rfl
    rw [r15, hfl.2]
    obtain ⟨D, h1, h2, h3⟩ := keep_loop (z := wA (wI z 0 0) 15 (upd (rA z 15) 3 1)) (s := 3) (by decide) (v2 := rI x 896) (rB z 12) FU 0 (rB z 12) (by unfold FU; omega) (by omega) (fun k h => by omega) (fun j _ => rfl)
    refine ⟨D, ?_, h2, h3⟩
    have e : wB (wA (wI z 0 0) 15 (upd (rA z 15) 3 1)) 12 (rB z 12) = wA (wI z 0 0) 15 (upd (rA z 15) 3 1) := wB_self (wA (wI z 0 0) 15 (upd (rA z 15) 3 1)) 12
    rw [e] at h1
    rw [hfl.1, gd_t] at h1
    exact h1
  obtain ⟨D, hz1, hD1, hD2⟩ := hz
  refine ⟨_, x1, _, hx1, hz1, rfl, ?_⟩
  subst hx2
  refine Rel_of (RelB_mono (B := 20000 * c) (M := 100000 * c) (Nat.le_refl _) (by omega) ⟨b1, b2, b3, b4, b5, b6, ?_, ?_, ?_, ?_⟩) hRel.2
  · exact SlR_off b7 (fun h => h) rfl (fun i hi => hD2 _ (by omega)) rfl rfl
  · exact SlR_off b8 (fun h => h) rfl (fun i hi => hD2 _ (by omega)) rfl rfl
  · exact SlR_off b9 (fun h => h) rfl (fun i hi => hD2 _ (by omega)) rfl rfl
  · refine Or.inr ⟨rfl, rfl, ?_, ?_⟩
    · exact LiveX_cong (x := x) b3 (fun i hi => cpy0 hi) (fun i hi => cpy0 hi) (fun i hi => cpy0 hi)
    · obtain ⟨a0, a1, a2, a3, a4, a5, a6, a7, a8, a9, a10, a11⟩ := b4
      exact LiveR_cong (b := rB z 11) ⟨a0, a1, a2, a3, a4, a5, a6, a7, a8, a9, a10, a11⟩ (fun i hi => cpy0 hi) (fun i hi => cpy0 hi) (fun i hi => cpy0 hi) (fun i hi => hD1 i hi)
theorem goOn_3 {c : Nat} {x z : PD} (hc : c < 512) (hRel : Rel c x z) : ∃ (r : Int32) (x1 z1 : PD), f_X5_goOn_v3 x = some (r, x1) ∧ f_X6_goOn z (nI 3) = some (r, z1) ∧ rI z1 0 = 0 ∧ Rel (c + 1) x1 z1 := by
  obtain ⟨b1, b2, b3, b4, b5, b6, b7, b8, b9, b10⟩ := hRel.1
  unfold f_X5_goOn_v3 f_X5_slotAt_v3 f_X6_goOn
  have r15 : rA (wI z 0 0) 15 = rA z 15 := rfl
  rw [if_neg (by decide), if_neg (by decide), bn1_s, isSlot_y (by decide), bn2_s, if_neg (show ¬ (1 : Int32) = 0 by decide), inR_nI (show 3 < 4 by decide) (by decide), gd_t, nI_clamp (by decide), r15]
  have hsl := b10
  rcases hsl with ⟨h1, h2⟩ | ⟨h1, h2, h3, h4⟩
  · rw [h1, h2, if_pos rfl, if_pos rfl]
    exact ⟨_, _, _, rfl, rfl, rfl, good1 hRel 0⟩
  · rw [h1, h2, if_neg (by decide), if_neg (by decide)]
    obtain ⟨D, g1, g2⟩ := goOn_loop (z := wI z 0 0) (s := 3) (by decide) FU 0 (rB z 11) (by unfold FU; omega) (by omega) (fun k h => by omega)
    have e : wB (wI z 0 0) 11 (rB z 11) = wI z 0 0 := wB_self (wI z 0 0) 11
    rw [e] at g1
    have g1' : f_X6_goOn_b21 FU (wI z 0 0) (nI 3) 0 = _ := g1
    rw [g1']
    have hx : f_X3_copyFrom_12_28 x = some (wL (wI (wI (wA (wA (wA (wI (wL (wI (wI (wI (wL x 385 (rL x 897)) 386 (rI x 898)) 387 (rI x 899)) 388 (rI x 900)) 389 (rL x 901)) 390 (rI x 902)) 13 (va_cpy (rA x 29) (rA x 13) 0 0 20)) 14 (va_cpy (rA x 30) (rA x 14) 0 0 20)) 15 (va_cpy (rA x 31) (rA x 15) 0 0 4)) 394 (rI x 906)) 395 (rI x 907)) 396 (rL x 908)) := rfl
    rw [hx, bn1_s]
    have hB : RelB (20000 * c) (100000 * c) (wL (wI (wI (wA (wA (wA (wI (wL (wI (wI (wI (wL x 385 (rL x 897)) 386 (rI x 898)) 387 (rI x 899)) 388 (rI x 900)) 389 (rL x 901)) 390 (rI x 902)) 13 (va_cpy (rA x 29) (rA x 13) 0 0 20)) 14 (va_cpy (rA x 30) (rA x 14) 0 0 20)) 15 (va_cpy (rA x 31) (rA x 15) 0 0 4)) 394 (rI x 906)) 395 (rI x 907)) 396 (rL x 908)) (wL (wL (wB (wI z 0 0) 11 D) 15 (rB z 13 3)) 16 (rB z 14 3)) := by
      refine ⟨b1, b2, ?_, ?_, b5, b6, b7, b8, b9, b10⟩
      · exact LiveX_cong (x := x) h3 (fun i hi => cpy0 hi) (fun i hi => cpy0 hi) (fun i hi => cpy0 hi)
      · exact LiveR_cong h4 (fun i hi => cpy0 hi) (fun i hi => cpy0 hi) (fun i hi => cpy0 hi) (fun i hi => g2 i hi)
    obtain ⟨F, G, W, a, b', F', G', W', a', b'', w1, w2, w3, w4⟩ := find_rel hB
    have w2' : f_X6_finds (wL (wL (wB (wI z 0 0) 11 D) 15 (rB (wI z 0 0) 13 3)) 16 (rB (wI z 0 0) 14 3)) = _ := w2
    rw [w1, bn1_s, w2', bn1_s]
    exact ⟨_, _, _, rfl, rfl, rfl, Rel_of (RelB_mono (Nat.le_refl _) (by omega) w3) w4⟩
theorem op_keep : Op_keep Rel := by
  intro c x z p1 hc hRel
  rcases slots p1 with rfl | rfl | rfl | rfl | h
  · exact Or.inl ⟨rfl, keep_0 hc hRel⟩
  · exact Or.inr (Or.inl ⟨rfl, keep_1 hc hRel⟩)
  · exact Or.inr (Or.inr (Or.inl ⟨rfl, keep_2 hc hRel⟩))
  · exact Or.inr (Or.inr (Or.inr (Or.inl ⟨rfl, keep_3 hc hRel⟩)))
  · refine Or.inr (Or.inr (Or.inr (Or.inr ⟨slN h, 0, wI (wI z 0 0) 0 1, ?_, rfl, bad1 hRel 0 1⟩)))
    unfold f_X6_keep
    rw [isSlot_n h, bn2_s, if_pos rfl]
theorem op_goOn : Op_goOn Rel := by
  intro c x z p1 hc hRel
  rcases slots p1 with rfl | rfl | rfl | rfl | h
  · exact Or.inl ⟨rfl, goOn_0 hc hRel⟩
  · exact Or.inr (Or.inl ⟨rfl, goOn_1 hc hRel⟩)
  · exact Or.inr (Or.inr (Or.inl ⟨rfl, goOn_2 hc hRel⟩))
  · exact Or.inr (Or.inr (Or.inr (Or.inl ⟨rfl, goOn_3 hc hRel⟩)))
  · refine Or.inr (Or.inr (Or.inr (Or.inr ⟨slN h, 0, wI (wI z 0 0) 0 1, ?_, rfl, bad1 hRel 0 1⟩)))
    unfold f_X6_goOn
    rw [isSlot_n h, bn2_s, if_pos rfl]
