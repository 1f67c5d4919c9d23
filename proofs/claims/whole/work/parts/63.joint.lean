/-! ===== PURE: joint, price ===== -/
def isJ (x : PD) (v1 v2 v3 : Int32) : Prop := ∃ j, j < cnj x ∧ rA x 7 j = v1 ∧ rA x 8 j = v2 ∧ rA x 9 j = v3
theorem isJoint_c {x : PD} (hV : ScV x) (v1 v2 v3 : Int32) : ∃ r, f_X2_isJoint x v1 v2 v3 = some r ∧ ((isJ x v1 v2 v3 ∧ r = 1) ∨ (¬ isJ x v1 v2 v3 ∧ r = 0)) := by
  have hnj := hV.nj
  have main : ∀ (n i : Nat), cnj x - i < n → i ≤ cnj x → (∀ j, j < i → ¬ (rA x 7 j = v1 ∧ rA x 8 j = v2 ∧ rA x 9 j = v3)) → ∃ r, f_X2_isJoint_b3 x n v1 v2 v3 (nI i) = some r ∧ ((isJ x v1 v2 v3 ∧ r = 1) ∨ (¬ isJ x v1 v2 v3 ∧ r = 0)) := by
    intro n
    induction n with
    | zero => intro i h; omega
    | succ n ih =>
      intro i hn hi hno
      rw [f_X2_isJoint_b3, hnj.1]
      by_cases hlt : i < cnj x
      · rw [if_neg (by rw [nI_leI (by omega) (by omega)]; omega)]
        have i100 : inR (nI i) 100 = true := inR_nI (by omega) (by decide)
        have cl : Int32.toNatClampNeg (nI i) = i := nI_clamp (by omega)
        simp only [i100, gd_t, cl, nI_1]
        have next : ¬ (rA x 7 i = v1 ∧ rA x 8 i = v2 ∧ rA x 9 i = v3) → ∃ r, f_X2_isJoint_b3 x n v1 v2 v3 (nI (i + 1)) = some r ∧ ((isJ x v1 v2 v3 ∧ r = 1) ∨ (¬ isJ x v1 v2 v3 ∧ r = 0)) := fun hq => ih (i + 1) (by omega) (by omega) (fun j hj => by
          by_cases he : j = i
          · rw [he]; exact hq
          · exact hno j (by omega))
        by_cases a1 : rA x 7 i = v1
        · rw [if_pos a1]
          by_cases a2 : rA x 8 i = v2
          · rw [if_pos a2]
            by_cases a3 : rA x 9 i = v3
            · rw [if_pos a3]
              exact ⟨1, rfl, Or.inl ⟨⟨i, hlt, a1, a2, a3⟩, rfl⟩⟩
            · rw [if_neg a3]; exact next (fun q => a3 q.2.2)
          · rw [if_neg a2]; exact next (fun q => a2 q.2.1)
        · rw [if_neg a1]; exact next (fun q => a1 q.1)
      · rw [if_pos (by rw [nI_leI (by omega) (by omega)]; omega)]
        exact ⟨0, rfl, Or.inr ⟨fun ⟨j, h1, h2⟩ => hno j (by omega) h2, rfl⟩⟩
  exact main FU 0 (by unfold FU; omega) (Nat.zero_le _) (fun j hj => by omega)
def njX (x : PD) (a b c d : Int32) : PD := wI (wA (wA (wA (wA x 7 (upd (rA x 7) (cnj x) a)) 8 (upd (rA x 8) (cnj x) b)) 9 (upd (rA x 9) (cnj x) c)) 10 (upd (rA x 10) (cnj x) d)) 42 (nI (cnj x + 1))
def njZ (x z : PD) (a b c d : Int32) : PD := wI (wA (wA (wA (wA z 6 (upd (rA z 6) (cnj x) a)) 7 (upd (rA z 7) (cnj x) b)) 8 (upd (rA z 8) (cnj x) c)) 9 (upd (rA z 9) (cnj x) d)) 2 (nI (cnj x + 1))
theorem joint80_m {x z : PD} (hV : ScV x) (hS : SEq x z) (hlt : cnj x < 100) (v1 v2 v3 v4 : Int32) : (isJ x v1 v2 v3 → f_X6_joint_b80 FU z v1 v2 v3 v4 0 = some (-1, z)) ∧ (¬ isJ x v1 v2 v3 → f_X6_joint_b80 FU z v1 v2 v3 v4 0 = bn1 (f_X6_finds (njZ x z v1 v2 v3 v4)) fun x13 => some ((rI x13 2) - 1, x13)) := by
  have hnj := hV.nj
  have e2 : rI z 2 = nI (cnj x) := hS.nj hV
  have e6 : rA z 6 = rA x 7 := hS.2.2.2.2.2.2.2.1
  have e7 : rA z 7 = rA x 8 := hS.2.2.2.2.2.2.2.2.1
  have e8 : rA z 8 = rA x 9 := hS.2.2.2.2.2.2.2.2.2.1
  have main : ∀ (n i : Nat), cnj x - i < n → i ≤ cnj x → (∀ j, j < i → ¬ (rA x 7 j = v1 ∧ rA x 8 j = v2 ∧ rA x 9 j = v3)) → (isJ x v1 v2 v3 → f_X6_joint_b80 n z v1 v2 v3 v4 (nI i) = some (-1, z)) ∧ (¬ isJ x v1 v2 v3 → f_X6_joint_b80 n z v1 v2 v3 v4 (nI i) = bn1 (f_X6_finds (njZ x z v1 v2 v3 v4)) fun x13 => some ((rI x13 2) - 1, x13)) := by
    intro n
    induction n with
    | zero => intro i h; omega
    | succ n ih =>
      intro i hn hi hno
      rw [f_X6_joint_b80]
      by_cases hlt2 : i < cnj x
      · rw [e2, if_neg (by rw [nI_leI (by omega) (by omega)]; omega)]
        have i100 : inR (nI i) 100 = true := inR_nI (by omega) (by decide)
        have cl : Int32.toNatClampNeg (nI i) = i := nI_clamp (by omega)
        simp only [i100, gd_t, cl, nI_1, e6, e7, e8]
        have next : ¬ (rA x 7 i = v1 ∧ rA x 8 i = v2 ∧ rA x 9 i = v3) → (isJ x v1 v2 v3 → f_X6_joint_b80 n z v1 v2 v3 v4 (nI (i + 1)) = some (-1, z)) ∧ (¬ isJ x v1 v2 v3 → f_X6_joint_b80 n z v1 v2 v3 v4 (nI (i + 1)) = bn1 (f_X6_finds (njZ x z v1 v2 v3 v4)) fun x13 => some ((rI x13 2) - 1, x13)) := fun hq => ih (i + 1) (by omega) (by omega) (fun j hj => by
          by_cases he : j = i
          · rw [he]; exact hq
          · exact hno j (by omega))
        by_cases a1 : rA x 7 i = v1
        · rw [if_pos a1]
          by_cases a2 : rA x 8 i = v2
          · rw [if_pos a2]
            by_cases a3 : rA x 9 i = v3
            · rw [if_pos a3]
              exact ⟨fun _ => rfl, fun q => absurd ⟨i, hlt2, a1, a2, a3⟩ q⟩
            · rw [if_neg a3]; exact next (fun q => a3 q.2.2)
          · rw [if_neg a2]; exact next (fun q => a2 q.2.1)
        · rw [if_neg a1]; exact next (fun q => a1 q.1)
      · rw [if_pos (by rw [e2, nI_leI (by omega) (by omega)]; omega)]
        refine ⟨fun ⟨j, h1, h2⟩ => absurd h2 (hno j (by omega)), fun _ => ?_⟩
        have i100 : inR (nI (cnj x)) 100 = true := inR_nI hlt (by decide)
        have cl : Int32.toNatClampNeg (nI (cnj x)) = cnj x := nI_clamp (by omega)
        simp only [letv_e, rI_wA, rA_wA, e2, i100, gd_t, cl, nI_1]
        simp only [if_neg (show ¬ (7 : Nat) = 6 by decide), if_neg (show ¬ (8 : Nat) = 7 by decide), if_neg (show ¬ (8 : Nat) = 6 by decide), if_neg (show ¬ (9 : Nat) = 8 by decide), if_neg (show ¬ (9 : Nat) = 7 by decide), if_neg (show ¬ (9 : Nat) = 6 by decide)]
        rfl
  exact main FU 0 (by unfold FU; omega) (Nat.zero_le _) (fun j hj => by omega)
abbrev okJ (x : PD) (p q : Nat) (p2 p4 : Int32) : Prop := ckd x p ≤ 1 ∧ ckd x q ≤ 1 ∧ ¬ p2 < 1 ∧ ¬ nI (cbs x p) < p2 ∧ ¬ p4 < 0 ∧ ¬ 99 < p4
theorem addJ {x : PD} (hV : ScV x) {p q : Nat} (hp : p < cnp x) (hq : q < cnp x) (p2 p4 : Int32) : f_X2_addJoint x (nI p) p2 (nI q) p4 = f_X2_addJoint_b48 x (nI p) p2 (nI q) p4 (if okJ x p q p2 p4 then 1 else 0) := by
  have hnp := hV.np.2
  obtain ⟨-, -, k3, -⟩ := hV.pc hp
  unfold f_X2_addJoint
  rw [canPlay_c hV hp, bn1_s, canPlay_c hV hq, bn1_s, inR_nI (show p < 20 by omega) (by decide), gd_t, nI_clamp (by omega), k3]
  by_cases h0 : ckd x p ≤ 1
  · rw [if_pos h0, if_neg (by decide)]
    by_cases h1 : ckd x q ≤ 1
    · rw [if_pos h1, if_neg (by decide)]
      by_cases h2 : p2 < 1
      · rw [if_pos h2, if_neg (fun h => h.2.2.1 h2)]
      rw [if_neg h2]
      by_cases h3 : nI (cbs x p) < p2
      · rw [if_pos h3, if_neg (fun h => h.2.2.2.1 h3)]
      rw [if_neg h3]
      by_cases h4 : p4 < 0
      · rw [if_pos h4, if_neg (fun h => h.2.2.2.2.1 h4)]
      rw [if_neg h4]
      by_cases h5 : 99 < p4
      · rw [if_pos h5, if_neg (fun h => h.2.2.2.2.2 h5)]
      rw [if_neg h5, if_pos ⟨h0, h1, h2, h3, h4, h5⟩]
    · rw [if_neg h1, if_pos rfl, if_neg (fun h => h1 h.2.1)]
  · rw [if_neg h0, if_pos rfl, if_neg (fun h => h0 h.1)]
theorem jointM {x z : PD} (hV : ScV x) (hS : SEq x z) {p q : Nat} (hp : p < cnp x) (hq : q < cnp x) (p2 p4 : Int32) : f_X6_joint z (nI p) p2 (nI q) p4 = if ¬ rI z 2 = 100 ∧ okJ x p q p2 p4 then f_X6_joint_b80 FU (wI z 0 0) (nI p) p2 (nI q) p4 0 else some (-1, wI z 0 0) := by
  have hnp := hV.np.2
  have hS' : SEq x (wI z 0 0) := hS
  obtain ⟨-, m2, -⟩ := hS'.pc hV hp
  have e2 : rI (wI z 0 0) 2 = rI z 2 := rfl
  unfold f_X6_joint
  rw [letv_e, isPieceM_y (z := wI z 0 0) hV hS hp rfl, bn2_s, if_neg (by decide), isPieceM_y (z := wI z 0 0) hV hS hq rfl, bn2_s, if_neg (by decide), e2, isMain_m (z := wI z 0 0) hV hS hp, bn1_s, isMain_m (z := wI z 0 0) hV hS hq, bn1_s, inR_nI (show p < 20 by omega) (by decide), gd_t, nI_clamp (by omega), m2]
  by_cases hn : rI z 2 = 100
  · rw [if_pos hn, if_neg (fun h => h.1 hn)]
  rw [if_neg hn]
  by_cases h0 : ckd x p ≤ 1
  · rw [if_pos h0, if_neg (by decide)]
    by_cases h1 : ckd x q ≤ 1
    · rw [if_pos h1, if_neg (by decide)]
      by_cases h2 : p2 < 1
      · rw [if_pos h2, if_neg (fun h => h.2.2.2.1 h2)]
      rw [if_neg h2]
      by_cases h3 : nI (cbs x p) < p2
      · rw [if_pos h3, if_neg (fun h => h.2.2.2.2.1 h3)]
      rw [if_neg h3]
      by_cases h4 : p4 < 0
      · rw [if_pos h4, if_neg (fun h => h.2.2.2.2.2.1 h4)]
      rw [if_neg h4]
      by_cases h5 : 99 < p4
      · rw [if_neg (by simp only [ltT, leT] at *; omega), if_neg (fun h => h.2.2.2.2.2.2 h5)]
      rw [if_pos (by simp only [ltT, leT] at *; omega), if_pos ⟨hn, h0, h1, h2, h3, h4, h5⟩]
    · rw [if_neg h1, if_pos rfl, if_neg (fun h => h1 h.2.2.1)]
  · rw [if_neg h0, if_pos rfl, if_neg (fun h => h0 h.2.1)]
theorem njX_V {x : PD} (hV : ScV x) (h : cnj x < 100) {p q b d : Nat} (hp : p < cnp x) (hq : q < cnp x) (h1 : ckd x p ≤ 1) (h2 : ckd x q ≤ 1) (h3 : 1 ≤ b) (h4 : b ≤ cbs x p) (h5 : d ≤ 99) : ScV (njX x (nI p) (nI b) (nI q) (nI d)) := by
  have hnp := hV.np.2
  obtain ⟨-, -, -, -, k5, -⟩ := hV.pc hp
  obtain ⟨v1, v2, v3, v4, v5, v6⟩ := hV
  have en : cnj (njX x (nI p) (nI b) (nI q) (nI d)) = cnj x + 1 := qn_nI (by omega)
  refine ⟨v1, isN_of (n := cnj x + 1) rfl (by omega) (by omega), v3, fun j hj => ?_, v5, v6⟩
  rw [en] at hj
  by_cases he : j = cnj x
  · subst he
    have a7 : rA (njX x (nI p) (nI b) (nI q) (nI d)) 7 (cnj x) = nI p := upd_eq
    have a8 : rA (njX x (nI p) (nI b) (nI q) (nI d)) 8 (cnj x) = nI b := upd_eq
    have a9 : rA (njX x (nI p) (nI b) (nI q) (nI d)) 9 (cnj x) = nI q := upd_eq
    have a10 : rA (njX x (nI p) (nI b) (nI q) (nI d)) 10 (cnj x) = nI d := upd_eq
    unfold ScJ cfr cbh ctt
    rw [a7, a8, a9, a10, qn_nI (by omega), qn_nI (by omega), qn_nI (by omega)]
    exact ⟨isN_of rfl (by omega) (by omega), hp, h1, isN_of rfl (by omega) (by omega), h3, h4, isN_of rfl (by omega) (by omega), hq, h2, isN_of rfl h5 (by omega)⟩
  · have a7 : rA (njX x (nI p) (nI b) (nI q) (nI d)) 7 j = rA x 7 j := upd_ne he
    have a8 : rA (njX x (nI p) (nI b) (nI q) (nI d)) 8 j = rA x 8 j := upd_ne he
    have a9 : rA (njX x (nI p) (nI b) (nI q) (nI d)) 9 j = rA x 9 j := upd_ne he
    have a10 : rA (njX x (nI p) (nI b) (nI q) (nI d)) 10 j = rA x 10 j := upd_ne he
    have := v4 j (by omega)
    unfold ScJ cfr cbh ctt at this ⊢
    rw [a7, a8, a9, a10]
    exact this
theorem op_joint : Op_joint Rel := by
  intro c x z p1 p2 p3 p4 hc hRel
  obtain ⟨hB, hW⟩ := hRel
  have hV := hB.1
  have hS := hB.2.1
  have hnp := hV.np.2
  have hnj := hV.nj
  have bad : ∀ z1, (z1 = wI (wI z 0 0) 0 1) → Rel (c + 1) x z1 := fun z1 h => by
    subst h
    exact Rel_of (RelB_mono (B := 20000 * c) (M := 100000 * c) (z := wI (wI z 0 0) 0 1) (Nat.le_refl _) (by omega) hB) hW
  rcases pcs hV p1 with ⟨p, rfl, hp⟩ | hn
  · rcases pcs hV p3 with ⟨q, rfl, hq⟩ | hn
    · left
      unfold f_X5_joint f_X5_checkPiece
      rw [isPiece_y hV hp, bn1_s, if_neg (by decide), bn1_s, isPiece_y hV hq, bn1_s, if_neg (by decide), bn1_s, addJ hV hp hq, jointM hV hS hp hq]
      have e2 : rI z 2 = nI (cnj x) := hS.nj hV
      have e100 : (100 : Int32) = nI 100 := by decide
      have keep : ∃ r x1 z1, (some ((-1 : Int32), x)) = some (r, x1) ∧ (some ((-1 : Int32), wI z 0 0)) = some (r, z1) ∧ rI z1 0 = 0 ∧ Rel (c + 1) x1 z1 := ⟨_, _, _, rfl, rfl, rfl, Rel_of (RelB_mono (B := 20000 * c) (M := 100000 * c) (z := wI z 0 0) (Nat.le_refl _) (by omega) hB) hW⟩
      unfold f_X2_addJoint_b48
      by_cases hok : okJ x p q p2 p4
      · rw [if_pos hok, if_neg (by decide)]
        by_cases h100 : cnj x = 100
        · rw [hnj.1, e100, if_pos (by rw [h100]; decide), bn2_s, if_pos rfl, if_neg (fun h => h.1 (by rw [e2, h100]))]
          exact keep
        · rw [hnj.1, e100, if_neg (by rw [nI_leI (by omega) (by omega)]; omega), if_pos ⟨by rw [e2, nI_eq (by omega) (by omega)]; exact h100, hok⟩]
          have hlt : cnj x < 100 := by omega
          obtain ⟨m1, m2⟩ := joint80_m (z := wI z 0 0) hV hS hlt (nI p) p2 (nI q) p4
          obtain ⟨r, hr, hrr⟩ := isJoint_c hV (nI p) p2 (nI q)
          rw [hr, bn1_s]
          rcases hrr with ⟨hj, rfl⟩ | ⟨hj, rfl⟩
          · rw [if_neg (by decide), bn2_s, if_pos rfl, m1 hj]
            exact keep
          · rw [if_pos rfl, m2 hj]
            obtain ⟨o1, o2, o3, o4, o5, o6⟩ := hok
            obtain ⟨-, -, -, -, kb5, -⟩ := hV.pc hp
            have l0 : (0 : Int32).toInt = 0 := by decide
            have l1 : (1 : Int32).toInt = 1 := by decide
            have l99 : (99 : Int32).toInt = 99 := by decide
            have f2 : ¬ p2 < 0 := by simp only [ltT, l0, l1] at *; omega
            obtain ⟨b, hb, rfl⟩ := nI_of f2
            obtain ⟨d, hd, rfl⟩ := nI_of o5
            simp only [ltT, l0, l1, l99, nI_toInt hb, nI_toInt hd, nI_toInt (show cbs x p < 2 ^ 31 by omega)] at o3 o4 o6
            have hB' : RelB (20000 * c) (100000 * c) (wI (njX x (nI p) (nI b) (nI q) (nI d)) 1283 (-1)) (njZ x (wI z 0 0) (nI p) (nI b) (nI q) (nI d)) := by
              obtain ⟨b1, b2, b3, b4, b5, b6, b7, b8, b9, b10⟩ := hB
              obtain ⟨s1, s2, s3, s4, s5, s6, s7, s8, s9, s10, s11, s12⟩ := b2
              refine ⟨njX_V hV hlt hp hq o1 o2 (by omega) (by omega) (by omega), ⟨s1, rfl, s3, s4, s5, s6, s7, ?_, ?_, ?_, ?_, s12⟩, b3, b4, b5, Or.inl rfl, b7, b8, b9, b10⟩
              · show upd (rA z 6) (cnj x) (nI p) = upd (rA x 7) (cnj x) (nI p); rw [s8]
              · show upd (rA z 7) (cnj x) (nI b) = upd (rA x 8) (cnj x) (nI b); rw [s9]
              · show upd (rA z 8) (cnj x) (nI q) = upd (rA x 9) (cnj x) (nI q); rw [s10]
              · show upd (rA z 9) (cnj x) (nI d) = upd (rA x 10) (cnj x) (nI d); rw [s11]
            have ex : (gd (inR (nI (cnj x)) 100) (letv (wA x 7 (upd (rA x 7) (Int32.toNatClampNeg (nI (cnj x))) (nI p))) fun x3 =>
                gd (inR (rI x3 42) 100) (letv (wA x3 8 (upd (rA x3 8) (Int32.toNatClampNeg (rI x3 42)) (nI b))) fun x4 =>
                gd (inR (rI x4 42) 100) (letv (wA x4 9 (upd (rA x4 9) (Int32.toNatClampNeg (rI x4 42)) (nI q))) fun x5 =>
                gd (inR (rI x5 42) 100) (letv (wA x5 10 (upd (rA x5 10) (Int32.toNatClampNeg (rI x5 42)) (nI d))) fun x6 =>
                letv (wI x6 42 ((rI x6 42) + (1))) fun x7 =>
                some ((rI x7 42) - (1), x7)))))) = some (nI (cnj x), njX x (nI p) (nI b) (nI q) (nI d)) := by
              have i100 : inR (nI (cnj x)) 100 = true := inR_nI hlt (by decide)
              have cl : Int32.toNatClampNeg (nI (cnj x)) = cnj x := nI_clamp (by omega)
              simp only [letv_e, rI_wA, rA_wA, hnj.1, i100, gd_t, cl, nI_1]
              simp only [if_neg (show ¬ (10 : Nat) = 9 by decide), if_neg (show ¬ (8 : Nat) = 7 by decide), if_neg (show ¬ (10 : Nat) = 8 by decide), if_neg (show ¬ (9 : Nat) = 8 by decide), if_neg (show ¬ (9 : Nat) = 7 by decide), if_neg (show ¬ (10 : Nat) = 7 by decide)]
              have er : ∀ y : PD, rI (wI y 42 (nI (cnj x + 1))) 42 - 1 = nI (cnj x) := fun y => nI_pred _
              rw [er]
              rfl
            rw [ex, bn2_s, if_neg (nI_ne_m1 (by omega))]
            obtain ⟨F, G, W, a, b', F', G', W', a', b'', w1, w2, w3, w4⟩ := find_rel hB'
            unfold f_X1_scoreChanged
            rw [letv_e, w1, bn1_s, bn1_s, w2, bn1_s]
            have er : rI (wyZ (njZ x (wI z 0 0) (nI p) (nI b) (nI q) (nI d)) F' G' W' a' b'' 0) 2 - 1 = nI (cnj x) := nI_pred _
            rw [er]
            exact ⟨_, _, _, rfl, rfl, rfl, Rel_of (RelB_mono (Nat.le_refl _) (by omega) w3) w4⟩
      · rw [if_neg hok, if_pos rfl, bn2_s, if_pos rfl, if_neg (fun h => hok h.2)]
        exact keep
    · right
      unfold g_X5_joint g_X5_checkPiece f_X5_checkPiece f_X6_joint
      rw [isPiece_y hV hp, bn1_s, if_neg (by decide), bn1_s, if_neg (by decide), bn1_s, isPiece_n hn, bn1_s, if_pos rfl, letv_e, isPieceM_y (z := wI z 0 0) hV hS hp rfl, bn2_s, if_neg (by decide), isPieceM_n (z := wI z 0 0) hV hS hn rfl, bn2_s, if_pos rfl]
      exact ⟨rfl, 0, _, rfl, rfl, bad _ rfl⟩
  · right
    unfold g_X5_joint g_X5_checkPiece f_X6_joint
    rw [isPiece_n hn, bn1_s, if_pos rfl, letv_e, isPieceM_n (z := wI z 0 0) hV hS hn rfl, bn2_s, if_pos rfl]
    exact ⟨rfl, 0, _, rfl, rfl, bad _ rfl⟩
theorem op_price : Op_price Rel := by
  intro c x z p1 p2 hc hRel
  obtain ⟨hB, hW⟩ := hRel
  have hV := hB.1
  have hS := hB.2.1
  have l0 : (0 : Int32).toInt = 0 := by decide
  have l1 : (1 : Int32).toInt = 1 := by decide
  have l2 : (2 : Int32).toInt = 2 := by decide
  have l99 : (99 : Int32).toInt = 99 := by decide
  have bad : Rel (c + 1) x (wI (wI z 0 0) 0 1) := Rel_of (RelB_mono (B := 20000 * c) (M := 100000 * c) (z := wI (wI z 0 0) 0 1) (Nat.le_refl _) (by omega) hB) hW
  have b30 : f_X6_price_b30 (wI z 0 0) p1 p2 0 = some (0, wI (wI z 0 0) 0 1) := by
    unfold f_X6_price_b30
    rw [right_n1 (z := wI z 0 0) rfl, bn2_s, if_pos rfl]
  have hz : f_X6_price z p1 p2 = (if p1 = 0 then f_X6_price_b15 (wI z 0 0) p1 p2 else if p1 = 1 then f_X6_price_b15 (wI z 0 0) p1 p2 else f_X6_price_b30 (wI z 0 0) p1 p2 0) := rfl
  unfold f_X5_price g_X5_price
  rw [hz]
  by_cases h01 : p1 = 0 ∨ p1 = 1
  · have hi : ∃ i, p1 = nI i ∧ i < 2 := by
      rcases h01 with h | h
      · exact ⟨0, h, by omega⟩
      · exact ⟨1, h, by omega⟩
    obtain ⟨i, hi1, hi2⟩ := hi
    have m15 : (if p1 = 0 then f_X6_price_b15 (wI z 0 0) p1 p2 else if p1 = 1 then f_X6_price_b15 (wI z 0 0) p1 p2 else f_X6_price_b30 (wI z 0 0) p1 p2 0) = f_X6_price_b15 (wI z 0 0) p1 p2 := by
      rcases h01 with h | h
      · rw [if_pos h]
      · rw [if_neg (by rw [h]; decide), if_pos h]
    rw [m15]
    have c1 : ¬ p1 < 0 := by rw [hi1]; exact nI_pos (by omega)
    have c2 : ¬ (2 : Int32) ≤ p1 := by
      have : (2 : Int32) = nI 2 := by decide
      rw [hi1, this, nI_leI (by omega) (by omega)]; omega
    rw [if_neg c1, if_neg c2, if_neg c1, if_neg c2]
    unfold f_X6_price_b15
    by_cases a1 : p2 < 0
    · right
      rw [if_pos a1, if_pos a1, b30]
      exact ⟨rfl, _, _, rfl, rfl, bad⟩
    · rw [if_neg a1, if_neg a1, if_neg a1]
      by_cases a2 : p2 ≤ 99
      · left
        rw [if_pos a2, if_neg (by simp only [ltT, leT] at *; omega)]
        obtain ⟨v, hv, rfl⟩ := nI_of a1
        have hv99 : v ≤ 99 := by simp only [leT, l99, nI_toInt hv] at a2; omega
        unfold f_X6_price_b30
        subst hi1
        rw [right_y (z := wI z 0 0) rfl, bn2_s, if_neg (by decide), inR_nI hi2 (by decide), gd_t, gd_t, gd_t, gd_t, nI_clamp (by omega), letv_e, letv_e]
        have hB' : RelB (20000 * c) (100000 * c) (wI (wA x 11 (upd (rA x 11) i (nI v))) 1283 (-1)) (wA (wI z 0 0) 10 (upd (rA (wI z 0 0) 10) i (nI v))) := by
          obtain ⟨b1, b2, b3, b4, b5, b6, b7, b8, b9, b10⟩ := hB
          obtain ⟨v1, v2, v3, v4, v5, v6⟩ := b1
          obtain ⟨s1, s2, s3, s4, s5, s6, s7, s8, s9, s10, s11, s12⟩ := b2
          refine ⟨⟨v1, v2, v3, v4, ?_, ?_⟩, ⟨s1, s2, s3, s4, s5, s6, s7, s8, s9, s10, s11, ?_⟩, b3, b4, b5, Or.inl rfl, b7, b8, b9, b10⟩
          · show isN 99 (upd (rA x 11) i (nI v) 0)
            by_cases e : 0 = i
            · rw [← e, upd_eq]; exact isN_of rfl hv99 (by omega)
            · rw [upd_ne e]; exact v5
          · show isN 99 (upd (rA x 11) i (nI v) 1)
            by_cases e : 1 = i
            · rw [← e, upd_eq]; exact isN_of rfl hv99 (by omega)
            · rw [upd_ne e]; exact v6
          · show upd (rA z 10) i (nI v) = upd (rA x 11) i (nI v)
            rw [s12]
        obtain ⟨F, G, W, a, b', F', G', W', a', b'', w1, w2, w3, w4⟩ := find_rel hB'
        unfold f_X1_scoreChanged
        rw [letv_e, w1, bn1_s, bn1_s, w2, bn1_s]
        have er : rA (wI z 0 0) 10 i = rA x 11 i := by
          show rA z 10 i = rA x 11 i
          rw [hS.2.2.2.2.2.2.2.2.2.2.2]
        rw [er]
        exact ⟨_, _, _, rfl, rfl, rfl, Rel_of (RelB_mono (Nat.le_refl _) (by omega) w3) w4⟩
      · right
        rw [if_neg a2, if_pos (by simp only [ltT, leT] at *; omega), b30]
        exact ⟨rfl, _, _, rfl, rfl, bad⟩
  · right
    have h0 : ¬ p1 = 0 := fun h => h01 (Or.inl h)
    have h1 : ¬ p1 = 1 := fun h => h01 (Or.inr h)
    rw [if_neg h0, if_neg h1, b30]
    refine ⟨?_, _, _, rfl, rfl, bad⟩
    by_cases a1 : p1 < 0
    · rw [if_pos a1]
    · rw [if_neg a1, if_pos (by simp only [ltT, leT, eqT, l0, l1, l2] at *; omega)]
