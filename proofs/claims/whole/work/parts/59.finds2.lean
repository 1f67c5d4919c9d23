/-! ===== PURE: the model's finds, whole; the way as both sides hold it ===== -/
def HldM (r : Option (Nat × (Nat × Nat))) (v4 : Int64) (v6 : Int32) : Prop := match r with
  | none => v4 = 1000000000000 ∧ v6 = 0
  | some (_, v) => v4 = lN v.1 ∧ v6 = nI v.2
theorem best_m {x z : PD} (hV : ScV x) (hS : SEq x z) {t : Tb} (hT : TabM (cnp x) (rB z 20) (rA z 21) t) (hB : bdT 3000 t) {p d o : Nat} (hp : p < cnp x) (hd : d < cbs x p) (hoo : o < cbt x p) : ∀ (n N : Nat) (r : Option (Nat × (Nat × Nat))) (v4 : Int64) (v6 : Int32), 101 - N < n → N ≤ 101 → Bst x t p d o N r → HldM r v4 v6 → ∃ r' w4 w6, Bst x t p d o 101 r' ∧ HldM r' w4 w6 ∧ f_X6_finds_b73 n z (nI p) (nI d) (nI o) v4 v6 (nI N) = (if (lg_cmp w4 (1000000000000 : Int64)) < 0 then letv (wI z 20 1) fun x11 => f_X6_finds_b208 FU x11 (nI p) (nI d) (nI o) w4 w6 else some z) := by
  have hnp := hV.np.2
  have hnj := hV.nj.2
  obtain ⟨-, -, -, -, k5, -, -, -, -, -, -⟩ := hV.pc hp
  intro n
  induction n with
  | zero => intro N r v4 v6 h; omega
  | succ n ih =>
    intro N r v4 v6 hn hN hBst hH
    rw [f_X6_finds_b73]
    by_cases hlt : N = 101
    · subst hlt
      rw [if_pos (by decide)]
      exact ⟨r, v4, v6, hBst, hH, rfl⟩
    · have e100 : (100 : Int32) = nI 100 := by decide
      rw [e100, if_neg (by rw [nI_ltI (by omega) (by omega)]; omega)]
      obtain ⟨q, hq, hqq⟩ := isStep_m hV hS (p := p) (d := d) (s := N) hp (by omega) (by omega)
      rw [hq, bn1_s, nI_1]
      rcases hqq with ⟨ho, rfl⟩ | ⟨ho, rfl⟩
      · rw [if_neg (by decide)]
        have hlt := lds_lt hV hp ho
        have hld := leads_m hV hS ho
        have hsc := stepCost_m hV hS hp hd hoo ho
        have hTt := hT (lds x p N) hlt
        rw [hld, bn1_s]
        simp only [inR_nI (show lds x p N < 20 by omega) (by decide), gd_t, nI_clamp (show lds x p N < 2 ^ 31 by omega), bn1_s, hsc, lg_lt0, lg_gt0, lg_eq0]
        have skip : (∀ v, cand x t p d o N v → ¬ btr v (r.map Prod.snd)) → ∃ r' w4 w6, Bst x t p d o 101 r' ∧ HldM r' w4 w6 ∧ f_X6_finds_b73 n z (nI p) (nI d) (nI o) v4 v6 (nI (N + 1)) = (if (lg_cmp w4 (1000000000000 : Int64)) < 0 then letv (wI z 20 1) fun x11 => f_X6_finds_b208 FU x11 (nI p) (nI d) (nI o) w4 w6 else some z) := by
          intro hno
          refine ih (N + 1) r v4 v6 (by omega) (by omega) ?_ hH
          by_cases hex : ∃ v, cand x t p d o N v
          · obtain ⟨v, hv⟩ := hex
            exact Bst_keep hBst hv (hno v hv)
          · exact Bst_skip hBst (fun v hv => hex ⟨v, hv⟩)
        simp only [lg_lt0] at skip
        cases hto : t (lds x p N) with
        | none =>
          rw [hto] at hTt
          simp only at hTt
          rw [if_neg (by rw [hTt]; decide)]
          refine skip ?_
          rintro v ⟨-, h2⟩
          unfold vls at h2
          rw [hto] at h2
          cases h2
        | some u =>
          rw [hto] at hTt
          simp only at hTt
          have hci : cand x t p d o N (u.1 + scst x p d o N, u.2 + 1) := ⟨ho, by unfold vls; rw [hto]⟩
          have hbi := vls_bd2 hV hB hp hci
          simp only at hbi
          rw [hTt.1, hTt.2, if_pos (by rw [lFar, pk_lLT (by omega) (by omega)]; omega), nI_1, lN_add]
          have take : btr (u.1 + scst x p d o N, u.2 + 1) (r.map Prod.snd) → ∃ r' w4 w6, Bst x t p d o 101 r' ∧ HldM r' w4 w6 ∧ f_X6_finds_b73 n z (nI p) (nI d) (nI o) (lN (scst x p d o N + u.1)) (nI (u.2 + 1)) (nI (N + 1)) = (if (lg_cmp w4 (1000000000000 : Int64)) < 0 then letv (wI z 20 1) fun x11 => f_X6_finds_b208 FU x11 (nI p) (nI d) (nI o) w4 w6 else some z) := by
            intro hb
            exact ih (N + 1) (some (N, (u.1 + scst x p d o N, u.2 + 1))) _ _ (by omega) (by omega) (Bst_take hBst hci hb) ⟨by rw [Nat.add_comm], rfl⟩
          simp only [lg_lt0] at take
          have skip1 : ¬ btr (u.1 + scst x p d o N, u.2 + 1) (r.map Prod.snd) → _ := fun hnb => skip (fun v hv => by rw [cand_fun hv hci]; exact hnb)
          cases r with
          | none =>
            obtain ⟨rfl, rfl⟩ := hH
            rw [if_neg (by rw [lFar, pk_lLT (by omega) (by omega)]; omega), if_neg (by rw [lFar, pk_lEQ (by omega) (by omega)]; omega)]
            exact take trivial
          | some w =>
            obtain ⟨s1, v⟩ := w
            obtain ⟨rfl, rfl⟩ := hH
            have hbv := vls_bd2 hV hB hp hBst.2.1
            have e1 : (lN v.1 < lN (scst x p d o N + u.1)) = (v.1 < scst x p d o N + u.1) := propext (pk_lLT (by omega) (by omega))
            have e2 : (lN (scst x p d o N + u.1) = lN v.1) = (scst x p d o N + u.1 = v.1) := propext (pk_lEQ (by omega) (by omega))
            have e3 : (nI (u.2 + 1) < nI v.2) = (u.2 + 1 < v.2) := propext (nI_ltI (by omega) (by omega))
            simp only [e1, e2, e3]
            by_cases a1 : v.1 < scst x p d o N + u.1
            · rw [if_pos a1]
              exact skip1 (by show ¬ ltb _ _; unfold ltb; simp only; omega)
            · rw [if_neg a1]
              by_cases a2 : scst x p d o N + u.1 = v.1
              · rw [if_pos a2]
                by_cases a3 : u.2 + 1 < v.2
                · rw [if_pos a3]
                  exact take (by show ltb _ _; unfold ltb; simp only; omega)
                · rw [if_neg a3]
                  exact skip1 (by show ¬ ltb _ _; unfold ltb; simp only; omega)
              · rw [if_neg a2]
                exact take (by show ltb _ _; unfold ltb; simp only; omega)
      · rw [if_pos rfl]
        exact ih (N + 1) r v4 v6 (by omega) (by omega) (Bst_skip hBst (fun v h => ho h.1)) hH
def wyZ (z : PD) (F : Nat → Int64) (G W : Nat → Int32) (a b c : Int32) : PD := wI (wI (wI (wA (stT 20 21 z F G) 16 W) 20 a) 21 b) 22 c
def ZW (z z' : PD) : Prop := (∀ i, i ≠ 20 → i ≠ 21 → i ≠ 22 → rI z' i = rI z i) ∧ (∀ i, rL z' i = rL z i) ∧ (∀ i, i ≠ 16 → i ≠ 21 → rA z' i = rA z i) ∧ (∀ i, i ≠ 20 → rB z' i = rB z i)
theorem ZW_form {x x' : PD} (h : ZW x x') : x' = wyZ x (rB x' 20) (rA x' 21) (rA x' 16) (rI x' 20) (rI x' 21) (rI x' 22) := by
  obtain ⟨h1, h2, h3, h4⟩ := h
  unfold wyZ stT
  apply PD_ext
  · intro i
    simp only [rI_wI, rI_wA, rI_wB]
    split
    · next e => rw [e]
    · split
      · next e => rw [e]
      · split
        · next e => rw [e]
        · exact h1 i ‹_› ‹_› ‹_›
  · intro i; exact h2 i
  · intro i
    simp only [rA_wI, rA_wA, rA_wB]
    split
    · next e => rw [e]
    · split
      · next e => rw [e]
      · exact h3 i ‹_› ‹_›
  · intro i
    simp only [rB_wI, rB_wA, rB_wB]
    split
    · next e => rw [e]
    · exact h4 i ‹_›
theorem TabM_fin {x : PD} {a b m : Nat} {F : Nat → Int64} {G : Nat → Int32} {t t' : Tb} (h : TabM (cnp x) F G t') (h1 : FinT x a b m t) (h2 : FinT x a b m t') : TabM (cnp x) F G t := by
  intro p hp
  rw [FinT_uniq h1 h2 hp]
  exact h p hp
theorem finds_none {z : PD} (h : gt z 4 = -1 ∨ gt z 0 = -1) : f_X6_finds z = some (wyZ z (rB z 20) (rA z 21) (rA z 16) 0 0 0) := by
  have e0 : wI (wI (wI z 20 0) 21 0) 22 0 = wyZ z (rB z 20) (rA z 21) (rA z 16) 0 0 0 := by
    refine ZW_form (x := z) (x' := wI (wI (wI z 20 0) 21 0) 22 0) ⟨fun i h1 h2 h3 => ?_, fun i => rfl, fun i _ _ => rfl, fun i _ => rfl⟩
    simp only [rI_wI, if_neg h1, if_neg h2, if_neg h3]
  unfold f_X6_finds
  simp only [letv_e]
  rw [e0, get4, bn1_s, get0, bn1_s]
  have g4 : gt (wyZ z (rB z 20) (rA z 21) (rA z 16) 0 0 0) 4 = gt z 4 := rfl
  have g0 : gt (wyZ z (rB z 20) (rA z 21) (rA z 16) 0 0 0) 0 = gt z 0 := rfl
  rw [g4, g0]
  by_cases a : gt z 4 = -1
  · rw [if_pos a]
  · rw [if_neg a, if_pos (h.resolve_left a)]
theorem finds_m {x z : PD} (hV : ScV x) (hS : SEq x z) {m p d o : Nat} (hm : m ≤ 7) (hL : LV x p d o) (g0 : gt z 0 = nI p) (g1 : gt z 1 = nI d) (g3 : gt z 3 = nI o) (g4 : gt z 4 = nI m) {t : Tb} (hB : bdT 3000 t) (hF : FinT x 24 (cpL x) m t) :
    ∃ F G r, Bst x t p d o 101 r ∧ match r with
      | none => ∃ W, f_X6_finds z = some (wyZ z F G W 0 0 0)
      | some (s, v) => ∃ W n, v.2 = n + 1 ∧ f_X6_finds z = some (wyZ z F G W 1 (nI (n + 1)) 0) ∧ W 0 = nI s ∧ Ch x t W n 1 (lds x p s) := by
  have hnp := hV.np.2
  have hnj := hV.nj.2
  obtain ⟨-, hp, -, -, hd, -, hoo⟩ := hL
  have e0 : wI (wI (wI z 20 0) 21 0) 22 0 = wyZ z (rB z 20) (rA z 21) (rA z 16) 0 0 0 := by
    refine ZW_form (x := z) (x' := wI (wI (wI z 20 0) 21 0) 22 0) ⟨fun i h1 h2 h3 => ?_, fun i => rfl, fun i _ _ => rfl, fun i _ => rfl⟩
    simp only [rI_wI, if_neg h1, if_neg h2, if_neg h3]
  unfold f_X6_finds
  simp only [letv_e]
  rw [e0, get4, bn1_s, get0, bn1_s]
  have g4' : gt (wyZ z (rB z 20) (rA z 21) (rA z 16) 0 0 0) 4 = nI m := g4
  have g0' : gt (wyZ z (rB z 20) (rA z 21) (rA z 16) 0 0 0) 0 = nI p := g0
  rw [g4', g0', if_neg (nI_ne_m1 (by omega)), if_neg (nI_ne_m1 (by omega)), bn1_s]
  obtain ⟨F, G, t', k1, k2, k3, k4⟩ := reckons_m x (wyZ z (rB z 20) (rA z 21) (rA z 16) 0 0 0) hV hS 0 (a := 24) (b := cpL x) (m := m) (Or.inl ⟨rfl, rfl, rfl⟩) hm
  rw [k1, bn1_s]
  have e1 : stT 20 21 (wyZ z (rB z 20) (rA z 21) (rA z 16) 0 0 0) F G = wyZ z F G (rA z 16) 0 0 0 := by
    refine ZW_form (x := z) ⟨fun i h1 h2 h3 => ?_, fun i => rfl, fun i h1 h2 => ?_, fun i h1 => ?_⟩
    · unfold wyZ stT
      simp only [rI_wI, rI_wA, rI_wB, if_neg h1, if_neg h2, if_neg h3]
    · unfold wyZ stT
      simp only [rA_wI, rA_wA, rA_wB, if_neg h1, if_neg h2]
    · unfold wyZ stT
      simp only [rB_wI, rB_wA, rB_wB, if_neg h1]
  rw [e1, get0, bn1_s, get1, bn1_s, get3, bn1_s]
  have h0' : gt (wyZ z F G (rA z 16) 0 0 0) 0 = nI p := g0
  have h1' : gt (wyZ z F G (rA z 16) 0 0 0) 1 = nI d := g1
  have h3' : gt (wyZ z F G (rA z 16) 0 0 0) 3 = nI o := g3
  rw [h0', h1', h3']
  have hT : TabM (cnp x) F G t := TabM_fin k2 hF k4
  obtain ⟨r, w4, w6, q1, q2, q3⟩ := best_m (z := wyZ z F G (rA z 16) 0 0 0) hV hS hT hB hp hd hoo FU 0 none 1000000000000 0 (by unfold FU; omega) (by omega) (fun s v h => by omega) ⟨rfl, rfl⟩
  have q3' : f_X6_finds_b73 FU (wyZ z F G (rA z 16) 0 0 0) (nI p) (nI d) (nI o) 1000000000000 0 0 = _ := q3
  rw [q3']
  refine ⟨F, G, r, q1, ?_⟩
  cases r with
  | none =>
    obtain ⟨rfl, -⟩ := q2
    rw [if_neg (by rw [lg_lt0]; decide)]
    exact ⟨_, rfl⟩
  | some w =>
    obtain ⟨s, v⟩ := w
    obtain ⟨rfl, rfl⟩ := q2
    obtain ⟨q4, q5, q6, q7⟩ := q1
    have hbv := vls_bd2 hV hB hp q5
    rw [if_pos (by rw [lg_lt0, lFar, pk_lLT (by omega) (by omega)]; omega), letv_e]
    have hlt := lds_lt hV hp q5.1
    have hvl := q5.2
    unfold vls at hvl
    cases hto : t (lds x p s) with
    | none => rw [hto] at hvl; cases hvl
    | some u =>
      rw [hto] at hvl
      have hv2 : v.2 = u.2 + 1 := by cases hvl; rfl
      have hsh := Fin_short hV hF hlt hto
      have e2 : wI (wyZ z F G (rA z 16) 0 0 0) 20 1 = swZ (wyZ z F G (rA z 16) 1 0 0) (rA z 16) 0 := by
        unfold swZ
        apply PD_ext
        · intro i
          unfold wyZ stT
          simp only [rI_wI, rI_wA, rI_wB]
          by_cases c20 : i = 20
          · subst c20; rfl
          · by_cases c21 : i = 21
            · subst c21; rfl
            · simp only [if_neg c20, if_neg c21]
        · intro i; rfl
        · intro i
          unfold wyZ stT
          simp only [rA_wI, rA_wA, rA_wB]
          by_cases c16 : i = 16
          · subst c16; rfl
          · simp only [if_neg c16]
        · intro i; rfl
      rw [e2]
      have hfu : FU = 999999 + 1 := rfl
      rw [hfu, f_X6_finds_b208, if_neg (nI_nle (by omega) (by omega))]
      have hs := search_m (z := wyZ z F G (rA z 16) 1 0 0) hV hS hT hB (f_X6_finds_b208 999999) (p := p) (d := d) (o := o) (s := s) (v := v) (u := u) (W := rA z 16) (len := 0) (by omega) hp hd hoo q5 hto (fun s' hs' h => by
        have := q7 s' v hs' h
        unfold ltb at this
        omega) FU 0 (by rcases q5.1 with ⟨h, -⟩ | ⟨h, -⟩ <;> unfold FU <;> omega) (Nat.zero_le _)
      have hs' : f_X6_finds_b216 (f_X6_finds_b208 999999) FU (swZ (wyZ z F G (rA z 16) 1 0 0) (rA z 16) 0) (nI p) (nI d) (nI o) (lN v.1) (nI v.2) 0 = _ := hs
      rw [hs']
      obtain ⟨W', h1, h2, h3⟩ := follow_m (z := wyZ z F G (rA z 16) 1 0 0) hV hS hT hB hF u.2 999999 1 (lds x p s) u.1 (upd (rA z 16) 0 (nI s)) (by omega) (by omega) hlt hto
      refine ⟨W', u.2, hv2, ?_, by rw [h3 0 (by omega)]; rfl, h2⟩
      have h1' : f_X6_finds_b208 999999 (swZ (wyZ z F G (rA z 16) 1 0 0) (upd (rA z 16) 0 (nI s)) (0 + 1)) (nI (lds x p s)) 0 0 (lN u.1) (nI u.2) = _ := h1
      rw [h1', Nat.add_comm 1 u.2]
      refine congrArg some (ZW_form (x := z) (x' := swZ (wyZ z F G (rA z 16) 1 0 0) W' (u.2 + 1)) ⟨fun i h1 h2 h3 => ?_, fun i => rfl, fun i h1 h2 => ?_, fun i h1 => ?_⟩)
      · unfold swZ wyZ stT
        simp only [rI_wI, rI_wA, rI_wB, if_neg h1, if_neg h2, if_neg h3]
      · unfold swZ wyZ stT
        simp only [rA_wI, rA_wA, rA_wB, if_neg h1, if_neg h2]
      · unfold swZ wyZ stT
        simp only [rB_wI, rB_wA, rB_wB, if_neg h1]
