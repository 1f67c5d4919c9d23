/-! ===== PURE: what ties the two sides ===== -/
def LiveX (x : PD) (B : Nat) (pl dn md wt sn : Int32) (tm bg un : Int64) (tp lv wa : Nat → Int32) : Prop :=
  ∃ T, tm = lN T ∧ T ≤ B ∧
  ((pl = -1 ∧ dn = 0) ∨ ∃ p d o, pl = nI p ∧ p < cnp x ∧ ckd x p ≤ 1 ∧ dn = nI d ∧ d < cbs x p ∧ o ≤ T ∧ bg = lN (T - o) ∧ o < cbt x p) ∧
  (md = -1 ∨ ∃ m, md = nI m ∧ m ≤ 7) ∧
  (∃ w, wt = nI w ∧ w ≤ 4 ∧ ∀ i, i < w → ∃ s, wa i = nI s ∧ s < cnp x) ∧
  (sn = -1 ∨ ∃ s U, sn = nI s ∧ s < cnp x ∧ un = lN U ∧ T < U ∧ U ≤ T + 153600) ∧
  (∀ p, p < 20 → 0 ≤ tp p) ∧ (∀ p, cnp x ≤ p → p < 20 → lv p = 0)
def LiveR (pl dn tu md wt sn : Int32) (tm bg un : Int64) (tp lv wa : Nat → Int32) (b : Nat → Int64) (zt zs : Int64) : Prop :=
  (b 0).toInt32 = pl ∧ (b 1).toInt32 = dn ∧ (b 2).toInt32 = tu ∧ (b 3).toInt32 = (if pl = -1 then 0 else (tm - bg).toInt32) ∧ (b 4).toInt32 = md ∧ (b 5).toInt32 = sn ∧ (b 6).toInt32 = wt ∧
  (∀ i, i < 4 → (b (7 + i)).toInt32 = wa i) ∧ (∀ p, p < 20 → (b (16 + p)).toInt32 = tp p) ∧ (∀ p, p < 20 → (b (36 + p)).toInt32 = lv p) ∧ zt = tm ∧ zs = un
def LvX (x : PD) (B : Nat) : Prop := LiveX x B (rI x 386) (rI x 387) (rI x 390) (rI x 394) (rI x 395) (rL x 385) (rL x 389) (rL x 396) (rA x 13) (rA x 14) (rA x 15)
def LvR (x z : PD) : Prop := LiveR (rI x 386) (rI x 387) (rI x 388) (rI x 390) (rI x 394) (rI x 395) (rL x 385) (rL x 389) (rL x 396) (rA x 13) (rA x 14) (rA x 15) (rB z 11) (rL z 15) (rL z 16)
/-- slot s: its class cell's first number k, its arrays' first number a -/
def SlR (x z : PD) (B k a s : Nat) : Prop := (rI x k = 0 ∧ rA z 15 s = 0) ∨ (rI x k = 1 ∧ rA z 15 s = 1 ∧
  LiveX x B (rI x (k + 2)) (rI x (k + 3)) (rI x (k + 6)) (rI x (k + 10)) (rI x (k + 11)) (rL x (k + 1)) (rL x (k + 5)) (rL x (k + 12)) (rA x a) (rA x (a + 1)) (rA x (a + 2)) ∧
  LiveR (rI x (k + 2)) (rI x (k + 3)) (rI x (k + 4)) (rI x (k + 6)) (rI x (k + 10)) (rI x (k + 11)) (rL x (k + 1)) (rL x (k + 5)) (rL x (k + 12)) (rA x a) (rA x (a + 1)) (rA x (a + 2)) (fun i => rB z 12 (56 * s + i)) (rB z 13 s) (rB z 14 s))
def LogR (x z : PD) (M : Nat) : Prop := ∃ N, rI z 27 = nI N ∧ N ≤ M ∧ rB z 17 = rB x 34 ∧ rA z 18 = rA x 35 ∧ rA z 19 = rA x 36 ∧ ((N < 300 ∧ rI x 1060 = 0 ∧ rI x 1061 = nI N) ∨ (300 ≤ N ∧ rI x 1060 = nI (N % 300) ∧ rI x 1061 = nI 300))
def WR (x z : PD) : Prop := (rI x 1285 = 0 ∧ rI x 1286 = 0 ∧ rI z 20 = 0 ∧ rI z 21 = 0 ∧ rI z 22 = 0) ∨
  ∃ m t p d s k n, rI x 390 = nI m ∧ m ≤ 7 ∧ rI x 1283 = nI m ∧ TabR (cnp x) (rB x 42) (rA x 43) t ∧ bdT 3000 t ∧ FinT x 24 (cpL x) m t ∧
    rI x 386 = nI p ∧ p < cnp x ∧ rI x 387 = nI d ∧ opn x p d s ∧ rA x 44 k = nI s ∧ Ch x t (rA x 44) n (k + 1) (lds x p s) ∧ k + 1 + n ≤ 20 ∧ rI x 1286 = nI k ∧ rI x 1285 = nI (k + 1 + n) ∧
    rI z 20 = 1 ∧ rI z 21 = nI (k + 1 + n) ∧ rI z 22 = nI k ∧ ∀ i, i < k + 1 + n → rA z 16 i = rA x 44 i
/-- all but the way -/
def RelB (B M : Nat) (x z : PD) : Prop := ScV x ∧ SEq x z ∧ LvX x B ∧ LvR x z ∧ LogR x z M ∧ TV x ∧ SlR x z B 512 17 0 ∧ SlR x z B 640 21 1 ∧ SlR x z B 768 25 2 ∧ SlR x z B 896 29 3
def Rel (c : Nat) (x z : PD) : Prop := RelB (20000 * c) (100000 * c) x z ∧ WR x z
theorem LiveX_mono {x : PD} {B B' : Nat} {pl dn md wt sn : Int32} {tm bg un : Int64} {tp lv wa : Nat → Int32} (hB : B ≤ B') (h : LiveX x B pl dn md wt sn tm bg un tp lv wa) : LiveX x B' pl dn md wt sn tm bg un tp lv wa := by
  obtain ⟨T, h1, h2, h3⟩ := h
  exact ⟨T, h1, by omega, h3⟩
theorem SlR_mono {x z : PD} {B B' k a s : Nat} (hB : B ≤ B') (h : SlR x z B k a s) : SlR x z B' k a s := by
  rcases h with h | ⟨h1, h2, h3, h4⟩
  · exact Or.inl h
  · exact Or.inr ⟨h1, h2, LiveX_mono hB h3, h4⟩
theorem LogR_mono {x z : PD} {M M' : Nat} (hM : M ≤ M') (h : LogR x z M) : LogR x z M' := by
  obtain ⟨N, h1, h2, h3⟩ := h
  exact ⟨N, h1, by omega, h3⟩
theorem RelB_mono {x z : PD} {B B' M M' : Nat} (hB : B ≤ B') (hM : M ≤ M') (h : RelB B M x z) : RelB B' M' x z := by
  obtain ⟨h1, h2, h3, h4, h5, h6, h7, h8, h9, h10⟩ := h
  exact ⟨h1, h2, LiveX_mono hB h3, h4, LogR_mono hM h5, h6, SlR_mono hB h7, SlR_mono hB h8, SlR_mono hB h9, SlR_mono hB h10⟩
theorem Rel_of {c : Nat} {x z : PD} (h : RelB (20000 * c) (100000 * c + 10) x z) (hw : WR x z) : Rel (c + 1) x z := ⟨RelB_mono (by omega) (by omega) h, hw⟩
theorem Bst_uniq {x : PD} {t : Tb} {p d o N : Nat} {r r' : Option (Nat × (Nat × Nat))} (h : Bst x t p d o N r) (h' : Bst x t p d o N r') : r = r' := by
  cases r with
  | none =>
    cases r' with
    | none => rfl
    | some w => obtain ⟨s, v⟩ := w; exact absurd h'.2.1 (h s v h'.1)
  | some w =>
    obtain ⟨s, v⟩ := w
    cases r' with
    | none => exact absurd h.2.1 (h' s v h.1)
    | some w' =>
      obtain ⟨s', v'⟩ := w'
      obtain ⟨a1, a2, a3, a4⟩ := h
      obtain ⟨b1, b2, b3, b4⟩ := h'
      have q1 := a3 s' v' b1 b2
      have q2 := b3 s v a1 a2
      have hss : s = s' := by
        rcases Nat.lt_trichotomy s s' with q | q | q
        · have := b4 s v q a2
          unfold ltb at this; unfold leb at q1; omega
        · exact q
        · have := a4 s' v' q b2
          unfold ltb at this; unfold leb at q2; omega
      subst hss
      rw [cand_fun a2 b2]
theorem LvX_pl {x : PD} {B : Nat} (h : LvX x B) : rI x 386 = -1 ∨ ∃ p d o, LV x p d o := by
  obtain ⟨T, h1, -, h3, -⟩ := h
  rcases h3 with ⟨h3, -⟩ | ⟨p, d, o, k1, k2, k3, k4, k5, k6, k7, k8⟩
  · exact Or.inl h3
  · refine Or.inr ⟨p, d, o, k1, k2, k3, k4, k5, ?_, k8⟩
    rw [h1, k7, lN_sub (by omega)]
    congr 1
    omega
theorem LvX_md {x : PD} {B : Nat} (h : LvX x B) : rI x 390 = -1 ∨ ∃ m, rI x 390 = nI m ∧ m ≤ 7 := by
  obtain ⟨T, -, -, -, h4, -⟩ := h
  exact h4
theorem LvR_over {x z : PD} {p d o : Nat} (hR : LvR x z) (hL : LV x p d o) (hp : p < 20) : gt z 3 = nI o := by
  obtain ⟨-, -, -, h3, -⟩ := hR
  have : gt z 3 = _ := h3
  rw [this, if_neg (by rw [hL.1]; exact nI_ne_m1 (by omega)), hL.2.2.2.2.2.1, lN_i]
theorem find_both {x z : PD} {B : Nat} (hV : ScV x) (hS : SEq x z) (hX : LvX x B) (hR : LvR x z) (hTV : TV x) :
    ∃ F G W a b F' G' W' a' b', f_X1_findWay x = some (wyX x F G W a b 0) ∧ f_X6_finds z = some (wyZ z F' G' W' a' b' 0) ∧ WR (wyX x F G W a b 0) (wyZ z F' G' W' a' b' 0) ∧ TV (wyX x F G W a b 0) := by
  have hnp := hV.np.2
  have h0 : gt z 0 = rI x 386 := hR.1
  have h1 : gt z 1 = rI x 387 := hR.2.1
  have h4 : gt z 4 = rI x 390 := hR.2.2.2.2.1
  rcases findWay_c hV hTV (LvX_pl hX) (LvX_md hX) with ⟨hn, hf⟩ | ⟨m, t, p, d, o, F, G, q1, q2, q3, q4, q5, q6, r, q7, q8⟩
  · refine ⟨_, _, _, _, _, _, _, _, _, _, hf, finds_none (by rw [h0, h4]; exact hn.symm), Or.inl ⟨rfl, rfl, rfl, rfl, rfl⟩, hTV⟩
  · obtain ⟨F', G', r', k1, k2⟩ := finds_m hV hS q2 q3 (by rw [h0]; exact q3.1) (by rw [h1]; exact q3.2.2.2.1) (LvR_over hR q3 (by have := q3.2.1; omega)) (by rw [h4]; exact q1) q5 q6
    have hrr := Bst_uniq k1 q7
    subst hrr
    have hTV' : ∀ W b c, TV (wyX x F G W (nI m) b c) := fun W b c => Or.inr ⟨m, t, rfl, q2, q4, q5, q6⟩
    cases r' with
    | none =>
      obtain ⟨W, q9⟩ := q8
      obtain ⟨W', k3⟩ := k2
      exact ⟨_, _, _, _, _, _, _, _, _, _, q9, k3, Or.inl ⟨rfl, rfl, rfl, rfl, rfl⟩, hTV' _ _ _⟩
    | some w =>
      obtain ⟨s, v⟩ := w
      obtain ⟨W, n, a1, a2, a3, a4, a5⟩ := q8
      obtain ⟨W', n', b1, b3, b4, b5⟩ := k2
      have hnn : n' = n := by omega
      subst hnn
      refine ⟨_, _, _, _, _, _, _, _, _, _, a3, b3, Or.inr ⟨m, t, p, d, s, 0, n', q1, q2, rfl, q4, q5, q6, q3.1, q3.2.1, q3.2.2.2.1, q7.2.1.1, a4, a5, by omega, rfl, ?_, rfl, ?_, rfl, ?_⟩, hTV' _ _ _⟩
      · rw [Nat.zero_add, Nat.add_comm 1 n']; rfl
      · rw [Nat.zero_add, Nat.add_comm 1 n']; rfl
      · intro i hi
        show W' i = W i
        cases i with
        | zero => rw [a4, b4]
        | succ i => exact Ch_uniq _ _ _ b5 a5 (i + 1) (by omega) (by omega)
theorem find_rel {x z : PD} {B M : Nat} (h : RelB B M x z) :
    ∃ F G W a b F' G' W' a' b', f_X1_findWay x = some (wyX x F G W a b 0) ∧ f_X6_finds z = some (wyZ z F' G' W' a' b' 0) ∧ RelB B M (wyX x F G W a b 0) (wyZ z F' G' W' a' b' 0) ∧ WR (wyX x F G W a b 0) (wyZ z F' G' W' a' b' 0) := by
  obtain ⟨h1, h2, h3, h4, h5, h6, h7, h8, h9, h10⟩ := h
  obtain ⟨F, G, W, a, b, F', G', W', a', b', k1, k2, k3, k4⟩ := find_both h1 h2 h3 h4 h6
  exact ⟨F, G, W, a, b, F', G', W', a', b', k1, k2, ⟨h1, h2, h3, h4, h5, k4, h7, h8, h9, h10⟩, k3⟩
/-- a line of the log, on both sides -/
def lgX (x : PD) (P : Nat → Int64) (A1 A2 : Nat → Int32) (e c : Int32) : PD := wI (wI (wA (wA (wB x 34 P) 35 A1) 36 A2) 1060 e) 1061 c
def lgZ (z : PD) (P : Nat → Int64) (A1 A2 : Nat → Int32) (n : Int32) : PD := wI (wA (wA (wB z 17 P) 18 A1) 19 A2) 27 n
theorem add_both {x z : PD} {M : Nat} (a b : Int32) (hM : M < 2 ^ 30) (hT : rL z 15 = rL x 385) (h : LogR x z M) : ∃ P A1 A2 e c n, f_X0_add x a b = some (lgX x P A1 A2 e c) ∧ f_X6_logs z a b = some (lgZ z P A1 A2 n) ∧ LogR (lgX x P A1 A2 e c) (lgZ z P A1 A2 n) (M + 1) := by
  obtain ⟨N, e27, hN, eP, e1, e2, hor⟩ := h
  have e300 : (300 : Int32) = nI 300 := by decide
  have hidx : (rI x 1060 + rI x 1061) - (rI x 1060 + rI x 1061) / 300 * 300 = nI (N % 300) := by
    rcases hor with ⟨h1, h2, h3⟩ | ⟨h1, h2, h3⟩
    · have : (0 : Int32) = nI 0 := rfl
      rw [h2, h3, this, nI_add, Nat.zero_add, e300, pk_rem (by omega) (by omega) (by omega)]
    · rw [h2, h3, nI_add, e300, pk_rem (by omega) (by omega) (by omega)]
      congr 1
      omega
  have hidz : rI z 27 - rI z 27 / 300 * 300 = nI (N % 300) := by
    rw [e27, e300, pk_rem (by omega) (by omega) (by omega)]
  have hr : N % 300 < 300 := Nat.mod_lt _ (by decide)
  have hz : f_X6_logs z a b = some (lgZ z (vp_updL (rB x 34) (N % 300) (rL x 385)) (upd (rA x 35) (N % 300) a) (upd (rA x 36) (N % 300) b) (nI (N + 1))) := by
    unfold f_X6_logs
    rw [hidz, inR_nI hr (by decide), gd_t, nI_clamp (show N % 300 < 2 ^ 31 by omega), hT, eP]
    simp only [letv_e, gd_t]
    have r18 : rA (wB z 17 (vp_updL (rB x 34) (N % 300) (rL x 385))) 18 = rA x 35 := e1
    rw [r18]
    have r19 : rA (wA (wB z 17 (vp_updL (rB x 34) (N % 300) (rL x 385))) 18 (upd (rA x 35) (N % 300) a)) 19 = rA x 36 := e2
    rw [r19]
    have r27 : rI (wA (wA (wB z 17 (vp_updL (rB x 34) (N % 300) (rL x 385))) 18 (upd (rA x 35) (N % 300) a)) 19 (upd (rA x 36) (N % 300) b)) 27 = nI N := e27
    rw [r27, nI_1]
    rfl
  rcases hor with ⟨h1, h2, h3⟩ | ⟨h1, h2, h3⟩
  · refine ⟨_, _, _, 0, nI (N + 1), _, ?_, hz, N + 1, rfl, by omega, rfl, rfl, rfl, ?_⟩
    · unfold f_X0_add
      rw [hidx, inR_nI hr (by decide), gd_t, nI_clamp (show N % 300 < 2 ^ 31 by omega)]
      simp only [letv_e, gd_t]
      have r35 : rA (wB x 34 (vp_updL (rB x 34) (N % 300) (rL x 385))) 35 = rA x 35 := rfl
      rw [r35]
      have r36 : rA (wA (wB x 34 (vp_updL (rB x 34) (N % 300) (rL x 385))) 35 (upd (rA x 35) (N % 300) a)) 36 = rA x 36 := rfl
      rw [r36]
      have r61 : rI (wA (wA (wB x 34 (vp_updL (rB x 34) (N % 300) (rL x 385))) 35 (upd (rA x 35) (N % 300) a)) 36 (upd (rA x 36) (N % 300) b)) 1061 = nI N := h3
      rw [r61, e300, if_neg (by rw [nI_leI (by omega) (by omega)]; omega), nI_1]
      congr 1
      unfold lgX
      apply PD_ext
      · intro i
        simp only [rI_wI, rI_wA, rI_wB]
        split
        · rfl
        · split
          · next q => rw [q, h2]
          · rfl
      · intro i; rfl
      · intro i; rfl
      · intro i; rfl
    · by_cases hc : N + 1 < 300
      · exact Or.inl ⟨hc, rfl, rfl⟩
      · have : N = 299 := by omega
        subst this
        exact Or.inr ⟨by omega, rfl, rfl⟩
  · refine ⟨_, _, _, nI ((N + 1) % 300), nI 300, _, ?_, hz, N + 1, rfl, by omega, rfl, rfl, rfl, Or.inr ⟨by omega, rfl, rfl⟩⟩
    unfold f_X0_add
    rw [hidx, inR_nI hr (by decide), gd_t, nI_clamp (show N % 300 < 2 ^ 31 by omega)]
    simp only [letv_e, gd_t]
    have r35 : rA (wB x 34 (vp_updL (rB x 34) (N % 300) (rL x 385))) 35 = rA x 35 := rfl
    rw [r35]
    have r36 : rA (wA (wB x 34 (vp_updL (rB x 34) (N % 300) (rL x 385))) 35 (upd (rA x 35) (N % 300) a)) 36 = rA x 36 := rfl
    rw [r36]
    have r61 : rI (wA (wA (wB x 34 (vp_updL (rB x 34) (N % 300) (rL x 385))) 35 (upd (rA x 35) (N % 300) a)) 36 (upd (rA x 36) (N % 300) b)) 1061 = nI 300 := h3
    have r60 : rI (wA (wA (wB x 34 (vp_updL (rB x 34) (N % 300) (rL x 385))) 35 (upd (rA x 35) (N % 300) a)) 36 (upd (rA x 36) (N % 300) b)) 1060 = nI (N % 300) := h2
    rw [r61, r60, e300, if_pos (by rw [nI_leI (by omega) (by omega)]; omega), nI_1, pk_rem (by omega) (by omega) (by omega)]
    have em : (N % 300 + 1) % 300 = (N + 1) % 300 := by omega
    rw [em]
    congr 1
    unfold lgX
    apply PD_ext
    · intro i
      simp only [rI_wI, rI_wA, rI_wB]
      by_cases q : i = 1061
      · subst q
        simp only [if_true, if_neg (show ¬ (1061 : Nat) = 1060 by decide)]
        exact h3
      · simp only [if_neg q]
    · intro i; rfl
    · intro i; rfl
    · intro i; rfl
