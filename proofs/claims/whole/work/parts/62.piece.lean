/-! ===== PURE: piece, joint, price ===== -/
abbrev okC (v1 v2 v3 v4 v5 t0 : Int32) : Prop := ¬ v1 < 0 ∧ ¬ 3 < v1 ∧ ¬ v2 < 1 ∧ ¬ 64 < v2 ∧ ¬ v3 < 24 ∧ ¬ 2400 < v3 ∧ ¬ v4 < 0 ∧ ¬ t0 < v4 ∧ ¬ v5 < 1 ∧ ¬ 9 < v5
theorem addP16 (x : PD) (v1 v2 v3 v4 v5 t0 : Int32) : f_X2_addPiece_b16 x v1 v2 v3 v4 v5 t0 = f_X2_addPiece_b81 x v1 v2 v3 v4 v5 (if okC v1 v2 v3 v4 v5 t0 then 1 else 0) := by
  unfold f_X2_addPiece_b16 okC
  by_cases h0 : v1 < 0
  · rw [if_pos h0, if_neg (fun h => h.1 h0)]
  rw [if_neg h0]
  by_cases h1 : 3 < v1
  · rw [if_pos h1, if_neg (fun h => h.2.1 h1)]
  rw [if_neg h1]
  by_cases h2 : v2 < 1
  · rw [if_pos h2, if_neg (fun h => h.2.2.1 h2)]
  rw [if_neg h2]
  by_cases h3 : 64 < v2
  · rw [if_pos h3, if_neg (fun h => h.2.2.2.1 h3)]
  rw [if_neg h3]
  by_cases h4 : v3 < 24
  · rw [if_pos h4, if_neg (fun h => h.2.2.2.2.1 h4)]
  rw [if_neg h4]
  by_cases h5 : 2400 < v3
  · rw [if_pos h5, if_neg (fun h => h.2.2.2.2.2.1 h5)]
  rw [if_neg h5]
  by_cases h6 : v4 < 0
  · rw [if_pos h6, if_neg (fun h => h.2.2.2.2.2.2.1 h6)]
  rw [if_neg h6]
  by_cases h7 : t0 < v4
  · rw [if_pos h7, if_neg (fun h => h.2.2.2.2.2.2.2.1 h7)]
  rw [if_neg h7]
  by_cases h8 : v5 < 1
  · rw [if_pos h8, if_neg (fun h => h.2.2.2.2.2.2.2.2.1 h8)]
  rw [if_neg h8]
  by_cases h9 : 9 < v5
  · rw [if_pos h9, if_neg (fun h => h.2.2.2.2.2.2.2.2.2 h9)]
  rw [if_neg h9]
  rw [if_pos ⟨h0, h1, h2, h3, h4, h5, h6, h7, h8, h9⟩]
abbrev okM (z : PD) (v1 v2 v3 v4 v5 : Int32) : Prop := ¬ rI z 1 = 20 ∧ ¬ v1 < 0 ∧ ¬ 3 < v1 ∧ ¬ v2 < 1 ∧ ¬ 64 < v2 ∧ ¬ v3 < 24 ∧ ¬ 2400 < v3 ∧ ¬ v4 < 0 ∧ ¬ 255 < v4 ∧ ¬ v5 < 1 ∧ v5 ≤ 9 ∧ (v1 < 2 ∨ v4 = 0)
theorem pieceM (z : PD) (v1 v2 v3 v4 v5 : Int32) : f_X6_piece z v1 v2 v3 v4 v5 = if okM (wI z 0 0) v1 v2 v3 v4 v5 then f_X6_piece_b87 (wI z 0 0) v1 v2 v3 v4 v5 else some (-1, wI z 0 0) := by
  unfold f_X6_piece okM
  rw [letv_e]
  by_cases h0 : rI (wI z 0 0) 1 = 20
  · rw [if_pos h0, if_neg (fun h => h.1 h0)]
  rw [if_neg h0]
  by_cases h1 : v1 < 0
  · rw [if_pos h1, if_neg (fun h => h.2.1 h1)]
  rw [if_neg h1]
  by_cases h2 : 3 < v1
  · rw [if_pos h2, if_neg (fun h => h.2.2.1 h2)]
  rw [if_neg h2]
  by_cases h3 : v2 < 1
  · rw [if_pos h3, if_neg (fun h => h.2.2.2.1 h3)]
  rw [if_neg h3]
  by_cases h4 : 64 < v2
  · rw [if_pos h4, if_neg (fun h => h.2.2.2.2.1 h4)]
  rw [if_neg h4]
  by_cases h5 : v3 < 24
  · rw [if_pos h5, if_neg (fun h => h.2.2.2.2.2.1 h5)]
  rw [if_neg h5]
  by_cases h6 : 2400 < v3
  · rw [if_pos h6, if_neg (fun h => h.2.2.2.2.2.2.1 h6)]
  rw [if_neg h6]
  by_cases h7 : v4 < 0
  · rw [if_pos h7, if_neg (fun h => h.2.2.2.2.2.2.2.1 h7)]
  rw [if_neg h7]
  by_cases h8 : 255 < v4
  · rw [if_pos h8, if_neg (fun h => h.2.2.2.2.2.2.2.2.1 h8)]
  rw [if_neg h8]
  by_cases h9 : v5 < 1
  · rw [if_pos h9, if_neg (fun h => h.2.2.2.2.2.2.2.2.2.1 h9)]
  rw [if_neg h9]
  by_cases h10 : v5 ≤ 9
  · rw [if_pos h10]
    by_cases ha : v1 < 2
    · rw [if_pos ha, if_pos ⟨h0, h1, h2, h3, h4, h5, h6, h7, h8, h9, h10, Or.inl ha⟩]
    · rw [if_neg ha]
      by_cases hb : v4 = 0
      · rw [if_pos hb, if_pos ⟨h0, h1, h2, h3, h4, h5, h6, h7, h8, h9, h10, Or.inr hb⟩]
      · rw [if_neg hb, if_neg (fun h => by rcases h.2.2.2.2.2.2.2.2.2.2.2 with q | q; exact ha q; exact hb q)]
  · rw [if_neg h10, if_neg (fun h => h10 h.2.2.2.2.2.2.2.2.2.2.1)]

theorem ltT (a b : Int32) : (a < b) = (a.toInt < b.toInt) := propext Int32.lt_iff_toInt_lt
theorem leT (a b : Int32) : (a ≤ b) = (a.toInt ≤ b.toInt) := propext Int32.le_iff_toInt_le
theorem eqT (a b : Int32) : (a = b) = (a.toInt = b.toInt) := propext Int32.toInt_inj.symm
/-- numbers that both sides allow -/
theorem okN {x z : PD} (hV : ScV x) (hS : SEq x z) (v1 v2 v3 v4 v5 : Int32) :
    (okM z v1 v2 v3 v4 v5 ↔ (okC v1 v2 v3 v4 v5 (if v1 = 0 then 255 else if v1 = 1 then 255 else 0) ∧ rI x 37 < 20)) ∧
    (okM z v1 v2 v3 v4 v5 → ∃ k b t m n : Nat, v1 = nI k ∧ k ≤ 3 ∧ v2 = nI b ∧ 1 ≤ b ∧ b ≤ 64 ∧ v3 = nI t ∧ 24 ≤ t ∧ t ≤ 2400 ∧ v4 = nI m ∧ m ≤ 255 ∧ (2 ≤ k → m = 0) ∧ v5 = nI n ∧ 1 ≤ n ∧ n ≤ 9 ∧ cnp x < 20) := by
  have hnp := hV.np
  have e1 : rI z 1 = nI (cnp x) := hS.np hV
  have l0 : (0 : Int32).toInt = 0 := by decide
  have l1 : (1 : Int32).toInt = 1 := by decide
  have l2 : (2 : Int32).toInt = 2 := by decide
  have l3 : (3 : Int32).toInt = 3 := by decide
  have l9 : (9 : Int32).toInt = 9 := by decide
  have l20 : (20 : Int32).toInt = 20 := by decide
  have l24 : (24 : Int32).toInt = 24 := by decide
  have l64 : (64 : Int32).toInt = 64 := by decide
  have l255 : (255 : Int32).toInt = 255 := by decide
  have l2400 : (2400 : Int32).toInt = 2400 := by decide
  have ln : (nI (cnp x)).toInt = (cnp x : Int) := nI_toInt (by omega)
  constructor
  · unfold okM okC
    rw [e1, hnp.1]
    by_cases a0 : v1 = 0
    · rw [if_pos a0]
      simp only [ltT, leT, eqT, l0, l1, l2, l3, l9, l20, l24, l64, l255, l2400, ln] at *
      omega
    · rw [if_neg a0]
      by_cases a1 : v1 = 1
      · rw [if_pos a1]
        simp only [ltT, leT, eqT, l0, l1, l2, l3, l9, l20, l24, l64, l255, l2400, ln] at *
        omega
      · rw [if_neg a1]
        simp only [ltT, leT, eqT, l0, l1, l2, l3, l9, l20, l24, l64, l255, l2400, ln] at *
        omega
  · intro h
    unfold okM at h
    rw [e1] at h
    obtain ⟨h0, h1, h2, h3, h4, h5, h6, h7, h8, h9, h10, h11⟩ := h
    have f2 : ¬ v2 < 0 := by simp only [ltT, l0, l1] at *; omega
    have f3 : ¬ v3 < 0 := by simp only [ltT, l0, l24] at *; omega
    have f5 : ¬ v5 < 0 := by simp only [ltT, l0, l1] at *; omega
    obtain ⟨k, hk, rfl⟩ := nI_of h1
    obtain ⟨b, hb, rfl⟩ := nI_of f2
    obtain ⟨t, ht, rfl⟩ := nI_of f3
    obtain ⟨m, hm, rfl⟩ := nI_of h7
    obtain ⟨n, hn, rfl⟩ := nI_of f5
    simp only [ltT, leT, eqT, l0, l1, l2, l3, l9, l20, l24, l64, l255, l2400, ln, nI_toInt hk, nI_toInt hb, nI_toInt ht, nI_toInt hm, nI_toInt hn] at h0 h1 h2 h3 h4 h5 h6 h7 h8 h9 h10 h11
    refine ⟨k, b, t, m, n, rfl, by omega, rfl, by omega, by omega, rfl, by omega, by omega, rfl, by omega, by omega, rfl, by omega, by omega, by omega⟩
def Ext (x y : PD) : Prop := cnp x ≤ cnp y ∧ ∀ p, p < cnp x → ckd y p = ckd x p ∧ cbs y p = cbs x p ∧ cbt y p = cbt x p
theorem LiveX_ext {x y : PD} {B : Nat} {pl dn md wt sn : Int32} {tm bg un : Int64} {tp lv wa : Nat → Int32} (hE : Ext x y) (h : LiveX x B pl dn md wt sn tm bg un tp lv wa) : LiveX y B pl dn md wt sn tm bg un tp lv wa := by
  obtain ⟨e1, e2⟩ := hE
  obtain ⟨T, h1, h2, h3, h4, ⟨w, h5, h6, h7⟩, h8, h9, h10⟩ := h
  refine ⟨T, h1, h2, ?_, h4, ⟨w, h5, h6, fun i hi => ?_⟩, ?_, h9, fun p hp => h10 p (by omega)⟩
  · rcases h3 with h3 | ⟨p, d, o, k1, k2, k3, k4, k5, k6, k7, k8⟩
    · exact Or.inl h3
    · obtain ⟨f1, f2, f3⟩ := e2 p k2
      exact Or.inr ⟨p, d, o, k1, by omega, by rw [f1]; exact k3, k4, by rw [f2]; exact k5, k6, k7, by rw [f3]; exact k8⟩
  · obtain ⟨s, k1, k2⟩ := h7 i hi
    exact ⟨s, k1, by omega⟩
  · rcases h8 with h8 | ⟨s, U, k1, k2, k3⟩
    · exact Or.inl h8
    · exact Or.inr ⟨s, U, k1, by omega, k3⟩
/-- the score with one piece more -/
def npX (x : PD) (k b t m n : Int32) : PD := wI (wA (wA (wA (wA (wA x 2 (upd (rA x 2) (cnp x) k)) 3 (upd (rA x 3) (cnp x) b)) 4 (upd (rA x 4) (cnp x) t)) 5 (upd (rA x 5) (cnp x) m)) 6 (upd (rA x 6) (cnp x) n)) 37 (nI (cnp x + 1))
def npZ (x z : PD) (k b t m n : Int32) : PD := wI (wA (wA (wA (wA (wA z 1 (upd (rA z 1) (cnp x) k)) 2 (upd (rA z 2) (cnp x) b)) 3 (upd (rA z 3) (cnp x) t)) 4 (upd (rA z 4) (cnp x) m)) 5 (upd (rA z 5) (cnp x) n)) 1 (nI (cnp x + 1))
theorem npX_np {x : PD} (h : cnp x < 20) (k b t m n : Int32) : cnp (npX x k b t m n) = cnp x + 1 := qn_nI (by omega)
theorem upd_ne {f : Nat → Int32} {k j : Nat} {v : Int32} (h : ¬ j = k) : upd f k v j = f j := by simp only [upd, if_neg h]
theorem upd_eq {f : Nat → Int32} {k : Nat} {v : Int32} : upd f k v k = v := by simp [upd]
theorem npX_ext {x : PD} (h : cnp x < 20) (k b t m n : Int32) : Ext x (npX x k b t m n) := by
  refine ⟨by rw [npX_np h]; omega, fun p hp => ?_⟩
  have hne : ¬ p = cnp x := by omega
  refine ⟨?_, ?_, ?_⟩
  · show qn (upd (rA x 2) (cnp x) k p) = _; rw [upd_ne hne]; rfl
  · show qn (upd (rA x 3) (cnp x) b p) = _; rw [upd_ne hne]; rfl
  · show qn (upd (rA x 4) (cnp x) t p) = _; rw [upd_ne hne]; rfl
theorem npX_V {x : PD} (hV : ScV x) (h : cnp x < 20) {k b t m n : Nat} (h1 : k ≤ 3) (h2 : 1 ≤ b) (h3 : b ≤ 64) (h4 : 24 ≤ t) (h5 : t ≤ 2400) (h6 : m ≤ 255) (h7 : 2 ≤ k → m = 0) (h8 : 1 ≤ n) (h9 : n ≤ 9) : ScV (npX x (nI k) (nI b) (nI t) (nI m) (nI n)) := by
  have hE := npX_ext h (nI k) (nI b) (nI t) (nI m) (nI n)
  obtain ⟨v1, v2, v3, v4, v5, v6⟩ := hV
  refine ⟨isN_of (n := cnp x + 1) rfl (by omega) (by omega), v2, fun p hp => ?_, fun j hj => ?_, v5, v6⟩
  · rw [npX_np h] at hp
    by_cases hpe : p = cnp x
    · subst hpe
      have a2 : rA (npX x (nI k) (nI b) (nI t) (nI m) (nI n)) 2 (cnp x) = nI k := upd_eq
      have a3 : rA (npX x (nI k) (nI b) (nI t) (nI m) (nI n)) 3 (cnp x) = nI b := upd_eq
      have a4 : rA (npX x (nI k) (nI b) (nI t) (nI m) (nI n)) 4 (cnp x) = nI t := upd_eq
      have a5 : rA (npX x (nI k) (nI b) (nI t) (nI m) (nI n)) 5 (cnp x) = nI m := upd_eq
      have a6 : rA (npX x (nI k) (nI b) (nI t) (nI m) (nI n)) 6 (cnp x) = nI n := upd_eq
      unfold ScP ckd cbs cbt cmd cms
      rw [a2, a3, a4, a5, a6, qn_nI (by omega), qn_nI (by omega), qn_nI (by omega), qn_nI (by omega), qn_nI (by omega)]
      exact ⟨isN_of rfl h1 (by omega), isN_of rfl h3 (by omega), h2, isN_of rfl h5 (by omega), h4, isN_of rfl h6 (by omega), h7, isN_of rfl h9 (by omega), h8⟩
    · have a2 : rA (npX x (nI k) (nI b) (nI t) (nI m) (nI n)) 2 p = rA x 2 p := upd_ne hpe
      have a3 : rA (npX x (nI k) (nI b) (nI t) (nI m) (nI n)) 3 p = rA x 3 p := upd_ne hpe
      have a4 : rA (npX x (nI k) (nI b) (nI t) (nI m) (nI n)) 4 p = rA x 4 p := upd_ne hpe
      have a5 : rA (npX x (nI k) (nI b) (nI t) (nI m) (nI n)) 5 p = rA x 5 p := upd_ne hpe
      have a6 : rA (npX x (nI k) (nI b) (nI t) (nI m) (nI n)) 6 p = rA x 6 p := upd_ne hpe
      have := v3 p (by omega)
      unfold ScP ckd cbs cbt cmd cms at this ⊢
      rw [a2, a3, a4, a5, a6]
      exact this
  · have hj' : j < cnj x := hj
    have := v4 j hj'
    obtain ⟨j1, j2, j3, j4, j5, j6, j7, j8, j9, j10⟩ := this
    have f1 := hE.2 _ j2
    have f2 := hE.2 _ j8
    have en := npX_np h (nI k) (nI b) (nI t) (nI m) (nI n)
    refine ⟨j1, ?_, ?_, j4, j5, ?_, j7, ?_, ?_, j10⟩
    · rw [en]; show cfr x j < _; omega
    · show ckd _ (cfr x j) ≤ 1; rw [f1.1]; exact j3
    · show cbh x j ≤ cbs _ (cfr x j); rw [f1.2.1]; exact j6
    · rw [en]; show ctt x j < _; omega
    · show ckd _ (ctt x j) ≤ 1; rw [f2.1]; exact j9
theorem SlR_ext {x y z z' : PD} {B k a s : Nat} (hE : Ext x y) (h : SlR x z B k a s) (e1 : ∀ i, k ≤ i → i < k + 16 → rI y i = rI x i) (e2 : ∀ i, rL y i = rL x i) (e3 : ∀ i, a ≤ i → i < a + 3 → rA y i = rA x i) (e4 : rA z' 15 = rA z 15) (e5 : ∀ i, 12 ≤ i → i ≤ 14 → rB z' i = rB z i) : SlR y z' B k a s := by
  unfold SlR at *
  rw [e1 k (by omega) (by omega), e1 (k + 2) (by omega) (by omega), e1 (k + 3) (by omega) (by omega), e1 (k + 4) (by omega) (by omega), e1 (k + 6) (by omega) (by omega), e1 (k + 10) (by omega) (by omega), e1 (k + 11) (by omega) (by omega), e2, e2, e2, e3 a (by omega) (by omega), e3 (a + 1) (by omega) (by omega), e3 (a + 2) (by omega) (by omega), e4, e5 12 (by omega) (by omega), e5 13 (by omega) (by omega), e5 14 (by omega) (by omega)]
  rcases h with h | ⟨h1, h2, h3, h4⟩
  · exact Or.inl h
  · exact Or.inr ⟨h1, h2, LiveX_ext hE h3, h4⟩
theorem np_rel {B M : Nat} {x z : PD} (hB : RelB B M x z) (h : cnp x < 20) {k b t m n : Nat} (h1 : k ≤ 3) (h2 : 1 ≤ b) (h3 : b ≤ 64) (h4 : 24 ≤ t) (h5 : t ≤ 2400) (h6 : m ≤ 255) (h7 : 2 ≤ k → m = 0) (h8 : 1 ≤ n) (h9 : n ≤ 9) : RelB B M (wI (npX x (nI k) (nI b) (nI t) (nI m) (nI n)) 1283 (-1)) (npZ x z (nI k) (nI b) (nI t) (nI m) (nI n)) := by
  have hE := npX_ext h (nI k) (nI b) (nI t) (nI m) (nI n)
  have hE' : Ext x (wI (npX x (nI k) (nI b) (nI t) (nI m) (nI n)) 1283 (-1)) := hE
  obtain ⟨b1, b2, b3, b4, b5, b6, b7, b8, b9, b10⟩ := hB
  have hV := npX_V b1 h h1 h2 h3 h4 h5 h6 h7 h8 h9
  obtain ⟨s1, s2, s3, s4, s5, s6, s7, s8⟩ := b2
  refine ⟨hV, ⟨rfl, s2, ?_, ?_, ?_, ?_, ?_, s8⟩, ?_, b4, b5, Or.inl rfl, ?_, ?_, ?_, ?_⟩
  · show upd (rA z 1) (cnp x) (nI k) = upd (rA x 2) (cnp x) (nI k); rw [s3]
  · show upd (rA z 2) (cnp x) (nI b) = upd (rA x 3) (cnp x) (nI b); rw [s4]
  · show upd (rA z 3) (cnp x) (nI t) = upd (rA x 4) (cnp x) (nI t); rw [s5]
  · show upd (rA z 4) (cnp x) (nI m) = upd (rA x 5) (cnp x) (nI m); rw [s6]
  · show upd (rA z 5) (cnp x) (nI n) = upd (rA x 6) (cnp x) (nI n); rw [s7]
  · exact LiveX_ext hE' b3
  · rcases b7 with q | ⟨q1, q2, q3, q4⟩
    · exact Or.inl q
    · exact Or.inr ⟨q1, q2, LiveX_ext hE' q3, q4⟩
  · rcases b8 with q | ⟨q1, q2, q3, q4⟩
    · exact Or.inl q
    · exact Or.inr ⟨q1, q2, LiveX_ext hE' q3, q4⟩
  · rcases b9 with q | ⟨q1, q2, q3, q4⟩
    · exact Or.inl q
    · exact Or.inr ⟨q1, q2, LiveX_ext hE' q3, q4⟩
  · rcases b10 with q | ⟨q1, q2, q3, q4⟩
    · exact Or.inl q
    · exact Or.inr ⟨q1, q2, LiveX_ext hE' q3, q4⟩
theorem op_piece : Op_piece Rel := by
  intro c x z v1 v2 v3 v4 v5 hc hRel
  obtain ⟨hB, hW⟩ := hRel
  have hV := hB.1
  have hS := hB.2.1
  have hnp := hV.np
  obtain ⟨o1, o2⟩ := okN (z := wI z 0 0) hV hS v1 v2 v3 v4 v5
  rw [pieceM]
  have hcl : f_X5_piece x v1 v2 v3 v4 v5 = bn2 (f_X2_addPiece_b81 x v1 v2 v3 v4 v5 (if okC v1 v2 v3 v4 v5 (if v1 = 0 then 255 else if v1 = 1 then 255 else 0) then 1 else 0)) fun r1 x2 => if r1 = (-1) then (some (r1, x2)) else bn1 (f_X1_scoreChanged x2) fun x3 => some (r1, x3) := by
    unfold f_X5_piece f_X2_addPiece
    simp only [addP16]
    congr 1
    split
    · rfl
    · split <;> rfl
  rw [hcl]
  by_cases hok : okM (wI z 0 0) v1 v2 v3 v4 v5
  · rw [if_pos hok, if_pos (o1.mp hok).1]
    have h20 := (o1.mp hok).2
    obtain ⟨k, b, t, m, n, rfl, h1, rfl, h2, h3, rfl, h4, h5, rfl, h6, h7, rfl, h8, h9, hlt⟩ := o2 hok
    have e37 : rI x 37 = nI (cnp x) := hnp.1
    have ex : f_X2_addPiece_b81 x (nI k) (nI b) (nI t) (nI m) (nI n) 1 = some (nI (cnp x), npX x (nI k) (nI b) (nI t) (nI m) (nI n)) := by
      unfold f_X2_addPiece_b81
      have i20 : inR (nI (cnp x)) 20 = true := inR_nI hlt (by decide)
      have cl : Int32.toNatClampNeg (nI (cnp x)) = cnp x := nI_clamp (by omega)
      rw [if_neg (by decide), if_pos h20]
      simp only [letv_e, rI_wA, rA_wA, e37, i20, gd_t, cl, nI_1]
      simp only [if_neg (show ¬ (3 : Nat) = 2 by decide), if_neg (show ¬ (4 : Nat) = 3 by decide), if_neg (show ¬ (4 : Nat) = 2 by decide), if_neg (show ¬ (5 : Nat) = 4 by decide), if_neg (show ¬ (5 : Nat) = 3 by decide), if_neg (show ¬ (5 : Nat) = 2 by decide), if_neg (show ¬ (6 : Nat) = 5 by decide), if_neg (show ¬ (6 : Nat) = 4 by decide), if_neg (show ¬ (6 : Nat) = 3 by decide), if_neg (show ¬ (6 : Nat) = 2 by decide)]
      have er : ∀ y : PD, rI (wI y 37 (nI (cnp x + 1))) 37 - 1 = nI (cnp x) := fun y => nI_pred _
      rw [er]
      rfl
    have ez : f_X6_piece_b87 (wI z 0 0) (nI k) (nI b) (nI t) (nI m) (nI n) = bn1 (f_X6_finds (npZ x (wI z 0 0) (nI k) (nI b) (nI t) (nI m) (nI n))) fun x8 => some ((rI x8 1) - 1, x8) := by
      unfold f_X6_piece_b87
      have e1 : rI (wI z 0 0) 1 = nI (cnp x) := SEq.np (z := wI z 0 0) hS hV
      have i20 : inR (nI (cnp x)) 20 = true := inR_nI hlt (by decide)
      have cl : Int32.toNatClampNeg (nI (cnp x)) = cnp x := nI_clamp (by omega)
      simp only [letv_e, rI_wA, rA_wA, e1, i20, gd_t, cl, nI_1]
      simp only [if_neg (show ¬ (3 : Nat) = 2 by decide), if_neg (show ¬ (4 : Nat) = 3 by decide), if_neg (show ¬ (4 : Nat) = 2 by decide), if_neg (show ¬ (5 : Nat) = 4 by decide), if_neg (show ¬ (5 : Nat) = 3 by decide), if_neg (show ¬ (5 : Nat) = 2 by decide), if_neg (show ¬ (2 : Nat) = 1 by decide), if_neg (show ¬ (3 : Nat) = 1 by decide), if_neg (show ¬ (4 : Nat) = 1 by decide), if_neg (show ¬ (5 : Nat) = 1 by decide)]
      rfl
    rw [ex, bn2_s, if_neg (nI_ne_m1 (by omega)), ez]
    have hB' := np_rel (z := wI z 0 0) hB hlt h1 h2 h3 h4 h5 h6 h7 h8 h9
    obtain ⟨F, G, W, a, b', F', G', W', a', b'', w1, w2, w3, w4⟩ := find_rel hB'
    unfold f_X1_scoreChanged
    rw [letv_e, w1, bn1_s, bn1_s, w2, bn1_s]
    have er : rI (wyZ (npZ x (wI z 0 0) (nI k) (nI b) (nI t) (nI m) (nI n)) F' G' W' a' b'' 0) 1 - 1 = nI (cnp x) := nI_pred _
    rw [er]
    exact ⟨_, _, _, rfl, rfl, Rel_of (RelB_mono (Nat.le_refl _) (by omega) w3) w4⟩
  · rw [if_neg hok]
    have hcl2 : f_X2_addPiece_b81 x v1 v2 v3 v4 v5 (if okC v1 v2 v3 v4 v5 (if v1 = 0 then 255 else if v1 = 1 then 255 else 0) then 1 else 0) = some (-1, x) := by
      unfold f_X2_addPiece_b81
      by_cases hC : okC v1 v2 v3 v4 v5 (if v1 = 0 then 255 else if v1 = 1 then 255 else 0)
      · rw [if_pos hC, if_neg (by decide), if_neg (fun q => hok (o1.mpr ⟨hC, q⟩))]
      · rw [if_neg hC, if_pos rfl]
    rw [hcl2, bn2_s, if_pos rfl]
    exact ⟨_, _, _, rfl, rfl, Rel_of (RelB_mono (B := 20000 * c) (M := 100000 * c) (z := wI z 0 0) (Nat.le_refl _) (by omega) hB) hW⟩
