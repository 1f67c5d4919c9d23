/-! ===== PURE: numbers, and the score as both sides hold it ===== -/
theorem gd_t {α : Type} {k : Option α} : gd true k = k := rfl
theorem bn1_s {α β : Type} {a : α} {k : α → Option β} : bn1 (some a) k = k a := rfl
theorem bn2_s {α β γ : Type} {a : α} {b : β} {k : α → β → Option γ} : bn2 (some (a, b)) k = k a b := rfl
theorem letv_e {α β : Type} {v : α} {k : α → β} : letv v k = k v := rfl
theorem inR_nI {j n : Nat} (h : j < n) (hn : n < 2 ^ 31) : inR (nI j) n = true := by
  unfold inR
  rw [Bool.and_eq_true, decide_eq_true_eq, decide_eq_true_eq]
  exact ⟨nI_pos' (by omega), by rw [nI_clamp (by omega)]; exact h⟩
theorem nI_inj {a b : Nat} (ha : a < 2 ^ 31) (hb : b < 2 ^ 31) (h : nI a = nI b) : a = b := (nI_eq ha hb).mp h
theorem nI_ne_m1 {a : Nat} (ha : a < 2 ^ 31) : ¬ nI a = -1 := by
  intro h
  have := congrArg Int32.toInt h
  rw [nI_toInt ha] at this
  have e : (-1 : Int32).toInt = -1 := by decide
  rw [e] at this
  omega
theorem lN_ne_m1 {a : Nat} (ha : a < 2 ^ 63) : ¬ lN a = -1 := by
  intro h
  have := congrArg Int64.toInt h
  rw [pk_lT ha] at this
  have e : (-1 : Int64).toInt = -1 := by decide
  rw [e] at this
  omega
theorem lg_eq0 {a b : Int64} : (lg_cmp a b = 0) = (a = b) := propext (lg_cmp_eq a b)
theorem lg_lt0 {a b : Int64} : (lg_cmp a b < 0) = (a < b) := propext (lg_cmp_lt a b)
theorem lg_le0 {a b : Int64} : (lg_cmp a b ≤ 0) = (a ≤ b) := propext (lg_cmp_le a b)
theorem lg_gt0 {a b : Int64} : (0 < lg_cmp a b) = (b < a) := propext (lg_cmp_gt a b)
theorem lg_ge0 {a b : Int64} : (0 ≤ lg_cmp a b) = (b ≤ a) := propext (lg_cmp_ge a b)
/-- the number of an int -/
def qn (a : Int32) : Nat := a.toNatClampNeg
theorem qn_nI {n : Nat} (h : n < 2 ^ 31) : qn (nI n) = n := nI_clamp h
/-- an int that is a number up to b -/
def isN (b : Nat) (a : Int32) : Prop := a = nI (qn a) ∧ qn a ≤ b
theorem isN_of {a : Int32} {n b : Nat} (h : a = nI n) (hn : n ≤ b) (hb : b < 2 ^ 31) : isN b a := by
  subst h
  unfold isN
  rw [qn_nI (by omega)]
  exact ⟨rfl, hn⟩
def cnp (x : PD) : Nat := qn (rI x 37)
def cnj (x : PD) : Nat := qn (rI x 42)
def ckd (x : PD) (p : Nat) : Nat := qn (rA x 2 p)
def cbs (x : PD) (p : Nat) : Nat := qn (rA x 3 p)
def cbt (x : PD) (p : Nat) : Nat := qn (rA x 4 p)
def cmd (x : PD) (p : Nat) : Nat := qn (rA x 5 p)
def cms (x : PD) (p : Nat) : Nat := qn (rA x 6 p)
def cfr (x : PD) (j : Nat) : Nat := qn (rA x 7 j)
def cbh (x : PD) (j : Nat) : Nat := qn (rA x 8 j)
def ctt (x : PD) (j : Nat) : Nat := qn (rA x 9 j)
def ccs (x : PD) (j : Nat) : Nat := qn (rA x 10 j)
def cpA (x : PD) : Nat := qn (rA x 11 0)
def cpL (x : PD) : Nat := qn (rA x 11 1)
/-- a score as the document has it -/
def ScP (x : PD) (p : Nat) : Prop := isN 3 (rA x 2 p) ∧ isN 64 (rA x 3 p) ∧ 1 ≤ cbs x p ∧ isN 2400 (rA x 4 p) ∧ 24 ≤ cbt x p ∧ isN 255 (rA x 5 p) ∧ (2 ≤ ckd x p → cmd x p = 0) ∧ isN 9 (rA x 6 p) ∧ 1 ≤ cms x p
def ScJ (x : PD) (j : Nat) : Prop := isN 19 (rA x 7 j) ∧ cfr x j < cnp x ∧ ckd x (cfr x j) ≤ 1 ∧ isN 64 (rA x 8 j) ∧ 1 ≤ cbh x j ∧ cbh x j ≤ cbs x (cfr x j) ∧ isN 19 (rA x 9 j) ∧ ctt x j < cnp x ∧ ckd x (ctt x j) ≤ 1 ∧ isN 99 (rA x 10 j)
def ScV (x : PD) : Prop := isN 20 (rI x 37) ∧ isN 100 (rI x 42) ∧ (∀ p, p < cnp x → ScP x p) ∧ (∀ j, j < cnj x → ScJ x j) ∧ isN 99 (rA x 11 0) ∧ isN 99 (rA x 11 1)
/-- the model holds the same score -/
def SEq (x z : PD) : Prop := rI z 1 = rI x 37 ∧ rI z 2 = rI x 42 ∧ rA z 1 = rA x 2 ∧ rA z 2 = rA x 3 ∧ rA z 3 = rA x 4 ∧ rA z 4 = rA x 5 ∧ rA z 5 = rA x 6 ∧ rA z 6 = rA x 7 ∧ rA z 7 = rA x 8 ∧ rA z 8 = rA x 9 ∧ rA z 9 = rA x 10 ∧ rA z 10 = rA x 11
/-- what a joint costs, by a times its cost and b times its time -/
def wgt (x : PD) (a b : Nat) (j : Nat) : Nat := a * ccs x j + b * (cbh x j * cbt x (cfr x j))
def WM : Nat := 15208776
theorem wgt_le {x : PD} (hV : ScV x) {a b j : Nat} (ha : a ≤ 24) (hb : b ≤ 99) (hj : j < cnj x) : wgt x a b j ≤ WM := by
  obtain ⟨-, -, hp, hq, -, -⟩ := hV
  obtain ⟨-, h2, -, h4, -, -, -, -, -, h10⟩ := hq j hj
  obtain ⟨-, -, -, k4, -⟩ := hp _ h2
  have e1 : ccs x j ≤ 99 := h10.2
  have e2 : cbh x j ≤ 64 := h4.2
  have e3 : cbt x (cfr x j) ≤ 2400 := k4.2
  have f1 : a * ccs x j ≤ 24 * 99 := Nat.mul_le_mul ha e1
  have f2 : cbh x j * cbt x (cfr x j) ≤ 64 * 2400 := Nat.mul_le_mul e2 e3
  have f3 : b * (cbh x j * cbt x (cfr x j)) ≤ 99 * (64 * 2400) := Nat.mul_le_mul hb f2
  unfold wgt WM
  omega
/-- a table of the class: least cost or -1, and its steps -/
def TabR (np : Nat) (F : Nat → Int64) (G : Nat → Int32) (t : Tb) : Prop := ∀ p, p < np → match t p with
  | none => F p = -1
  | some u => F p = lN u.1 ∧ G p = nI u.2
/-- .. of the model: FAR instead -/
def TabM (np : Nat) (F : Nat → Int64) (G : Nat → Int32) (t : Tb) : Prop := ∀ p, p < np → match t p with
  | none => F p = 1000000000000
  | some u => F p = lN u.1 ∧ G p = nI u.2
/-- steps up to K, costs as many steps allow -/
def bdT (K : Nat) (t : Tb) : Prop := ∀ p u, t p = some u → u.2 ≤ K ∧ u.1 ≤ u.2 * WM
theorem bdT_mono {K K' : Nat} {t : Tb} (h : bdT K t) (hk : K ≤ K') : bdT K' t := fun p u hu => ⟨Nat.le_trans (h p u hu).1 hk, (h p u hu).2⟩
theorem rx1_bd {fr tt w : Nat → Nat} {K j : Nat} {t t' : Tb} (h : rx1 fr tt w t j t') (hw : w j ≤ WM) (hb : bdT K t) : bdT (K + 1) t' := by
  rcases h with ⟨-, v, ho, rfl⟩ | ⟨-, rfl⟩
  · intro p u hu
    by_cases hp : p = fr j
    · simp only [va_up, hp, if_true] at hu
      cases hu
      unfold off at ho
      cases htt : t (tt j) with
      | none => rw [htt] at ho; cases ho
      | some q =>
        rw [htt] at ho
        cases ho
        have := hb _ _ htt
        refine ⟨by simp only; omega, ?_⟩
        simp only
        rw [Nat.add_mul, Nat.one_mul]
        omega
    · simp only [va_up, hp, if_false] at hu
      exact ⟨Nat.le_trans (hb p u hu).1 (Nat.le_succ _), (hb p u hu).2⟩
  · exact bdT_mono hb (Nat.le_succ _)
/-- the better one, as the class tells it -/
theorem isBetter_c (x : PD) {c1 n1 : Nat} {F3 : Int64} {G4 : Int32} {o : Option (Nat × Nat)} (hc : c1 < 2 ^ 62) (hn : n1 < 2 ^ 30) (ho : match o with | none => F3 = -1 | some u => F3 = lN u.1 ∧ G4 = nI u.2 ∧ u.1 < 2 ^ 62 ∧ u.2 < 2 ^ 30) :
    ∃ r, f_X4_isBetter x (lN c1) (nI n1) F3 G4 = some r ∧ ((btr (c1, n1) o ∧ r = 1) ∨ (¬ btr (c1, n1) o ∧ r = 0)) := by
  unfold f_X4_isBetter
  simp only [lg_eq0, lg_lt0]
  cases o with
  | none =>
    simp only at ho
    rw [if_pos ho]
    exact ⟨1, rfl, Or.inl ⟨trivial, rfl⟩⟩
  | some u =>
    simp only at ho
    obtain ⟨h1, h2, h3, h4⟩ := ho
    subst h1; subst h2
    rw [if_neg (lN_ne_m1 (by omega))]
    have e1 : (lN c1 < lN u.1) = (c1 < u.1) := propext (pk_lLT (by omega) (by omega))
    have e2 : (lN c1 = lN u.1) = (c1 = u.1) := propext (pk_lEQ (by omega) (by omega))
    have e3 : (nI u.2 ≤ nI n1) = (u.2 ≤ n1) := propext (nI_leI (by omega) (by omega))
    simp only [e1, e2, e3]
    by_cases a1 : c1 < u.1
    · rw [if_pos a1]
      exact ⟨1, rfl, Or.inl ⟨Or.inl a1, rfl⟩⟩
    · rw [if_neg a1]
      by_cases a2 : c1 = u.1
      · rw [if_pos a2]
        by_cases a3 : u.2 ≤ n1
        · rw [if_pos a3]
          exact ⟨0, rfl, Or.inr ⟨fun q => by unfold btr ltb at q; simp only at q; omega, rfl⟩⟩
        · rw [if_neg a3]
          exact ⟨1, rfl, Or.inl ⟨Or.inr ⟨a2, by simp only; omega⟩, rfl⟩⟩
      · rw [if_neg a2]
        exact ⟨0, rfl, Or.inr ⟨fun q => by unfold btr ltb at q; simp only at q; omega, rfl⟩⟩
