/-! ===== PURE: tables of least costs, by rounds over the joints; after as many rounds as there are pieces nothing changes ===== -/
theorem pig : ∀ (n : Nat) (f : Nat → Nat), (∀ i, i ≤ n → f i < n) → ∃ i j, i < j ∧ j ≤ n ∧ f i = f j := by
  intro n
  induction n with
  | zero => intro f h; exact absurd (h 0 (Nat.le_refl 0)) (Nat.not_lt_zero _)
  | succ n ih =>
    intro f h
    by_cases hm : ∃ i, i ≤ n ∧ f i = f (n + 1)
    · obtain ⟨i, hi, he⟩ := hm
      exact ⟨i, n + 1, by omega, Nat.le_refl _, he⟩
    · have hne : ∀ i, i ≤ n → f i ≠ f (n + 1) := fun i hi he => hm ⟨i, hi, he⟩
      have hlast := h (n + 1) (Nat.le_refl _)
      obtain ⟨i, j, hij, hj, he⟩ := ih (fun i => if f i = n then f (n + 1) else f i) (by
        intro i hi
        have h1 := h i (by omega)
        have h2 := hne i hi
        by_cases hc : f i = n
        · simp only [hc, if_true]
          omega
        · simp only [hc, if_false]
          omega)
      refine ⟨i, j, hij, by omega, ?_⟩
      have hi2 := hne i (by omega)
      have hj2 := hne j hj
      by_cases c1 : f i = n <;> by_cases c2 : f j = n <;> simp only [c1, c2, if_true, if_false] at he
      · rw [c1, c2]
      · exact absurd he.symm hj2
      · exact absurd he hi2
      · exact he
abbrev Tb : Type := Nat → Option (Nat × Nat)
/-- less cost, of like costs less steps -/
def ltb (a b : Nat × Nat) : Prop := a.1 < b.1 ∨ (a.1 = b.1 ∧ a.2 < b.2)
def leb (a b : Nat × Nat) : Prop := a.1 < b.1 ∨ (a.1 = b.1 ∧ a.2 ≤ b.2)
def btr (v : Nat × Nat) (o : Option (Nat × Nat)) : Prop := match o with
  | none => True
  | some u => ltb v u
/-- is at most v -/
def atm (o : Option (Nat × Nat)) (v : Nat × Nat) : Prop := ∃ u, o = some u ∧ leb u v
theorem leb_trans {a b c : Nat × Nat} (h1 : leb a b) (h2 : leb b c) : leb a c := by unfold leb at *; omega
theorem leb_refl (a : Nat × Nat) : leb a a := by unfold leb; omega
theorem ltb_le {a b : Nat × Nat} (h : ltb a b) : leb a b := by unfold leb ltb at *; omega
theorem not_ltb {a b : Nat × Nat} (h : ¬ ltb a b) : leb b a := by unfold leb ltb at *; omega
theorem ltb_leb {a b : Nat × Nat} (h : ltb a b) (h2 : leb b a) : False := by unfold leb ltb at *; omega
theorem leb_add {a b : Nat × Nat} (k : Nat) (h : leb a b) : leb (a.1 + k, a.2 + 1) (b.1 + k, b.2 + 1) := by unfold leb at *; simp only; omega
theorem atm_mono {o : Option (Nat × Nat)} {v w : Nat × Nat} (h : atm o v) (h2 : leb v w) : atm o w := by
  obtain ⟨u, h1, h3⟩ := h
  exact ⟨u, h1, leb_trans h3 h2⟩
section TBL
variable (fr tt w : Nat → Nat)
/-- the value that joint j offers -/
def off (t : Tb) (j : Nat) : Option (Nat × Nat) := match t (tt j) with
  | none => none
  | some u => some (u.1 + w j, u.2 + 1)
/-- joint j: does it change the table? -/
def chg (t : Tb) (j : Nat) : Prop := ∃ v, off tt w t j = some v ∧ btr v (t (fr j))
/-- t' is t behind joint j -/
def rx1 (t : Tb) (j : Nat) (t' : Tb) : Prop := (chg fr tt w t j ∧ ∃ v, off tt w t j = some v ∧ t' = va_up t (fr j) (some v)) ∨ (¬ chg fr tt w t j ∧ t' = t)
/-- behind joints i .. n-1; f: whether one changed something -/
def rxs : Nat → Nat → Tb → Tb → Prop → Prop
  | _, 0, t, t', f => t' = t ∧ ¬ f
  | i, n + 1, t, t', f => ∃ t1 f1, rx1 fr tt w t i t1 ∧ rxs (i + 1) n t1 t' f1 ∧ (f ↔ (chg fr tt w t i ∨ f1))
theorem rx1_le {t t' : Tb} {j : Nat} (h : rx1 fr tt w t j t') (p : Nat) (v : Nat × Nat) (hv : atm (t p) v) : atm (t' p) v := by
  rcases h with ⟨hc, v1, ho, rfl⟩ | ⟨-, rfl⟩
  · by_cases hp : p = fr j
    · obtain ⟨v2, ho2, hb⟩ := hc
      rw [ho] at ho2
      cases ho2
      obtain ⟨u, hu, hl⟩ := hv
      rw [← hp, hu] at hb
      exact ⟨v1, by simp [va_up, hp], leb_trans (ltb_le hb) hl⟩
    · simp only [va_up, hp, if_false]
      exact hv
  · exact hv
theorem rxs_le : ∀ (n i : Nat) (t t' : Tb) (f : Prop), rxs fr tt w i n t t' f → ∀ (p : Nat) (v : Nat × Nat), atm (t p) v → atm (t' p) v := by
  intro n
  induction n with
  | zero => intro i t t' f h p v hv; obtain ⟨rfl, -⟩ := h; exact hv
  | succ n ih =>
    intro i t t' f h p v hv
    obtain ⟨t1, f1, h1, h2, -⟩ := h
    exact ih _ _ _ _ h2 p v (rx1_le fr tt w h1 p v hv)
/-- a joint's offer is taken in the round -/
theorem rxs_take : ∀ (n i j : Nat) (t t' : Tb) (f : Prop), rxs fr tt w i n t t' f → i ≤ j → j < i + n → ∀ (v : Nat × Nat), atm (t (tt j)) v → atm (t' (fr j)) (v.1 + w j, v.2 + 1) := by
  intro n
  induction n with
  | zero => intro i j t t' f h h1 h2; omega
  | succ n ih =>
    intro i j t t' f h h1 h2 v hv
    obtain ⟨t1, f1, r1, r2, -⟩ := h
    by_cases hij : i = j
    · subst hij
      refine rxs_le fr tt w n _ _ _ _ r2 _ _ ?_
      obtain ⟨u, hu, hl⟩ := hv
      have ho : off tt w t i = some (u.1 + w i, u.2 + 1) := by unfold off; rw [hu]
      rcases r1 with ⟨hc, v1, ho1, rfl⟩ | ⟨hc, rfl⟩
      · rw [ho] at ho1
        cases ho1
        exact ⟨_, by simp [va_up], leb_add _ hl⟩
      · cases htf : t1 (fr i) with
        | none => exact absurd ⟨_, ho, by rw [htf]; trivial⟩ hc
        | some q =>
          refine ⟨q, rfl, leb_trans (not_ltb (fun hb => hc ⟨_, ho, by rw [htf]; exact hb⟩)) (leb_add _ hl)⟩
    · exact ih (i + 1) j t1 t' f1 r2 (by omega) (by omega) v (rx1_le fr tt w r1 _ _ hv)
variable (np nj : Nat) (has : Nat → Prop)
/-- a walk of n joints from p to a piece that has it, of cost c -/
def Wk (n p c : Nat) : Prop := ∃ v d : Nat → Nat, v 0 = p ∧ d 0 = c ∧ d n = 0 ∧ has (v n) ∧ ∀ i, i < n → ∃ j, j < nj ∧ fr j = v i ∧ tt j = v (i + 1) ∧ d i = d (i + 1) + w j
theorem Wk_cons {n p c j : Nat} (hj : j < nj) (h : Wk fr tt w nj has n (tt j) c) (hp : fr j = p) : Wk fr tt w nj has (n + 1) p (c + w j) := by
  obtain ⟨v, d, h1, h2, h3, h4, h5⟩ := h
  refine ⟨fun i => if i = 0 then p else v (i - 1), fun i => if i = 0 then c + w j else d (i - 1), rfl, rfl, ?_, ?_, ?_⟩
  · simp [h3]
  · simpa using h4
  · intro i hi
    by_cases h0 : i = 0
    · subst h0
      exact ⟨j, hj, by simp [hp], by simp [h1], by simp [h2]⟩
    · obtain ⟨k, k1, k2, k3, k4⟩ := h5 (i - 1) (by omega)
      refine ⟨k, k1, by simp [h0, k2], ?_, ?_⟩
      · simp only [Nat.add_sub_cancel, if_neg (Nat.succ_ne_zero i)]
        rw [k3]; congr 1; omega
      · simp only [h0, if_false, Nat.add_sub_cancel, if_neg (Nat.succ_ne_zero i)]
        rw [k4]; congr 2; omega
theorem Wk_tail {n p c : Nat} (h : Wk fr tt w nj has (n + 1) p c) : ∃ j c', j < nj ∧ fr j = p ∧ Wk fr tt w nj has n (tt j) c' ∧ c = c' + w j := by
  obtain ⟨v, d, h1, h2, h3, h4, h5⟩ := h
  obtain ⟨j, k1, k2, k3, k4⟩ := h5 0 (by omega)
  refine ⟨j, d 1, k1, by rw [k2, h1], ⟨fun i => v (i + 1), fun i => d (i + 1), by rw [k3], rfl, h3, h4, fun i hi => h5 (i + 1) (by omega)⟩, by rw [← h2, k4]⟩
/-- a walk that is as long as there are pieces can be cut -/
theorem Wk_cut {n p c : Nat} (htt : ∀ j, j < nj → tt j < np) (hp : p < np) (hn : np ≤ n) (h : Wk fr tt w nj has n p c) : ∃ n' c', n' < n ∧ c' ≤ c ∧ Wk fr tt w nj has n' p c' := by
  obtain ⟨v, d, h1, h2, h3, h4, h5⟩ := h
  have hv : ∀ i, i ≤ n → v i < np := by
    intro i hi
    cases i with
    | zero => rw [h1]; exact hp
    | succ i =>
      obtain ⟨j, k1, k2, k3, k4⟩ := h5 i (by omega)
      rw [← k3]; exact htt j k1
  obtain ⟨a, b, hab, hb, he⟩ := pig np v (fun i hi => hv i (by omega))
  have hmono : ∀ k i, i + k ≤ n → d (i + k) ≤ d i := by
    intro k
    induction k with
    | zero => intro i _; exact Nat.le_refl _
    | succ k ih =>
      intro i hi
      obtain ⟨j, -, -, -, k4⟩ := h5 i (by omega)
      have := ih (i + 1) (by omega)
      have e1 : i + 1 + k = i + (k + 1) := by omega
      rw [e1] at this
      omega
  have hdab : d b ≤ d a := by
    have := hmono (b - a) a (by omega)
    have e1 : a + (b - a) = b := by omega
    rw [e1] at this; exact this
  have hda : ∀ i, i ≤ a → d a ≤ d i := by
    intro i hi
    have := hmono (a - i) i (by omega)
    have e1 : i + (a - i) = a := by omega
    rw [e1] at this; exact this
  refine ⟨n - (b - a), c - (d a - d b), by omega, by omega, fun i => if i ≤ a then v i else v (i + (b - a)), fun i => if i ≤ a then d i - (d a - d b) else d (i + (b - a)), by simp [h1], by simp [h2], ?_, ?_, ?_⟩
  · by_cases hc : n - (b - a) ≤ a
    · have hbn : b = n := by omega
      have e2 : n - (b - a) = a := by omega
      have e9 : d b = 0 := by rw [hbn]; exact h3
      show (if n - (b - a) ≤ a then d (n - (b - a)) - (d a - d b) else d (n - (b - a) + (b - a))) = 0
      rw [if_pos hc, e2]
      omega
    · have e2 : n - (b - a) + (b - a) = n := by omega
      simp only [hc, if_false, e2, h3]
  · by_cases hc : n - (b - a) ≤ a
    · have hbn : b = n := by omega
      have e2 : n - (b - a) = a := by omega
      show has (if n - (b - a) ≤ a then v (n - (b - a)) else v (n - (b - a) + (b - a)))
      rw [if_pos hc, e2, he, hbn]
      exact h4
    · have e2 : n - (b - a) + (b - a) = n := by omega
      simp only [hc, if_false, e2]
      exact h4
  · intro i hi
    by_cases c1 : i ≤ a
    · by_cases c2 : i + 1 ≤ a
      · obtain ⟨j, k1, k2, k3, k4⟩ := h5 i (by omega)
        have := hda (i + 1) c2
        refine ⟨j, k1, by simp [c1, k2], by simp [c2, k3], ?_⟩
        simp only [c1, c2, if_true]
        omega
      · have hia : i = a := by omega
        subst hia
        obtain ⟨j, k1, k2, k3, k4⟩ := h5 b (by omega)
        refine ⟨j, k1, ?_, ?_, ?_⟩
        · simp only [Nat.le_refl, if_true]; rw [k2, ← he]
        · simp only [c2, if_false]; rw [k3]; congr 1; omega
        · simp only [Nat.le_refl, c2, if_true, if_false]
          have e3 : i + 1 + (b - i) = b + 1 := by omega
          rw [e3]
          omega
    · have c2 : ¬ i + 1 ≤ a := by omega
      obtain ⟨j, k1, k2, k3, k4⟩ := h5 (i + (b - a)) (by omega)
      have e3 : i + (b - a) + 1 = i + 1 + (b - a) := by omega
      rw [e3] at k3 k4
      exact ⟨j, k1, by simp [c1, k2], by simp [c2, k3], by simp only [c1, c2, if_false]; exact k4⟩
theorem Wk_short {p : Nat} (htt : ∀ j, j < nj → tt j < np) (hp : p < np) : ∀ (n c : Nat), Wk fr tt w nj has n p c → ∃ n' c', n' < np ∧ leb (c', n') (c, n) ∧ Wk fr tt w nj has n' p c' := by
  intro n
  induction n using Nat.strongRecOn with
  | ind n ih =>
    intro c h
    by_cases hn : n < np
    · exact ⟨n, c, hn, leb_refl _, h⟩
    · obtain ⟨n1, c1, h1, h2, h3⟩ := Wk_cut fr tt w np nj has htt hp (by omega) h
      obtain ⟨n2, c2, k1, k2, k3⟩ := ih n1 h1 c1 h3
      exact ⟨n2, c2, k1, leb_trans k2 (by unfold leb; simp only; omega), k3⟩
/-- a table whose values are walks -/
def snd_ (t : Tb) : Prop := ∀ p u, t p = some u → Wk fr tt w nj has u.2 p u.1
theorem rx1_snd {t t' : Tb} {j : Nat} (hj : j < nj) (h : rx1 fr tt w t j t') (hs : snd_ fr tt w nj has t) : snd_ fr tt w nj has t' := by
  rcases h with ⟨hc, v1, ho, rfl⟩ | ⟨-, rfl⟩
  · intro p u hu
    by_cases hp : p = fr j
    · simp only [va_up, hp, if_true] at hu
      cases hu
      unfold off at ho
      cases htt : t (tt j) with
      | none => rw [htt] at ho; cases ho
      | some q =>
        rw [htt] at ho
        cases ho
        exact Wk_cons fr tt w nj has hj (hs _ _ htt) hp.symm
    · simp only [va_up, hp, if_false] at hu
      exact hs p u hu
  · exact hs
theorem rxs_snd : ∀ (n i : Nat) (t t' : Tb) (f : Prop), i + n ≤ nj → rxs fr tt w i n t t' f → snd_ fr tt w nj has t → snd_ fr tt w nj has t' := by
  intro n
  induction n with
  | zero => intro i t t' f _ h hs; obtain ⟨rfl, -⟩ := h; exact hs
  | succ n ih =>
    intro i t t' f hi h hs
    obtain ⟨t1, f1, h1, h2, -⟩ := h
    exact ih _ _ _ _ (by omega) h2 (rx1_snd fr tt w nj has (by omega) h1 hs)
/-- holds all walks of at most k joints -/
def cpl (k : Nat) (t : Tb) : Prop := ∀ n p c, n ≤ k → Wk fr tt w nj has n p c → atm (t p) (c, n)
theorem rxs_cpl {k : Nat} {t t' : Tb} {f : Prop} (h : rxs fr tt w 0 nj t t' f) (hc : cpl fr tt w nj has k t) : cpl fr tt w nj has (k + 1) t' := by
  intro n p c hn hw
  cases n with
  | zero => exact rxs_le fr tt w nj _ _ _ _ h _ _ (hc 0 p c (Nat.zero_le _) hw)
  | succ n =>
    obtain ⟨j, c', hj, hp, hw', he⟩ := Wk_tail fr tt w nj has hw
    have := rxs_take fr tt w nj 0 j t t' f h (Nat.zero_le _) (by omega) _ (hc n _ _ (by omega) hw')
    rw [hp] at this
    rw [he]
    exact this
/-- a table that holds all walks changes no more -/
def all_ (t : Tb) : Prop := ∀ n p c, p < np → Wk fr tt w nj has n p c → atm (t p) (c, n)
theorem cpl_all {t : Tb} (htt : ∀ j, j < nj → tt j < np) (hc : cpl fr tt w nj has np t) : all_ fr tt w np nj has t := by
  intro n p c hp hw
  obtain ⟨n', c', h1, h2, h3⟩ := Wk_short fr tt w np nj has htt hp n c hw
  exact atm_mono (hc n' p c' (by omega) h3) h2
theorem all_nochg {t : Tb} (hfr : ∀ j, j < nj → fr j < np) (hs : snd_ fr tt w nj has t) (ha : all_ fr tt w np nj has t) {j : Nat} (hj : j < nj) : ¬ chg fr tt w t j := by
  rintro ⟨v, ho, hb⟩
  unfold off at ho
  cases htt : t (tt j) with
  | none => rw [htt] at ho; cases ho
  | some q =>
    rw [htt] at ho
    cases ho
    obtain ⟨u, hu, hl⟩ := ha _ _ _ (hfr j hj) (Wk_cons fr tt w nj has hj (hs _ _ htt) rfl)
    rw [hu] at hb
    exact ltb_leb hb hl
theorem all_stay : ∀ (n i : Nat) (t t' : Tb) (f : Prop), i + n ≤ nj → (∀ j, j < nj → ¬ chg fr tt w t j) → rxs fr tt w i n t t' f → t' = t ∧ ¬ f := by
  intro n
  induction n with
  | zero => intro i t t' f _ _ h; exact h
  | succ n ih =>
    intro i t t' f hi hc h
    obtain ⟨t1, f1, h1, h2, h3⟩ := h
    rcases h1 with ⟨h1, -⟩ | ⟨-, rfl⟩
    · exact absurd h1 (hc i (by omega))
    · obtain ⟨e1, e2⟩ := ih (i + 1) t1 t' f1 (by omega) hc h2
      exact ⟨e1, by rw [h3]; rintro (q | q); exact hc i (by omega) q; exact e2 q⟩
/-- no change means: nothing would change -/
theorem nof_nochg : ∀ (n i : Nat) (t t' : Tb) (f : Prop), rxs fr tt w i n t t' f → ¬ f → t' = t ∧ ∀ j, i ≤ j → j < i + n → ¬ chg fr tt w t j := by
  intro n
  induction n with
  | zero => intro i t t' f h _; exact ⟨h.1, fun j h1 h2 => by omega⟩
  | succ n ih =>
    intro i t t' f h hf
    obtain ⟨t1, f1, h1, h2, h3⟩ := h
    have hn1 : ¬ chg fr tt w t i := fun q => hf (h3.mpr (Or.inl q))
    have hn2 : ¬ f1 := fun q => hf (h3.mpr (Or.inr q))
    rcases h1 with ⟨h1, -⟩ | ⟨-, rfl⟩
    · exact absurd h1 hn1
    · obtain ⟨e1, e2⟩ := ih (i + 1) t1 t' f1 h2 hn2
      refine ⟨e1, fun j h1 h2 => ?_⟩
      by_cases hij : j = i
      · rw [hij]; exact hn1
      · exact e2 j (by omega) (by omega)
end TBL
