/-! ===== PURE: reach, lacks ===== -/
theorem ckP_y {x : PD} (hV : ScV x) {p : Nat} (hp : p < cnp x) (hk : ckd x p ≤ 1) : f_X5_checkPlayable x (nI p) = some () ∧ g_X5_checkPlayable x (nI p) = none := by
  unfold f_X5_checkPlayable g_X5_checkPlayable
  rw [canPlay_c hV hp, bn1_s, bn1_s, if_pos hk, if_neg (by decide), if_neg (by decide)]
  exact ⟨rfl, rfl⟩
theorem ckP_n {x : PD} (hV : ScV x) {p1 : Int32} (h : (∃ p, p1 = nI p ∧ p < cnp x ∧ ¬ ckd x p ≤ 1) ∨ (p1 < 0 ∨ (¬ p1 < 0 ∧ rI x 37 ≤ p1))) : g_X5_checkPlayable x p1 = some 1 := by
  unfold g_X5_checkPlayable
  rcases h with ⟨p, rfl, hp, hk⟩ | h
  · rw [canPlay_c hV hp, bn1_s, if_neg hk, if_pos rfl]
  · unfold f_X2_canPlay
    rw [isPiece_n h, bn1_s, if_pos rfl, bn1_s, if_pos rfl]
theorem asked_y {x z : PD} (hV : ScV x) (hS : SEq x z) {p m : Nat} (hp : p < cnp x) (hk : ckd x p ≤ 1) (hm : m ≤ 7) : f_X6_isAsked z (nI p) (nI m) = some (1, wI z 0 0) := by
  have e7 : (7 : Int32) = nI 7 := by decide
  unfold f_X6_isAsked f_X6_isAsked_b42
  rw [letv_e, isPieceM_y (z := wI z 0 0) hV hS hp rfl, bn2_s, if_neg (by decide), isMain_m (z := wI z 0 0) hV hS hp, bn1_s, if_pos hk, right_y (z := wI z 0 0) rfl, bn2_s, if_neg (by decide), if_neg (nI_pos (by omega)), e7, if_neg (by rw [nI_ltI (by omega) (by omega)]; omega), right_y (z := wI z 0 0) rfl, bn2_s, if_neg (by decide)]
theorem asked_n1 {x z : PD} (hV : ScV x) (hS : SEq x z) {p1 p2 : Int32} (h : (∃ p, p1 = nI p ∧ p < cnp x ∧ ¬ ckd x p ≤ 1) ∨ (p1 < 0 ∨ (¬ p1 < 0 ∧ rI x 37 ≤ p1))) : f_X6_isAsked z p1 p2 = some (0, wI (wI z 0 0) 0 1) := by
  unfold f_X6_isAsked
  rw [letv_e]
  rcases h with ⟨p, rfl, hp, hk⟩ | h
  · rw [isPieceM_y (z := wI z 0 0) hV hS hp rfl, bn2_s, if_neg (by decide), isMain_m (z := wI z 0 0) hV hS hp, bn1_s, if_neg hk, right_n1 (z := wI z 0 0) rfl, bn2_s, if_pos rfl]
  · rw [isPieceM_n (z := wI z 0 0) hV hS h rfl, bn2_s, if_pos rfl]
theorem asked_n2 {x z : PD} (hV : ScV x) (hS : SEq x z) {p : Nat} {p2 : Int32} (hp : p < cnp x) (hk : ckd x p ≤ 1) (h : p2 < 0 ∨ (¬ p2 < 0 ∧ ¬ p2 < 8)) : f_X6_isAsked z (nI p) p2 = some (0, wI (wI z 0 0) 0 2) := by
  unfold f_X6_isAsked f_X6_isAsked_b42
  rw [letv_e, isPieceM_y (z := wI z 0 0) hV hS hp rfl, bn2_s, if_neg (by decide), isMain_m (z := wI z 0 0) hV hS hp, bn1_s, if_pos hk, right_y (z := wI z 0 0) rfl, bn2_s, if_neg (by decide), right_n2 (z := wI z 0 0) rfl, bn2_s, if_pos rfl]
  rcases h with h | ⟨h1, h2⟩
  · rw [if_pos h]
  · rw [if_neg h1, if_pos (nlt8 h2)]
theorem pcs2 {x : PD} (hV : ScV x) (p1 : Int32) : (∃ p, p1 = nI p ∧ p < cnp x ∧ ckd x p ≤ 1) ∨ ((∃ p, p1 = nI p ∧ p < cnp x ∧ ¬ ckd x p ≤ 1) ∨ (p1 < 0 ∨ (¬ p1 < 0 ∧ rI x 37 ≤ p1))) := by
  rcases pcs hV p1 with ⟨p, h1, h2⟩ | h
  · by_cases hk : ckd x p ≤ 1
    · exact Or.inl ⟨p, h1, h2, hk⟩
    · exact Or.inr (Or.inl ⟨p, h1, h2, hk⟩)
  · exact Or.inr (Or.inr h)
/-- the tables by time alone, on both sides -/
theorem time_both {x z : PD} (hV : ScV x) (hS : SEq x z) {m : Nat} (hm : m ≤ 7) : ∃ F G F' G' t, f_X4_fill_37_1 x (nI m) 0 1 = some (stT 38 39 x F G) ∧ f_X6_reckons z (nI m) 1 = some (stT 20 21 z F' G') ∧ TabR (cnp x) F G t ∧ TabM (cnp x) F' G' t ∧ bdT 3000 t := by
  obtain ⟨F, G, t, k1, k2, k3, k4⟩ := fill_37 x hV (a := 0) (b := 1) (m := m) (by omega) (by omega) hm
  obtain ⟨F', G', t', q1, q2, q3, q4⟩ := reckons_m x z hV hS 1 (a := 0) (b := 1) (m := m) (Or.inr ⟨by decide, rfl, rfl⟩) hm
  exact ⟨F, G, F', G', t, k1, q1, k2, TabM_fin q2 k4 q4, k3⟩
theorem op_reach : Op_reach Rel := by
  intro c x z p1 p2 hc hRel
  have hV := hRel.1.1
  have hS := hRel.1.2.1
  have hnp := hV.np.2
  unfold f_X5_reach g_X5_reach f_X6_reach
  rcases pcs2 hV p1 with ⟨p, rfl, hp, hk⟩ | hn
  · obtain ⟨c1, c2⟩ := ckP_y hV hp hk
    rcases checkMood (p1 := p2) with ⟨m, rfl, hm⟩ | hn
    · left
      obtain ⟨F, G, F', G', t, k1, k2, k3, k4, k5⟩ := time_both (z := wI z 0 0) hV hS hm
      rw [c1, bn1_s, ckM_y hm, bn1_s, k1, bn1_s, asked_y hV hS hp hk hm, bn2_s, if_neg (by decide), k2, bn1_s, inR_nI (show p < 20 by omega) (by decide), gd_t, gd_t, gd_t, nI_clamp (show p < 2 ^ 31 by omega)]
      have r38 : rB (stT 38 39 x F G) 38 = F := rfl
      have r20 : rB (stT 20 21 (wI z 0 0) F' G') 20 = F' := rfl
      rw [r38, r20]
      simp only [lg_lt0]
      have hr : Rel (c + 1) (stT 38 39 x F G) (stT 20 21 (wI z 0 0) F' G') := Rel_of (RelB_mono (B := 20000 * c) (M := 100000 * c) (x := stT 38 39 x F G) (z := stT 20 21 (wI z 0 0) F' G') (Nat.le_refl _) (by omega) hRel.1) hRel.2
      have h1 := k3 p hp
      have h2 := k4 p hp
      cases ht : t p with
      | none =>
        rw [ht] at h1 h2
        simp only at h1 h2
        rw [h1, h2, if_neg (by decide)]
        exact ⟨_, _, _, rfl, rfl, rfl, hr⟩
      | some u =>
        rw [ht] at h1 h2
        simp only at h1 h2
        have hbu := k5 _ _ ht
        have hWM : u.1 ≤ 3000 * WM := Nat.le_trans hbu.2 (Nat.mul_le_mul (by omega) (Nat.le_refl _))
        unfold WM at hWM
        rw [h1.1, h2.1, if_pos (by rw [lFar, pk_lLT (by omega) (by omega)]; omega)]
        exact ⟨_, _, _, rfl, rfl, rfl, hr⟩
    · right; right
      rw [c1, c2, bn1_s, ckM_n hn, asked_n2 hV hS hp hk hn, bn2_s, if_pos rfl]
      exact ⟨rfl, _, _, rfl, rfl, bad1 hRel 0 2⟩
  · right; left
    rw [ckP_n hV hn, asked_n1 hV hS hn, bn2_s, if_pos rfl]
    exact ⟨rfl, _, _, rfl, rfl, bad1 hRel 0 1⟩
/-! .. the pieces that can be come to, as the bits of a number -/
theorem sh31 : ∀ p, p < 20 → ((nI p &&& 31).toBitVec.smod 32).toNat = p := by decide
theorem bit_c {V p : Nat} (hV : V < 2 ^ 20) (hp : p < 20) : ((nI V >>> (nI p &&& 31)) &&& 1 = 0) = (V.testBit p = false) := by
  rw [pk_shrN (by omega) _ p (sh31 p hp), pk_andN (n := V / 2 ^ p) (by have := Nat.div_le_self V (2 ^ p); omega) 1 (by decide), nI_e0 (by have := Nat.mod_lt (V / 2 ^ p) (show 0 < 2 ^ 1 by decide); omega)]
  rw [Nat.testBit_eq_decide_div_mod_eq]
  apply propext
  have := Nat.mod_lt (V / 2 ^ p) (show 0 < 2 by decide)
  rw [decide_eq_false_iff_not]
  have e : (2 : Nat) ^ 1 = 2 := rfl
  rw [e]
  omega
theorem shl_c {q : Nat} (hq : q < 20) : (1 : Int32) <<< (nI q &&& 31) = nI (2 ^ q) := by
  have h1 : (1 : Int32) = nI 1 := by decide
  have hlt : 2 ^ q < 2 ^ 20 := Nat.pow_lt_pow_right (by decide) hq
  rw [h1, pk_shlN _ q (sh31 q hq) (by rw [Nat.one_mul]; omega), Nat.one_mul]
theorem or_c (a b : Nat) : nI a ||| nI b = nI (a ||| b) := by
  apply Int32.toBitVec_inj.mp
  show BitVec.ofNat 32 a ||| BitVec.ofNat 32 b = BitVec.ofNat 32 (a ||| b)
  apply BitVec.eq_of_getLsbD_eq
  intro i hi
  simp [hi]
def psV (x : PD) : Nat → Nat → Nat → Nat
  | 0, _, V => V
  | n + 1, j, V => psV x n (j + 1) (if V.testBit (cfr x j) = true then V ||| 2 ^ ctt x j else V)
def sub_ (a b : Nat) : Prop := ∀ q, a.testBit q = true → b.testBit q = true
def FLg (x : PD) (f : Int32) (V0 V : Nat) : Prop := sub_ V0 V ∧ ((f = 0 ∧ V = V0) ∨ (f = 1 ∧ ∃ q, q < cnp x ∧ V.testBit q = true ∧ V0.testBit q = false))
theorem FLg_ne {x : PD} {f : Int32} {V0 V : Nat} (h : FLg x f V0 V) : (V = V0) = (f = 0) := by
  rcases h.2 with ⟨h1, h2⟩ | ⟨h1, q, -, h2, h3⟩
  · rw [h1, h2]; simp
  · rw [h1]
    apply propext
    constructor
    · intro h; rw [h, h3] at h2; cases h2
    · intro h; exact absurd h (by decide)
theorem set_bits {V q : Nat} (r : Nat) : (V ||| 2 ^ q).testBit r = (V.testBit r || decide (r = q)) := by
  rw [Nat.testBit_or, Nat.testBit_two_pow]
  congr 1
  exact decide_eq_decide.mpr ⟨Eq.symm, Eq.symm⟩
theorem pass_c {x : PD} (hV : ScV x) (k : Int32 → Int32 → Int32 → Int32 → Option Int32) {v1 v4 : Int32} {V0 : Nat} : ∀ (n j V : Nat), cnj x - j < n → j ≤ cnj x → V < 2 ^ 20 → psV x (cnj x - j) j V < 2 ^ 20 ∧ f_X2_firstComeTo_b28 x k n v1 (nI V) v4 (nI V0) (nI j) = (if nI (psV x (cnj x - j) j V) = nI V0 then k v1 (nI (psV x (cnj x - j) j V)) 0 (v4 + 1) else k v1 (nI (psV x (cnj x - j) j V)) 1 (v4 + 1)) := by
  have hnp := hV.np.2
  have hnj := hV.nj
  intro n
  induction n with
  | zero => intro j V h; omega
  | succ n ih =>
    intro j V hn hj hV20
    rw [f_X2_firstComeTo_b28, hnj.1]
    by_cases hlt : j < cnj x
    · obtain ⟨h7, -, h9, -, hf, ht, -, -, -, -, hj100⟩ := hV.jt hlt
      rw [if_neg (by rw [nI_leI (by omega) (by omega)]; omega), inR_nI hj100 (by decide), gd_t, gd_t, nI_clamp (show j < 2 ^ 31 by omega), h7, h9, nI_1]
      simp only [bit_c hV20 (show cfr x j < 20 by omega)]
      have e : cnj x - j = (cnj x - (j + 1)) + 1 := by omega
      rw [e, psV]
      by_cases hb : V.testBit (cfr x j) = false
      · rw [if_pos hb, if_neg (by rw [hb]; decide)]
        exact ih (j + 1) V (by omega) (by omega) hV20
      · have hb' : V.testBit (cfr x j) = true := by simpa using hb
        rw [if_neg hb, if_pos hb', shl_c (by omega), or_c]
        exact ih (j + 1) _ (by omega) (by omega) (Nat.or_lt_two_pow hV20 (Nat.pow_lt_pow_right (by decide) (by omega)))
    · rw [if_pos (by rw [nI_leI (by omega) (by omega)]; omega)]
      have e : cnj x - j = 0 := by omega
      rw [e, psV]
      exact ⟨hV20, rfl⟩
/-- the model's array of them -/
def CR (x : PD) (C : Nat → Int32) (V : Nat) : Prop := ∀ p, p < cnp x → (C p = 0 ↔ V.testBit p = false)
theorem wA_wA {z : PD} {k : Nat} {f g : Nat → Int32} : wA (wA z k f) k g = wA z k g := by
  unfold wA
  simp only [bx_uu]
theorem pass_m {x z : PD} (hV : ScV x) (hS : SEq x z) (k : PD → Int32 → Int32 → Option (Int32 × PD)) {v2 : Int32} {V0 : Nat} : ∀ (n j V : Nat) (C : Nat → Int32) (f : Int32), cnj x - j < n → j ≤ cnj x → CR x C V → FLg x f V0 V → ∃ C' f', f_X6_lacks_b75 k n (wA z 22 C) v2 f (nI j) = k (wA z 22 C') v2 f' ∧ CR x C' (psV x (cnj x - j) j V) ∧ FLg x f' V0 (psV x (cnj x - j) j V) := by
  have hnp := hV.np.2
  have hnj := hV.nj
  intro n
  induction n with
  | zero => intro j V C f h; omega
  | succ n ih =>
    intro j V C f hn hj hC hF
    have e2 : rI (wA z 22 C) 2 = nI (cnj x) := hS.nj hV
    rw [f_X6_lacks_b75, e2]
    by_cases hlt : j < cnj x
    · obtain ⟨-, -, -, -, hf, ht, -, -, -, -, hj100⟩ := hV.jt hlt
      obtain ⟨h6, -, h8, -⟩ := hS.jt hV hlt
      have r6 : rA (wA z 22 C) 6 j = nI (cfr x j) := h6
      have r8 : rA (wA z 22 C) 8 j = nI (ctt x j) := h8
      have r22 : rA (wA z 22 C) 22 = C := rfl
      rw [if_neg (by rw [nI_leI (by omega) (by omega)]; omega)]
      simp only [inR_nI hj100 (by decide), gd_t, nI_clamp (show j < 2 ^ 31 by omega), r6, r8, inR_nI (show cfr x j < 20 by omega) (by decide), inR_nI (show ctt x j < 20 by omega) (by decide), nI_clamp (show cfr x j < 2 ^ 31 by omega), nI_clamp (show ctt x j < 2 ^ 31 by omega), r22, letv_e, wA_wA, nI_1]
      have e : cnj x - j = (cnj x - (j + 1)) + 1 := by omega
      rw [e, psV]
      by_cases hb : V.testBit (cfr x j) = false
      · rw [if_pos ((hC _ hf).mpr hb), if_neg (by rw [hb]; decide)]
        exact ih (j + 1) V C f (by omega) (by omega) hC hF
      · have hb' : V.testBit (cfr x j) = true := by simpa using hb
        rw [if_neg (fun h => hb ((hC _ hf).mp h)), if_pos hb']
        by_cases hq : V.testBit (ctt x j) = false
        · rw [if_pos ((hC _ ht).mpr hq)]
          refine ih (j + 1) _ _ 1 (by omega) (by omega) ?_ ⟨?_, Or.inr ⟨rfl, ctt x j, ht, ?_, ?_⟩⟩
          · intro p hp
            rw [set_bits]
            by_cases he : p = ctt x j
            · subst he
              rw [upd_eq]
              simp
              decide
            · rw [upd_ne he]
              simp only [he, decide_false, Bool.or_false]
              exact hC p hp
          · intro q hq'
            rw [set_bits, hF.1 q hq']
            rfl
          · rw [set_bits]; simp
          · cases h0 : V0.testBit (ctt x j) with
            | false => rfl
            | true => rw [hF.1 _ h0] at hq; cases hq
        · have hq' : V.testBit (ctt x j) = true := by simpa using hq
          rw [if_neg (fun h => hq ((hC _ ht).mp h))]
          have hsame : V ||| 2 ^ ctt x j = V := by
            apply Nat.eq_of_testBit_eq
            intro r
            rw [set_bits]
            by_cases he : r = ctt x j
            · rw [he, hq']; rfl
            · simp [he]
          rw [hsame]
          exact ih (j + 1) V C f (by omega) (by omega) hC hF
    · rw [if_pos (by rw [nI_leI (by omega) (by omega)]; omega)]
      have e : cnj x - j = 0 := by omega
      rw [e, psV]
      exact ⟨C, f, rfl, hC, hF⟩
/-- how many bits below n -/
def cnB (V : Nat) : Nat → Nat
  | 0 => 0
  | n + 1 => cnB V n + (if V.testBit n = true then 1 else 0)
theorem cnB_le (V n : Nat) : cnB V n ≤ n := by
  induction n with
  | zero => exact Nat.le_refl _
  | succ n ih => unfold cnB; split <;> omega
theorem cnB_sub {V W : Nat} (h : sub_ V W) (n : Nat) : cnB V n ≤ cnB W n := by
  induction n with
  | zero => exact Nat.le_refl _
  | succ n ih =>
    unfold cnB
    by_cases hb : V.testBit n = true
    · rw [if_pos hb, if_pos (h n hb)]; omega
    · rw [if_neg hb]; split <;> omega
theorem cnB_lt {V W q : Nat} (h : sub_ V W) (h1 : W.testBit q = true) (h2 : V.testBit q = false) : ∀ n, q < n → cnB V n < cnB W n := by
  intro n
  induction n with
  | zero => intro h; omega
  | succ n ih =>
    intro hq
    unfold cnB
    by_cases he : q = n
    · subst he
      have := cnB_sub h q
      rw [if_pos h1, if_neg (by rw [h2]; decide)]
      omega
    · have := ih (by omega)
      by_cases hb : V.testBit n = true
      · rw [if_pos hb, if_pos (h n hb)]; omega
      · rw [if_neg hb]; split <;> omega
theorem cnB_pos {V q n : Nat} (h : V.testBit q = true) (hq : q < n) : 1 ≤ cnB V n := by
  have := cnB_lt (V := 0) (W := V) (q := q) (fun r hr => by rw [Nat.zero_testBit] at hr; cases hr) h (Nat.zero_testBit q) n hq
  omega
/-- both sides' rounds -/
theorem rounds_both {x z : PD} (hV : ScV x) (hS : SEq x z) {p m : Nat} (hp : p < cnp x) : ∀ (n r V : Nat) (C : Nat → Int32) (f : Int32), cnp x + 1 - r < n → V < 2 ^ 20 → CR x C V → V.testBit p = true → ((f = 1 ∧ r + 1 ≤ cnB V (cnp x)) ∨ f = 0) → ∃ V' C', V' < 2 ^ 20 ∧ CR x C' V' ∧ V'.testBit p = true ∧ f_X2_firstComeTo_b9 x n (nI p) (nI V) f (nI r) = f_X2_firstComeTo_b90 x FU (nI p) (nI V') 0 ∧ f_X6_lacks_b66 n (wA z 22 C) (nI m) f = f_X6_lacks_b144 FU (wA z 22 C') (nI m) 0 := by
  have hnp := hV.np
  have hnj := hV.nj
  intro n
  induction n with
  | zero => intro r V C f h; omega
  | succ n ih =>
    intro r V C f hn hV20 hC hpb hf
    rw [f_X2_firstComeTo_b9, f_X6_lacks_b66]
    rcases hf with ⟨rfl, hr⟩ | rfl
    · have hcn := cnB_le V (cnp x)
      rw [hnp.1, if_neg (by rw [nI_leI (by omega) (by omega)]; omega), if_neg (by decide), if_neg (by decide)]
      obtain ⟨q1, q2⟩ := pass_c hV (f_X2_firstComeTo_b9 x n) (v1 := nI p) (v4 := nI r) (V0 := V) FU 0 V (by unfold FU; omega) (Nat.zero_le _) hV20
      obtain ⟨C', f', w1, w2, w3⟩ := pass_m hV hS (f_X6_lacks_b66 n) (v2 := nI m) (V0 := V) FU 0 V C 0 (by unfold FU; omega) (Nat.zero_le _) hC ⟨fun q h => h, Or.inl ⟨rfl, rfl⟩⟩
      have q2' : f_X2_firstComeTo_b28 x (f_X2_firstComeTo_b9 x n) FU (nI p) (nI V) (nI r) (nI V) 0 = _ := q2
      have w1' : f_X6_lacks_b75 (f_X6_lacks_b66 n) FU (wA z 22 C) (nI m) 0 0 = _ := w1
      rw [q2', w1']
      have hflag : (if nI (psV x (cnj x - 0) 0 V) = nI V then f_X2_firstComeTo_b9 x n (nI p) (nI (psV x (cnj x - 0) 0 V)) 0 (nI r + 1) else f_X2_firstComeTo_b9 x n (nI p) (nI (psV x (cnj x - 0) 0 V)) 1 (nI r + 1)) = f_X2_firstComeTo_b9 x n (nI p) (nI (psV x (cnj x - 0) 0 V)) f' (nI (r + 1)) := by
        have e1 : (nI (psV x (cnj x - 0) 0 V) = nI V) = (f' = 0) := by
          rw [← FLg_ne w3]
          exact propext (nI_eq (by omega) (by omega))
        simp only [e1, nI_1]
        rcases w3.2 with ⟨h1, -⟩ | ⟨h1, -⟩
        · rw [if_pos h1, h1]
        · rw [if_neg (by rw [h1]; decide), h1]
      rw [hflag]
      refine ih (r + 1) _ C' f' (by omega) q1 w2 (w3.1 p hpb) ?_
      rcases w3.2 with ⟨h1, -⟩ | ⟨h1, q, h2, h3, h4⟩
      · exact Or.inr h1
      · have := cnB_lt w3.1 h3 h4 (cnp x) h2
        exact Or.inl ⟨h1, by omega⟩
    · refine ⟨V, C, hV20, hC, hpb, ?_, ?_⟩
      · rw [if_pos (rfl : (0 : Int32) = 0)]
        split <;> rfl
      · rw [if_pos rfl]
theorem first_c {x : PD} {p V : Nat} (hp : p < 20) (hV20 : V < 2 ^ 20) (hpb : V.testBit p = true) : ∀ (n i : Nat), p - i < n → i ≤ p → (∀ k, k < i → V.testBit k = false) → ∃ i0, i0 ≤ p ∧ V.testBit i0 = true ∧ (∀ k, k < i0 → V.testBit k = false) ∧ f_X2_firstComeTo_b90 x n (nI p) (nI V) (nI i) = some (nI i0) := by
  intro n
  induction n with
  | zero => intro i h; omega
  | succ n ih =>
    intro i hn hi hk
    rw [f_X2_firstComeTo_b90]
    by_cases he : i = p
    · subst he
      rw [if_pos (by rw [nI_leI (by omega) (by omega)]; omega)]
      exact ⟨i, Nat.le_refl _, hpb, hk, rfl⟩
    · rw [if_neg (by rw [nI_leI (by omega) (by omega)]; omega)]
      simp only [bit_c hV20 (show i < 20 by omega)]
      by_cases hb : V.testBit i = false
      · rw [if_pos hb, nI_1]
        refine ih (i + 1) (by omega) (by omega) (fun k h => ?_)
        by_cases hke : k = i
        · rw [hke]; exact hb
        · exact hk k (by omega)
      · rw [if_neg hb]
        exact ⟨i, hi, by simpa using hb, hk, rfl⟩
theorem first_m {x z : PD} {V i0 m : Nat} {C : Nat → Int32} (hnp : cnp x ≤ 20) (hi0 : i0 < cnp x) (hC : CR x C V) (h1 : V.testBit i0 = true) (h2 : ∀ k, k < i0 → V.testBit k = false) : ∀ (n i : Nat), i0 - i < n → i ≤ i0 → f_X6_lacks_b144 n (wA z 22 C) (nI m) (nI i) = f_X6_lacks_b163 FU (wA z 22 C) (nI m) (nI i0) 0 := by
  intro n
  induction n with
  | zero => intro i h; omega
  | succ n ih =>
    intro i hn hi
    have r22 : rA (wA z 22 C) 22 = C := rfl
    rw [f_X6_lacks_b144, inR_nI (show i < 20 by omega) (by decide), gd_t, nI_clamp (by omega), r22]
    by_cases he : i = i0
    · subst he
      rw [if_neg (fun h => by rw [(hC i (by omega)).mp h] at h1; cases h1)]
    · rw [if_pos ((hC i (by omega)).mpr (h2 i (by omega))), nI_1]
      exact ih (i + 1) (by omega) (by omega)
theorem withMood {x z : PD} (hV : ScV x) (hS : SEq x z) {m : Nat} (hm : m ≤ 7) (v4 : Int32) : (f_X2_firstWithMood x (nI m) = some (-1) ∧ f_X6_lacks_b163 FU z (nI m) v4 0 = some (-1, z)) ∨ ∃ f, f < cnp x ∧ f_X2_firstWithMood x (nI m) = some (nI f) ∧ f_X6_lacks_b163 FU z (nI m) v4 0 = some ((100 * v4) + nI f, z) := by
  have hnp := hV.np
  have hz1 : rI z 1 = nI (cnp x) := hS.np hV
  have main : ∀ (n i : Nat), cnp x - i < n → i ≤ cnp x → (f_X2_firstWithMood_b2 x n (nI m) (nI i) = some (-1) ∧ f_X6_lacks_b163 n z (nI m) v4 (nI i) = some (-1, z)) ∨ ∃ f, f < cnp x ∧ f_X2_firstWithMood_b2 x n (nI m) (nI i) = some (nI f) ∧ f_X6_lacks_b163 n z (nI m) v4 (nI i) = some ((100 * v4) + nI f, z) := by
    intro n
    induction n with
    | zero => intro i h; omega
    | succ n ih =>
      intro i hn hi
      rw [f_X2_firstWithMood_b2, f_X6_lacks_b163, hnp.1, hz1]
      by_cases hlt : i < cnp x
      · have c1 : ¬ nI (cnp x) ≤ nI i := by rw [nI_leI (by omega) (by omega)]; omega
        rw [if_neg c1, if_neg c1, hasMood_c (by omega) hm, bn1_s, has_m hS (by omega) hm, bn1_s]
        by_cases hb : mbit x m i = 0
        · rw [if_pos hb, if_pos rfl, if_pos rfl, nI_1]
          exact ih (i + 1) (by omega) (by omega)
        · rw [if_neg hb, if_neg (by decide), if_neg (by decide)]
          unfold f_X6_lacks_b188
          rw [hz1, if_neg (by rw [nI_eq (by omega) (by omega)]; omega)]
          exact Or.inr ⟨i, hlt, rfl, rfl⟩
      · have c1 : nI (cnp x) ≤ nI i := by rw [nI_leI (by omega) (by omega)]; omega
        have hie : i = cnp x := by omega
        rw [if_pos c1, if_pos c1]
        unfold f_X6_lacks_b188
        rw [hz1, if_pos (by rw [hie])]
        exact Or.inl ⟨rfl, rfl⟩
  exact main FU 0 (by unfold FU; omega) (Nat.zero_le _)
theorem ini_m {x z : PD} (hV : ScV x) (hS : SEq x z) {p m : Nat} (hp : p < cnp x) : ∃ C, CR x C (2 ^ p) ∧ f_X6_lacks_b34 FU z (nI p) (nI m) 0 = f_X6_lacks_b66 FU (wA z 22 C) (nI m) 1 := by
  have hnp := hV.np.2
  have main : ∀ (n i : Nat) (C : Nat → Int32), cnp x - i < n → i ≤ cnp x → (∀ q, q < i → (C q = 0 ↔ (2 ^ p).testBit q = false)) → ∃ C', CR x C' (2 ^ p) ∧ f_X6_lacks_b34 n (wA z 22 C) (nI p) (nI m) (nI i) = f_X6_lacks_b66 FU (wA z 22 C') (nI m) 1 := by
    intro n
    induction n with
    | zero => intro i C h; omega
    | succ n ih =>
      intro i C hn hi hC
      have e1 : rI (wA z 22 C) 1 = nI (cnp x) := hS.np hV
      have r22 : rA (wA z 22 C) 22 = C := rfl
      rw [f_X6_lacks_b34, e1]
      by_cases hlt : i < cnp x
      · rw [if_neg (by rw [nI_leI (by omega) (by omega)]; omega), inR_nI (show i < 20 by omega) (by decide), gd_t, gd_t, nI_clamp (by omega), r22, letv_e, letv_e, wA_wA, wA_wA, nI_1]
        have e2 : (nI i = nI p) = (i = p) := propext (nI_eq (by omega) (by omega))
        simp only [e2]
        by_cases he : i = p
        · rw [if_pos he]
          refine ih (i + 1) _ (by omega) (by omega) (fun q hq => ?_)
          by_cases hqi : q = i
          · rw [hqi, upd_eq, he, Nat.testBit_two_pow_self]
            decide
          · rw [upd_ne hqi]; exact hC q (by omega)
        · rw [if_neg he]
          refine ih (i + 1) _ (by omega) (by omega) (fun q hq => ?_)
          by_cases hqi : q = i
          · rw [hqi, upd_eq, Nat.testBit_two_pow_of_ne (Ne.symm he)]
            decide
          · rw [upd_ne hqi]; exact hC q (by omega)
      · rw [if_pos (by rw [nI_leI (by omega) (by omega)]; omega)]
        exact ⟨C, fun q hq => hC q (by omega), rfl⟩
  have hz : z = wA z 22 (rA z 22) := by
    apply PD_ext
    · intro i; rfl
    · intro i; rfl
    · intro i
      simp only [rA_wA]
      split
      · next e => rw [e]
      · rfl
    · intro i; rfl
  obtain ⟨C', h1, h2⟩ := main FU 0 (rA z 22) (by unfold FU; omega) (Nat.zero_le _) (fun q hq => by omega)
  rw [← hz] at h2
  exact ⟨C', h1, h2⟩
theorem op_lacks : Op_lacks Rel := by
  intro c x z p1 p2 hc hRel
  have hV := hRel.1.1
  have hS := hRel.1.2.1
  have hnp := hV.np.2
  unfold f_X5_lacks g_X5_lacks f_X6_lacks
  rcases pcs2 hV p1 with ⟨p, rfl, hp, hk⟩ | hn
  · obtain ⟨c1, c2⟩ := ckP_y hV hp hk
    rcases checkMood (p1 := p2) with ⟨m, rfl, hm⟩ | hn
    · left
      obtain ⟨F, G, F', G', t, k1, k2, k3, k4, k5⟩ := time_both (z := wI z 0 0) hV hS hm
      have hV' : ScV (stT 38 39 x F G) := hV
      have hS' : SEq (stT 38 39 x F G) (stT 20 21 (wI z 0 0) F' G') := hS
      rw [c1, bn1_s, ckM_y hm, bn1_s, k1, bn1_s, asked_y hV hS hp hk hm, bn2_s, if_neg (by decide), k2, bn1_s, inR_nI (show p < 20 by omega) (by decide), nI_clamp (show p < 2 ^ 31 by omega)]
      simp only [gd_t]
      have r38 : rB (stT 38 39 x F G) 38 = F := rfl
      have r20 : rB (stT 20 21 (wI z 0 0) F' G') 20 = F' := rfl
      rw [r38, r20]
      simp only [lg_eq0, lg_ge0]
      have hr : ∀ C, Rel (c + 1) (stT 38 39 x F G) (wA (stT 20 21 (wI z 0 0) F' G') 22 C) := fun C => Rel_of (RelB_mono (B := 20000 * c) (M := 100000 * c) (x := stT 38 39 x F G) (z := wA (stT 20 21 (wI z 0 0) F' G') 22 C) (Nat.le_refl _) (by omega) hRel.1) hRel.2
      have hr0 : Rel (c + 1) (stT 38 39 x F G) (stT 20 21 (wI z 0 0) F' G') := Rel_of (RelB_mono (B := 20000 * c) (M := 100000 * c) (x := stT 38 39 x F G) (z := stT 20 21 (wI z 0 0) F' G') (Nat.le_refl _) (by omega) hRel.1) hRel.2
      have h1 := k3 p hp
      have h2 := k4 p hp
      cases ht : t p with
      | none =>
        rw [ht] at h1 h2
        simp only at h1 h2
        obtain ⟨C, w1, w2⟩ := ini_m (x := stT 38 39 x F G) (z := stT 20 21 (wI z 0 0) F' G') hV' hS' (m := m) hp
        have hlt : 2 ^ p < 2 ^ 20 := Nat.pow_lt_pow_right (by decide) (by omega)
        obtain ⟨V', C', v1, v2, v3, v4, v5⟩ := rounds_both (x := stT 38 39 x F G) (z := stT 20 21 (wI z 0 0) F' G') hV' hS' (p := p) (m := m) hp FU 0 (2 ^ p) C 1 (by show cnp x + 1 - 0 < FU; unfold FU; omega) hlt w1 (Nat.testBit_two_pow_self) (Or.inl ⟨rfl, cnB_pos (q := p) Nat.testBit_two_pow_self hp⟩)
        obtain ⟨i0, q1, q2, q3, q4⟩ := first_c (x := stT 38 39 x F G) (p := p) (V := V') (by omega) v1 v3 FU 0 (by unfold FU; omega) (Nat.zero_le _) (fun k h => by omega)
        have q5 := first_m (x := stT 38 39 x F G) (z := stT 20 21 (wI z 0 0) F' G') (m := m) hnp (show i0 < cnp x by omega) v2 q2 q3 FU 0 (by unfold FU; omega) (Nat.zero_le _)
        have hfc : f_X2_firstComeTo (stT 38 39 x F G) (nI p) = some (nI i0) := by
          unfold f_X2_firstComeTo
          rw [shl_c (by omega)]
          exact v4.trans q4
        rw [h1, h2, if_pos (show (1000000000000 : Int64) ≤ 1000000000000 by decide), w2, v5]
        have q5' : f_X6_lacks_b144 FU (wA (stT 20 21 (wI z 0 0) F' G') 22 C') (nI m) 0 = _ := q5
        rw [q5']
        rcases withMood (x := stT 38 39 x F G) (z := wA (stT 20 21 (wI z 0 0) F' G') 22 C') hV' hS' hm (nI i0) with ⟨a1, a2⟩ | ⟨f, a1, a2, a3⟩
        · rw [a1, a2, bn1_s, if_pos (show (-1 : Int64) = -1 from rfl), if_pos (show (-1 : Int32) = -1 from rfl)]
          exact ⟨_, _, _, rfl, rfl, rfl, hr C'⟩
        · have a1' : f < cnp x := a1
          rw [a2, a3, bn1_s, if_pos (show (-1 : Int64) = -1 from rfl), if_neg (nI_ne_m1 (by omega)), hfc, bn1_s]
          exact ⟨_, _, _, rfl, rfl, rfl, hr C'⟩
      | some u =>
        rw [ht] at h1 h2
        simp only at h1 h2
        have hbu := k5 _ _ ht
        have hWM : u.1 ≤ 3000 * WM := Nat.le_trans hbu.2 (Nat.mul_le_mul (by omega) (Nat.le_refl _))
        unfold WM at hWM
        have hfw : ∃ r, f_X2_firstWithMood (stT 38 39 x F G) (nI m) = some r := by
          rcases withMood (x := stT 38 39 x F G) (z := stT 20 21 (wI z 0 0) F' G') hV' hS' hm 0 with ⟨a1, a2⟩ | ⟨f, a1, a2, a3⟩
          · exact ⟨_, a1⟩
          · exact ⟨_, a2⟩
        obtain ⟨r, hr'⟩ := hfw
        rw [hr', bn1_s, h1.1, h2.1, if_neg (lN_ne_m1 (by omega)), if_neg (by rw [lFar, pk_lLE (by omega) (by omega)]; omega)]
        exact ⟨_, _, _, rfl, rfl, rfl, hr0⟩
    · right; right
      rw [c1, c2, bn1_s, ckM_n hn, asked_n2 hV hS hp hk hn, bn2_s, if_pos rfl]
      exact ⟨rfl, _, _, rfl, rfl, bad1 hRel 0 2⟩
  · right; left
    rw [ckP_n hV hn, asked_n1 hV hS hn, bn2_s, if_pos rfl]
    exact ⟨rfl, _, _, rfl, rfl, bad1 hRel 0 1⟩
