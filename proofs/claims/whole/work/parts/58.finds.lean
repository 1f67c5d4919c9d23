/-! ===== PURE: the model's finds ===== -/
def gt (z : PD) (k : Nat) : Int32 := Int64.toInt32 (rB z 11 k)
theorem get_m {z : PD} {k : Nat} (h : k < 56) : f_X6_get z (nI k) = some (gt z k) := by
  unfold f_X6_get gt
  rw [inR_nI h (by decide), gd_t, nI_clamp (by omega)]
theorem get0 {z : PD} : f_X6_get z 0 = some (gt z 0) := get_m (k := 0) (by decide)
theorem get1 {z : PD} : f_X6_get z 1 = some (gt z 1) := get_m (k := 1) (by decide)
theorem get2 {z : PD} : f_X6_get z 2 = some (gt z 2) := get_m (k := 2) (by decide)
theorem get3 {z : PD} : f_X6_get z 3 = some (gt z 3) := get_m (k := 3) (by decide)
theorem get4 {z : PD} : f_X6_get z 4 = some (gt z 4) := get_m (k := 4) (by decide)
theorem get5 {z : PD} : f_X6_get z 5 = some (gt z 5) := get_m (k := 5) (by decide)
theorem get6 {z : PD} : f_X6_get z 6 = some (gt z 6) := get_m (k := 6) (by decide)
theorem get7 {z : PD} : f_X6_get z 7 = some (gt z 7) := get_m (k := 7) (by decide)
theorem SEq.pc {x z : PD} (hS : SEq x z) (hV : ScV x) {p : Nat} (hp : p < cnp x) : rA z 1 p = nI (ckd x p) ∧ rA z 2 p = nI (cbs x p) ∧ rA z 3 p = nI (cbt x p) ∧ rA z 5 p = nI (cms x p) := by
  obtain ⟨-, -, e1, e2, e3, -, e5, -⟩ := hS
  obtain ⟨h2, -, h3, -, -, h4, -, -, h6, -⟩ := hV.pc hp
  exact ⟨by rw [e1]; exact h2, by rw [e2]; exact h3, by rw [e3]; exact h4, by rw [e5]; exact h6⟩
theorem isStep_m {x z : PD} (hV : ScV x) (hS : SEq x z) {p d s : Nat} (hp : p < cnp x) (hd : d ≤ 64) (hs : s ≤ 100) : ∃ r, f_X6_isStep z (nI s) (nI p) (nI d) = some r ∧ ((opn x p d s ∧ r = 1) ∨ (¬ opn x p d s ∧ r = 0)) := by
  have hnj := hV.nj
  have hnp := hV.np.2
  obtain ⟨-, k2, -⟩ := hV.pc hp
  obtain ⟨m1, -⟩ := hS.pc hV hp
  unfold f_X6_isStep
  rw [hS.nj hV]
  simp only [is100 hs, inR_nI (show p < 20 by omega) (by decide), gd_t, nI_clamp (show p < 2 ^ 31 by omega), m1]
  by_cases h100 : s = 100
  · rw [if_pos h100]
    have e3 : (nI (ckd x p) = 0) = (ckd x p = 0) := by
      have : (0 : Int32) = nI 0 := rfl
      rw [this]; exact propext (nI_eq (by omega) (by omega))
    simp only [e3]
    by_cases hk : ckd x p = 0
    · rw [if_pos hk]; exact ⟨1, rfl, Or.inl ⟨Or.inl ⟨h100, hk⟩, rfl⟩⟩
    · rw [if_neg hk]; exact ⟨0, rfl, Or.inr ⟨by rintro (⟨-, q⟩ | ⟨q, -⟩); exact hk q; omega, rfl⟩⟩
  · rw [if_neg h100]
    by_cases hsj : s < cnj x
    · rw [if_neg (by rw [nI_leI (by omega) (by omega)]; omega)]
      obtain ⟨-, -, -, -, hf, -, hbh, -, -, -, hs100⟩ := hV.jt hsj
      obtain ⟨h6, h7, -⟩ := hS.jt hV hsj
      simp only [inR_nI hs100 (by decide), gd_t, nI_clamp (show s < 2 ^ 31 by omega), h6, h7]
      have e3 : (nI (cfr x s) = nI p) = (cfr x s = p) := propext (nI_eq (by omega) (by omega))
      have e4 : (nI (cbh x s) ≤ nI d) = (cbh x s ≤ d) := propext (nI_leI (by omega) (by omega))
      simp only [e3, e4]
      by_cases a1 : cfr x s = p
      · rw [if_pos a1]
        by_cases a2 : cbh x s ≤ d
        · rw [if_pos a2]; exact ⟨0, rfl, Or.inr ⟨by rintro (⟨q, -⟩ | ⟨-, -, q⟩); exact h100 q; omega, rfl⟩⟩
        · rw [if_neg a2]; exact ⟨1, rfl, Or.inl ⟨Or.inr ⟨hsj, a1, by omega⟩, rfl⟩⟩
      · rw [if_neg a1]; exact ⟨0, rfl, Or.inr ⟨by rintro (⟨q, -⟩ | ⟨-, q, -⟩); exact h100 q; exact a1 q, rfl⟩⟩
    · rw [if_pos (by rw [nI_leI (by omega) (by omega)]; omega)]
      exact ⟨0, rfl, Or.inr ⟨by rintro (⟨q, -⟩ | ⟨q, -⟩); exact h100 q; exact hsj q, rfl⟩⟩
theorem leads_m {x z : PD} (hV : ScV x) (hS : SEq x z) {p d s : Nat} (ho : opn x p d s) : f_X6_leads z (nI s) (nI p) = some (nI (lds x p s)) := by
  have hnj := hV.nj.2
  unfold f_X6_leads lds
  rcases ho with ⟨h, -⟩ | ⟨h, -⟩
  · rw [h, if_pos (by decide), if_pos rfl]
  · obtain ⟨-, -, -, -, -, -, -, -, -, -, hs100⟩ := hV.jt h
    obtain ⟨-, -, h8, -⟩ := hS.jt hV h
    simp only [is100 (show s ≤ 100 by omega)]
    rw [if_neg (show ¬ s = 100 by omega), if_neg (show ¬ s = 100 by omega), inR_nI hs100 (by decide), gd_t, nI_clamp (show s < 2 ^ 31 by omega), h8]
theorem stepCost_m {x z : PD} (hV : ScV x) (hS : SEq x z) {p d o s : Nat} (hp : p < cnp x) (hd : d < cbs x p) (hoo : o < cbt x p) (ho : opn x p d s) : f_X6_stepCost z (nI s) (nI p) (nI d) (nI o) = some (lN (scst x p d o s)) := by
  have hnj := hV.nj.2
  have hnp := hV.np.2
  obtain ⟨-, -, -, k4, k5, -, k7, k8, -, -, -⟩ := hV.pc hp
  obtain ⟨m1, m2, m3, m5⟩ := hS.pc hV hp
  have hpl := hS.pL hV
  have hpa := hS.pA hV
  have ep : rA z 10 (Int32.toNatClampNeg 1) = nI (cpL x) := hpl.1
  have ep0 : rA z 10 (Int32.toNatClampNeg 0) = nI (cpA x) := hpa.1
  have un : ∀ B, d < B → B ≤ 64 → f_X6_until z (nI p) (nI d) (nI o) (nI B) = some (lN ((B - d) * cbt x p - o)) := by
    intro B hdB hB
    obtain ⟨q1, q2⟩ := untl (x := x) (p := p) hdB hoo hB k8
    unfold f_X6_until
    rw [inR_nI (show p < 20 by omega) (by decide), gd_t, nI_clamp (show p < 2 ^ 31 by omega), m3, pk_sub (by omega), nI_l (show B - d < 2 ^ 31 by omega), nI_l (show cbt x p < 2 ^ 31 by omega), nI_l (show o < 2 ^ 31 by omega), lN_mul, lN_sub q1]
  unfold f_X6_stepCost scst own bhd
  rcases ho with ⟨h, -⟩ | ⟨h, hf, hdb⟩
  · rw [h, if_pos (by decide), if_pos rfl, if_pos rfl, inR_nI (show p < 20 by omega) (by decide), gd_t, nI_clamp (show p < 2 ^ 31 by omega), m2, un _ hd k5, bn1_s, ep, ep0, lit24, nI_l (show cpA x < 2 ^ 31 by omega), nI_l (show cpL x < 2 ^ 31 by omega), lN_mul, lN_mul, lN_add]
  · obtain ⟨-, -, -, -, -, -, hbh, hcs, -, -, hs100⟩ := hV.jt h
    obtain ⟨-, h7, -, h9, -⟩ := hS.jt hV h
    simp only [is100 (show s ≤ 100 by omega)]
    rw [if_neg (show ¬ s = 100 by omega), if_neg (show ¬ s = 100 by omega), if_neg (show ¬ s = 100 by omega), inR_nI hs100 (by decide), gd_t, gd_t, nI_clamp (show s < 2 ^ 31 by omega), h7, un _ hdb hbh, bn1_s, ep, h9, lit24, nI_l (show ccs x s < 2 ^ 31 by omega), nI_l (show cpL x < 2 ^ 31 by omega), lN_mul, lN_mul, lN_add]
theorem vls_bd2 {x : PD} (hV : ScV x) {t : Tb} (hB : bdT 3000 t) {p d o s : Nat} {v : Nat × Nat} (hp : p < cnp x) (h : cand x t p d o s v) : v.1 < 1000000000000 ∧ v.2 ≤ 3001 ∧ 1 ≤ v.2 := by
  refine ⟨?_, (vls_bd hV hB hp h).2⟩
  obtain ⟨ho, hv⟩ := h
  unfold vls at hv
  cases hto : t (lds x p s) with
  | none => rw [hto] at hv; cases hv
  | some u =>
    rw [hto] at hv
    cases hv
    have hbu := hB _ _ hto
    have hWM : u.1 ≤ 3000 * WM := Nat.le_trans hbu.2 (Nat.mul_le_mul (by omega) (Nat.le_refl _))
    unfold WM at hWM
    obtain ⟨-, -, -, k4, k5, -, -, k8, -, -, -⟩ := hV.pc hp
    have h1 : own x s ≤ 99 := by
      unfold own
      rcases ho with ⟨q, -⟩ | ⟨q, -⟩
      · rw [if_pos q]; exact hV.pA.2
      · have := hV.nj.2
        rw [if_neg (by omega)]; exact (hV.jt q).2.2.2.2.2.2.2.1
    have h2 : bhd x p s ≤ 64 := by
      unfold bhd
      rcases ho with ⟨q, -⟩ | ⟨q, -⟩
      · rw [if_pos q]; exact k5
      · have := hV.nj.2
        rw [if_neg (by omega)]; exact (hV.jt q).2.2.2.2.2.2.1
    have h3 : (bhd x p s - d) * cbt x p ≤ 64 * 2400 := Nat.mul_le_mul (by omega) k8
    have h4 : cpL x * ((bhd x p s - d) * cbt x p - o) ≤ 99 * (64 * 2400) := Nat.mul_le_mul hV.pL.2 (by omega)
    unfold scst
    simp only
    omega
theorem lFar : (1000000000000 : Int64) = lN 1000000000000 := by decide
def swZ (z : PD) (W : Nat → Int32) (len : Nat) : PD := wI (wA z 16 W) 21 (nI len)
theorem swZ_swZ {x : PD} {W W' : Nat → Int32} {l l' : Nat} : swZ (swZ x W l) W' l' = swZ x W' l' := by
  unfold swZ wI wA
  simp only [bx_uu]
/-- one step searched by its value -/
theorem search_m {x z : PD} (hV : ScV x) (hS : SEq x z) {t : Tb} (hT : TabM (cnp x) (rB z 20) (rA z 21) t) (hB : bdT 3000 t) (k : PD → Int32 → Int32 → Int32 → Int64 → Int32 → Option PD) {p d o s : Nat} {v u : Nat × Nat} {W : Nat → Int32} {len : Nat} (hl : len < 32) (hp : p < cnp x) (hd : d < cbs x p) (hoo : o < cbt x p) (hc : cand x t p d o s v) (hu : t (lds x p s) = some u) (hno : ∀ s', s' < s → ¬ cand x t p d o s' v) : ∀ (n i : Nat), s - i < n → i ≤ s → f_X6_finds_b216 k n (swZ z W len) (nI p) (nI d) (nI o) (lN v.1) (nI v.2) (nI i) = k (swZ z (upd W len (nI s)) (len + 1)) (nI (lds x p s)) 0 0 (lN u.1) (nI u.2) := by
  have hnp := hV.np.2
  have hnj := hV.nj.2
  have hs100 : s ≤ 100 := by rcases hc.1 with ⟨h, -⟩ | ⟨h, -⟩ <;> omega
  obtain ⟨-, -, -, -, k5, -, -, -, -, -, -⟩ := hV.pc hp
  have hbv := vls_bd2 hV hB hp hc
  have hSz : SEq x (swZ z W len) := hS
  intro n
  induction n with
  | zero => intro i h; omega
  | succ n ih =>
    intro i hn hi
    rw [f_X6_finds_b216]
    have next : ¬ cand x t p d o i v → f_X6_finds_b216 k n (swZ z W len) (nI p) (nI d) (nI o) (lN v.1) (nI v.2) (nI i + 1) = k (swZ z (upd W len (nI s)) (len + 1)) (nI (lds x p s)) 0 0 (lN u.1) (nI u.2) := by
      intro hno'
      rw [nI_1]
      have his : i < s := by
        rcases Nat.lt_or_ge i s with q | q
        · exact q
        · have : i = s := by omega
          rw [this] at hno'
          exact absurd hc hno'
      exact ih (i + 1) (by omega) (by omega)
    obtain ⟨r, hr, hrr⟩ := isStep_m hV hSz (p := p) (d := d) (s := i) hp (by omega) (by omega)
    rw [hr, bn1_s]
    rcases hrr with ⟨ho, rfl⟩ | ⟨ho, rfl⟩
    · rw [if_neg (by decide)]
      have hlt := lds_lt hV hp ho
      have hld := leads_m hV hSz ho
      have hsc := stepCost_m hV hSz hp hd hoo ho
      have rB' : rB (swZ z W len) 20 = rB z 20 := rfl
      have rG' : rA (swZ z W len) 21 = rA z 21 := rfl
      have hTt := hT (lds x p i) hlt
      rw [hld, bn1_s]
      simp only [inR_nI (show lds x p i < 20 by omega) (by decide), gd_t, nI_clamp (show lds x p i < 2 ^ 31 by omega), bn1_s, hsc, lg_ge0, lg_eq0, rB', rG']
      cases hto : t (lds x p i) with
      | none =>
        rw [hto] at hTt
        simp only at hTt
        rw [if_pos (by rw [hTt]; decide)]
        refine next ?_
        rintro ⟨-, h2⟩
        unfold vls at h2
        rw [hto] at h2
        cases h2
      | some u' =>
        rw [hto] at hTt
        simp only at hTt
        have hci : cand x t p d o i (u'.1 + scst x p d o i, u'.2 + 1) := ⟨ho, by unfold vls; rw [hto]⟩
        have hbi := vls_bd2 hV hB hp hci
        simp only at hbi
        rw [hTt.1, hTt.2, if_neg (by rw [lFar, pk_lLE (by omega) (by omega)]; omega), nI_1, lN_add]
        have e1 : (nI (u'.2 + 1) = nI v.2) = (u'.2 + 1 = v.2) := propext (nI_eq (by omega) (by omega))
        have e2 : (lN (scst x p d o i + u'.1) = lN v.1) = (scst x p d o i + u'.1 = v.1) := propext (pk_lEQ (by omega) (by omega))
        simp only [e1, e2]
        by_cases a1 : u'.2 + 1 = v.2
        · rw [if_pos a1]
          by_cases a2 : scst x p d o i + u'.1 = v.1
          · rw [if_pos a2]
            have hiv : cand x t p d o i v := by
              have : (u'.1 + scst x p d o i, u'.2 + 1) = v := by rw [Nat.add_comm, a1, a2]
              rw [← this]; exact hci
            have hie : i = s := by
              rcases Nat.lt_or_ge i s with q | q
              · exact absurd hiv (hno i q)
              · omega
            subst hie
            rw [hto] at hu
            cases hu
            have e21 : rI (swZ z W len) 21 = nI len := rfl
            have eW : rA (swZ z W len) 16 = W := rfl
            rw [e21, inR_nI hl (by decide), gd_t, nI_clamp (show len < 2 ^ 31 by omega), eW]
            simp only [letv_e]
            have e22 : rI (wA (swZ z W len) 16 (upd W len (nI i))) 21 = nI len := rfl
            rw [e22, nI_1]
            have e23 : wI (wA (swZ z W len) 16 (upd W len (nI i))) 21 (nI (len + 1)) = swZ z (upd W len (nI i)) (len + 1) := swZ_swZ
            rw [e23, leads_m (z := swZ z (upd W len (nI i)) (len + 1)) hV hS ho, bn1_s]
            have rB2 : rB (swZ z (upd W len (nI i)) (len + 1)) 20 = rB z 20 := rfl
            have rG2 : rA (swZ z (upd W len (nI i)) (len + 1)) 21 = rA z 21 := rfl
            rw [inR_nI (show lds x p i < 20 by omega) (by decide), gd_t, gd_t, nI_clamp (show lds x p i < 2 ^ 31 by omega), rB2, rG2, hTt.1, hTt.2]
          · rw [if_neg a2]
            refine next (fun h => a2 ?_)
            have := cand_fun h hci
            rw [this, Nat.add_comm]
        · rw [if_neg a1]
          refine next (fun h => a1 ?_)
          have := cand_fun h hci
          rw [this]
    · rw [if_pos rfl]
      exact next (fun h => ho h.1)
theorem scst_w {x : PD} {q j : Nat} (hj : j < 100) (hf : cfr x j = q) : scst x q 0 0 j = wgt x 24 (cpL x) j := by
  unfold scst own bhd wgt
  rw [if_neg (by omega), if_neg (by omega), hf]
  rfl
theorem cand_onT {x : PD} (hV : ScV x) {t : Tb} {q j : Nat} {v : Nat × Nat} (hj : j < 100) (hq : t q = some v) : cand x t q 0 0 j v ↔ onT x t q j := by
  constructor
  · rintro ⟨ho, hv⟩
    rcases ho with ⟨h, -⟩ | ⟨h, hf, -⟩
    · omega
    · unfold vls lds at hv
      rw [if_neg (show ¬ j = 100 by omega)] at hv
      cases hto : t (ctt x j) with
      | none => rw [hto] at hv; cases hv
      | some u =>
        rw [hto] at hv
        simp only [scst_w hj hf] at hv
        exact ⟨h, hf, u, hto, by rw [hq, ← hv]⟩
  · rintro ⟨h, hf, u, h1, h2⟩
    have hq2 := (hV.2.2.2.1 j h).2.2.2.2.1
    refine ⟨Or.inr ⟨h, hf, by omega⟩, ?_⟩
    unfold vls lds
    rw [if_neg (show ¬ j = 100 by omega), h1]
    simp only [scst_w hj hf]
    rw [← h2, hq]
theorem follow_m {x z : PD} (hV : ScV x) (hS : SEq x z) {m : Nat} {t : Tb} (hT : TabM (cnp x) (rB z 20) (rA z 21) t) (hB : bdT 3000 t) (hF : FinT x 24 (cpL x) m t) : ∀ (n f len q c : Nat) (W : Nat → Int32), n < f → len + n ≤ 32 → q < cnp x → t q = some (c, n) → ∃ W', f_X6_finds_b208 f (swZ z W len) (nI q) 0 0 (lN c) (nI n) = some (swZ z W' (len + n)) ∧ Ch x t W' n len q ∧ ∀ i, i < len → W' i = W i := by
  have hnp := hV.np.2
  have hnj := hV.nj.2
  intro n
  induction n with
  | zero =>
    intro f len q c W hf hl hq hc
    cases f with
    | zero => omega
    | succ f =>
      rw [f_X6_finds_b208, if_pos (by decide)]
      exact ⟨W, rfl, ⟨hq, c, hc⟩, fun i _ => rfl⟩
  | succ n ih =>
    intro f len q c W hf hl hq hc
    cases f with
    | zero => omega
    | succ f =>
      obtain ⟨-, -, -, k4, k5, -, k7, -⟩ := hV.pc hq
      have hsh := Fin_short hV hF hq hc
      simp only at hsh
      obtain ⟨j, hj⟩ := Fst_ex hV hF hq hc
      obtain ⟨hj1, hjf, u, hu1, hu2⟩ := hj.1
      obtain ⟨-, -, -, -, -, ht, -, -, -, -, hj100⟩ := hV.jt hj1
      rw [hc] at hu2
      cases hu2
      rw [f_X6_finds_b208, if_neg (nI_nle (by omega) (by omega))]
      have hld : lds x q j = ctt x j := by unfold lds; rw [if_neg (by omega)]
      have hs := search_m hV hS hT hB (f_X6_finds_b208 f) (p := q) (d := 0) (o := 0) (s := j) (v := (u.1 + wgt x 24 (cpL x) j, u.2 + 1)) (u := u) (W := W) (len := len) (by omega) hq (by omega) (by omega) ((cand_onT hV hj100 hc).mpr hj.1) (by rw [hld]; exact hu1) (fun s' hs' h => hj.2 s' hs' ((cand_onT hV (by omega) hc).mp h)) FU 0 (by unfold FU; omega) (Nat.zero_le _)
      have hs' : f_X6_finds_b216 (f_X6_finds_b208 f) FU (swZ z W len) (nI q) 0 0 (lN (u.1 + wgt x 24 (cpL x) j)) (nI (u.2 + 1)) 0 = f_X6_finds_b208 f (swZ z (upd W len (nI j)) (len + 1)) (nI (lds x q j)) 0 0 (lN u.1) (nI u.2) := hs
      rw [hs', hld]
      obtain ⟨W', h1, h2, h3⟩ := ih f (len + 1) (ctt x j) u.1 (upd W len (nI j)) (by omega) (by omega) ht hu1
      refine ⟨W', by rw [h1]; congr 2; omega, ⟨hq, ⟨_, hc⟩, j, ?_, hj, h2⟩, fun i hi => ?_⟩
      · rw [h3 len (by omega)]; simp [upd]
      · rw [h3 i (by omega)]; simp only [upd, if_neg (show ¬ i = len by omega)]
