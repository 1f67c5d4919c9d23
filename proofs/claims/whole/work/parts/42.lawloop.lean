def Op_piece (Rel : Nat → PD → PD → Prop) : Prop := ∀ (c : Nat) (x z : PD) (p1 p2 p3 p4 p5 : Int32), c < 512 → Rel c x z → ∃ (r : Int32) (x1 z1 : PD), f_X5_piece x p1 p2 p3 p4 p5 = some (r, x1) ∧ f_X6_piece z p1 p2 p3 p4 p5 = some (r, z1) ∧ Rel (c + 1) x1 z1
def Op_joint (Rel : Nat → PD → PD → Prop) : Prop := ∀ (c : Nat) (x z : PD) (p1 p2 p3 p4 : Int32), c < 512 → Rel c x z → (∃ (r : Int32) (x1 z1 : PD), f_X5_joint x p1 p2 p3 p4 = some (r, x1) ∧ f_X6_joint z p1 p2 p3 p4 = some (r, z1) ∧ rI z1 0 = 0 ∧ Rel (c + 1) x1 z1) ∨ (g_X5_joint x p1 p2 p3 p4 = some 1 ∧ ∃ (r : Int32) (z1 : PD), f_X6_joint z p1 p2 p3 p4 = some (r, z1) ∧ rI z1 0 = 1 ∧ Rel (c + 1) x z1)
def Op_price (Rel : Nat → PD → PD → Prop) : Prop := ∀ (c : Nat) (x z : PD) (p1 p2 : Int32), c < 512 → Rel c x z → (∃ (r : Int32) (x1 z1 : PD), f_X5_price x p1 p2 = some (r, x1) ∧ f_X6_price z p1 p2 = some (r, z1) ∧ rI z1 0 = 0 ∧ Rel (c + 1) x1 z1) ∨ (g_X5_price x p1 p2 = some 2 ∧ ∃ (r : Int32) (z1 : PD), f_X6_price z p1 p2 = some (r, z1) ∧ rI z1 0 = 1 ∧ Rel (c + 1) x z1)
def Op_play (Rel : Nat → PD → PD → Prop) : Prop := ∀ (c : Nat) (x z : PD) (p1 : Int32), c < 512 → Rel c x z → (∃ (r : Int32) (x1 z1 : PD), f_X5_play x p1 = some (r, x1) ∧ f_X6_play z p1 = some (r, z1) ∧ rI z1 0 = 0 ∧ Rel (c + 1) x1 z1) ∨ (g_X5_play x p1 = some 1 ∧ ∃ (r : Int32) (z1 : PD), f_X6_play z p1 = some (r, z1) ∧ rI z1 0 = 1 ∧ Rel (c + 1) x z1)
def Op_ask (Rel : Nat → PD → PD → Prop) : Prop := ∀ (c : Nat) (x z : PD) (p1 : Int32), c < 512 → Rel c x z → (∃ (r : Int32) (x1 z1 : PD), f_X5_ask x p1 = some (r, x1) ∧ f_X6_ask z p1 = some (r, z1) ∧ rI z1 0 = 0 ∧ Rel (c + 1) x1 z1) ∨ (g_X5_ask x p1 = some 2 ∧ ∃ (r : Int32) (z1 : PD), f_X6_ask z p1 = some (r, z1) ∧ rI z1 0 = 1 ∧ Rel (c + 1) x z1)
def Op_leave (Rel : Nat → PD → PD → Prop) : Prop := ∀ (c : Nat) (x z : PD), c < 512 → Rel c x z → ∃ (r : Int32) (x1 z1 : PD), f_X5_leave x = some (r, x1) ∧ f_X6_leave z = some (r, z1) ∧ Rel (c + 1) x1 z1
def Op_way (Rel : Nat → PD → PD → Prop) : Prop := ∀ (c : Nat) (x z : PD) (p1 : Int32), c < 512 → Rel c x z → (∃ (r : Int32) (z1 : PD), f_X5_way x p1 = some r ∧ f_X6_way z p1 = some (r, z1) ∧ rI z1 0 = 0 ∧ Rel (c + 1) x z1) ∨ (g_X5_way x p1 = some 1 ∧ ∃ (r : Int32) (z1 : PD), f_X6_way z p1 = some (r, z1) ∧ rI z1 0 = 1 ∧ Rel (c + 1) x z1)
def Op_cost (Rel : Nat → PD → PD → Prop) : Prop := ∀ (c : Nat) (x z : PD), c < 512 → Rel c x z → ∃ (r : Int64) (z1 : PD), f_X5_cost x = some r ∧ f_X6_cost z = some (r, z1) ∧ Rel (c + 1) x z1
def Op_reach (Rel : Nat → PD → PD → Prop) : Prop := ∀ (c : Nat) (x z : PD) (p1 p2 : Int32), c < 512 → Rel c x z → (∃ (r : Int64) (x1 z1 : PD), f_X5_reach x p1 p2 = some (r, x1) ∧ f_X6_reach z p1 p2 = some (r, z1) ∧ rI z1 0 = 0 ∧ Rel (c + 1) x1 z1) ∨ (g_X5_reach x p1 p2 = some 1 ∧ ∃ (r : Int64) (z1 : PD), f_X6_reach z p1 p2 = some (r, z1) ∧ rI z1 0 = 1 ∧ Rel (c + 1) x z1) ∨ (g_X5_reach x p1 p2 = some 2 ∧ ∃ (r : Int64) (z1 : PD), f_X6_reach z p1 p2 = some (r, z1) ∧ rI z1 0 = 2 ∧ Rel (c + 1) x z1)
def Op_lacks (Rel : Nat → PD → PD → Prop) : Prop := ∀ (c : Nat) (x z : PD) (p1 p2 : Int32), c < 512 → Rel c x z → (∃ (r : Int32) (x1 z1 : PD), f_X5_lacks x p1 p2 = some (r, x1) ∧ f_X6_lacks z p1 p2 = some (r, z1) ∧ rI z1 0 = 0 ∧ Rel (c + 1) x1 z1) ∨ (g_X5_lacks x p1 p2 = some 1 ∧ ∃ (r : Int32) (z1 : PD), f_X6_lacks z p1 p2 = some (r, z1) ∧ rI z1 0 = 1 ∧ Rel (c + 1) x z1) ∨ (g_X5_lacks x p1 p2 = some 2 ∧ ∃ (r : Int32) (z1 : PD), f_X6_lacks z p1 p2 = some (r, z1) ∧ rI z1 0 = 2 ∧ Rel (c + 1) x z1)
def Op_layer (Rel : Nat → PD → PD → Prop) : Prop := ∀ (c : Nat) (x z : PD) (p1 p2 : Int32), c < 512 → Rel c x z → (∃ (r : Int32) (x1 z1 : PD), f_X5_layer x p1 p2 = some (r, x1) ∧ f_X6_layer z p1 p2 = some (r, z1) ∧ rI z1 0 = 0 ∧ Rel (c + 1) x1 z1) ∨ (g_X5_layer x p1 p2 = some 1 ∧ ∃ (r : Int32) (z1 : PD), f_X6_layer z p1 p2 = some (r, z1) ∧ rI z1 0 = 1 ∧ Rel (c + 1) x z1)
def Op_sting (Rel : Nat → PD → PD → Prop) : Prop := ∀ (c : Nat) (x z : PD) (p1 : Int32), c < 512 → Rel c x z → (∃ (r : Int32) (x1 z1 : PD), f_X5_sting x p1 = some (r, x1) ∧ f_X6_sting z p1 = some (r, z1) ∧ rI z1 0 = 0 ∧ Rel (c + 1) x1 z1) ∨ (g_X5_sting x p1 = some 1 ∧ ∃ (r : Int32) (z1 : PD), f_X6_sting z p1 = some (r, z1) ∧ rI z1 0 = 1 ∧ Rel (c + 1) x z1)
def Op_go (Rel : Nat → PD → PD → Prop) : Prop := ∀ (c : Nat) (x z : PD) (p1 : Int32), c < 512 → Rel c x z → (∃ (r : Int64) (x1 z1 : PD), f_X5_go x p1 = some (r, x1) ∧ f_X6_go z p1 = some (r, z1) ∧ rI z1 0 = 0 ∧ Rel (c + 1) x1 z1) ∨ (g_X5_go x p1 = some 2 ∧ ∃ (r : Int64) (z1 : PD), f_X6_go z p1 = some (r, z1) ∧ rI z1 0 = 1 ∧ Rel (c + 1) x z1)
def Op_now (Rel : Nat → PD → PD → Prop) : Prop := ∀ (c : Nat) (x z : PD) (p1 : Int32), c < 512 → Rel c x z → (∃ (r : Int32) (z1 : PD), f_X5_now x p1 = some r ∧ f_X6_now z p1 = some (r, z1) ∧ rI z1 0 = 0 ∧ Rel (c + 1) x z1) ∨ (g_X5_now x p1 = some 1 ∧ ∃ (r : Int32) (z1 : PD), f_X6_now z p1 = some (r, z1) ∧ rI z1 0 = 1 ∧ Rel (c + 1) x z1)
def Op_level (Rel : Nat → PD → PD → Prop) : Prop := ∀ (c : Nat) (x z : PD) (p1 : Int32), c < 512 → Rel c x z → (∃ (r : Int32) (z1 : PD), f_X5_level x p1 = some r ∧ f_X6_level z p1 = some (r, z1) ∧ rI z1 0 = 0 ∧ Rel (c + 1) x z1) ∨ (g_X5_level x p1 = some 1 ∧ ∃ (r : Int32) (z1 : PD), f_X6_level z p1 = some (r, z1) ∧ rI z1 0 = 1 ∧ Rel (c + 1) x z1)
def Op_log (Rel : Nat → PD → PD → Prop) : Prop := ∀ (c : Nat) (x z : PD) (p1 p2 : Int32), c < 512 → Rel c x z → (∃ (r : Int64) (z1 : PD), f_X5_log x p1 p2 = some r ∧ f_X6_log z p1 p2 = some (r, z1) ∧ rI z1 0 = 0 ∧ Rel (c + 1) x z1) ∨ (g_X5_log x p1 p2 = some 1 ∧ ∃ (r : Int64) (z1 : PD), f_X6_log z p1 p2 = some (r, z1) ∧ rI z1 0 = 1 ∧ Rel (c + 1) x z1)
def Op_keep (Rel : Nat → PD → PD → Prop) : Prop := ∀ (c : Nat) (x z : PD) (p1 : Int32), c < 512 → Rel c x z → (p1 = 0 ∧ ∃ (r : Int32) (x1 z1 : PD), f_X5_keep_v0 x = some (r, x1) ∧ f_X6_keep z p1 = some (r, z1) ∧ rI z1 0 = 0 ∧ Rel (c + 1) x1 z1) ∨ (p1 = 1 ∧ ∃ (r : Int32) (x1 z1 : PD), f_X5_keep_v1 x = some (r, x1) ∧ f_X6_keep z p1 = some (r, z1) ∧ rI z1 0 = 0 ∧ Rel (c + 1) x1 z1) ∨ (p1 = 2 ∧ ∃ (r : Int32) (x1 z1 : PD), f_X5_keep_v2 x = some (r, x1) ∧ f_X6_keep z p1 = some (r, z1) ∧ rI z1 0 = 0 ∧ Rel (c + 1) x1 z1) ∨ (p1 = 3 ∧ ∃ (r : Int32) (x1 z1 : PD), f_X5_keep_v3 x = some (r, x1) ∧ f_X6_keep z p1 = some (r, z1) ∧ rI z1 0 = 0 ∧ Rel (c + 1) x1 z1) ∨ (g_X5_keep x p1 = some 2 ∧ ∃ (r : Int32) (z1 : PD), f_X6_keep z p1 = some (r, z1) ∧ rI z1 0 = 1 ∧ Rel (c + 1) x z1)
def Op_goOn (Rel : Nat → PD → PD → Prop) : Prop := ∀ (c : Nat) (x z : PD) (p1 : Int32), c < 512 → Rel c x z → (p1 = 0 ∧ ∃ (r : Int32) (x1 z1 : PD), f_X5_goOn_v0 x = some (r, x1) ∧ f_X6_goOn z p1 = some (r, z1) ∧ rI z1 0 = 0 ∧ Rel (c + 1) x1 z1) ∨ (p1 = 1 ∧ ∃ (r : Int32) (x1 z1 : PD), f_X5_goOn_v1 x = some (r, x1) ∧ f_X6_goOn z p1 = some (r, z1) ∧ rI z1 0 = 0 ∧ Rel (c + 1) x1 z1) ∨ (p1 = 2 ∧ ∃ (r : Int32) (x1 z1 : PD), f_X5_goOn_v2 x = some (r, x1) ∧ f_X6_goOn z p1 = some (r, z1) ∧ rI z1 0 = 0 ∧ Rel (c + 1) x1 z1) ∨ (p1 = 3 ∧ ∃ (r : Int32) (x1 z1 : PD), f_X5_goOn_v3 x = some (r, x1) ∧ f_X6_goOn z p1 = some (r, z1) ∧ rI z1 0 = 0 ∧ Rel (c + 1) x1 z1) ∨ (g_X5_goOn x p1 = some 2 ∧ ∃ (r : Int32) (z1 : PD), f_X6_goOn z p1 = some (r, z1) ∧ rI z1 0 = 1 ∧ Rel (c + 1) x z1)
def LawPure (Rel : Nat → PD → PD → Prop) : Prop := (∀ (c : Nat) (x z : PD), Rel c x z → Rel (c + 1) x z) ∧ (∀ (c : Nat) (x z : PD) (g : Nat → Int64), Rel c x z → Rel c (wB x 45 g) z) ∧ Op_piece Rel ∧ Op_joint Rel ∧ Op_price Rel ∧ Op_play Rel ∧ Op_ask Rel ∧ Op_leave Rel ∧ Op_way Rel ∧ Op_cost Rel ∧ Op_reach Rel ∧ Op_lacks Rel ∧ Op_layer Rel ∧ Op_sting Rel ∧ Op_go Rel ∧ Op_now Rel ∧ Op_level Rel ∧ Op_log Rel ∧ Op_keep Rel ∧ Op_goOn Rel
theorem lw_gt {L c : Nat} (hL : L ≤ 3072) (hc : 6 * c ≤ L) : (Int32.ofNat L - 6 < nI (6 * c)) ↔ L < 6 * c + 6 := by
  have h1 : (Int32.ofNat L - 6).toInt = (L : Int) - 6 := pk_sub_toInt (a := L) (b := 6) (by omega) (by decide)
  rw [Int32.lt_iff_toInt_lt, h1, nI_toInt (by omega)]
  omega
theorem lw_in {L c k : Nat} (hL : L ≤ 3072) (h : 6 * c + 6 ≤ L) (hk : k < 6) : vp_in (nI (6 * c) + nI k) L := by
  rw [nI_add]
  exact vp_in_nI (by omega) (by omega)
theorem lw_x2 (x1 : PD) (v : Int64) : rB (wB x1 45 (vp_updL (rB x1 45) (Int32.toNatClampNeg ((0 : Int32))) v)) 45 0 = v := rfl
set_option maxHeartbeats 8000000 in
set_option maxRecDepth 100000 in
theorem law_loop {p : Program} {e : Env} {s : State} {m : MethodId} {below : List Frame} {meth : Method} {c : Code} {l : Launch} {b L : Nat} {xs : Nat → Int32} {D : va_G} {y : CY} {a am : Nat → Nat} {Rel : Nat → PD → PD → Prop} (HR : LawPure Rel) (hL : L ≤ 3072) (X : mpX p s m #[Value.ref b] meth c code 8 ret RL) (hlt : l.stackTraces = false) (hT : thE (fun q => s.heap.size ≤ q) s s.heap) (hK : va_K D vwCl (mpT y) s) (hX : va_X b L xs s s.heap) (hbl : b < s.heap.size) :
    ∀ (n cN : Nat) (x z : PD) (H : Heap) (locs : List Loc) (ls : Array Slot), 6 * cN ≤ L → 513 ≤ cN + n → Rel cN x z → va_P D vwCl (pw y a x ++ mw y am z) H → va_D (fun q => s.heap.size ≤ q) (pw y a x ++ mw y am z) → va_S (fun q => s.heap.size ≤ q) s.heap H locs → lv_has ls 8 [(0, .ref b), (1, .ref (a 0)), (2, .ref (am 0)), (3, .ref (a 45)), (4, .int (nI (6 * cN)))] → W p l e room_1 s m #[Value.ref b] below meth c H locs (69 + cN) (3645 + 6 * cN) (lw_Z below #[Value.ref b] s) (F0 m 23 ls []) := by
  obtain ⟨⟨hx, hb, hml, hown, hts⟩, hr, hlk⟩ := id X
  have hA : ∀ q : Nat, s.heap.size ≤ q → (fun q : Nat => s.heap.size ≤ q) q := fun _ h => h
  have hbA : ¬ (fun q : Nat => s.heap.size ≤ q) b := Nat.not_le.mpr hbl
  obtain ⟨hSu, hOu, h_piece, h_joint, h_price, h_play, h_ask, h_leave, h_way, h_cost, h_reach, h_lacks, h_layer, h_sting, h_go, h_now, h_level, h_log, h_keep, h_goOn⟩ := HR
  intro n
  induction n with
  | zero =>
    intro cN x z H locs ls h1 h2
    exact absurd h2 (by omega)
  | succ n ih =>
    intro cN x z H locs ls h1 h2 hRel hP hD hS hl
    refine lv_iload hx hb dL_law_23 (lv_at hl 4 rfl) ?_
    refine lv_aload_n hx hb dL_law_25 rfl (lv_at hl 0 rfl) ?_
    refine va_slen hx hb hX hbl hbA hS dL_law_26 ?_
    refine lv_bipush (v := 6) hx hb dL_law_27 (by decide) ?_
    refine lv_isub hx hb dL_law_29 ?_
    refine lv_icmp_gt (tgt := 1188) hx hb dL_law_30 (by decide) (fun hc => ?_) (fun hc => ?_)
    · refine lv_iconst (v := 1) hx hb dL_law_1188 (by decide) ?_
      refine va_forget (fun q hq => hS.2.2 q hq) ?_
      refine W.widen (k := 601024) (n := 7293034) (by omega) (by omega) ?_
      exact lw_ret hx hb hr hlk dL_law_1189
    · have h6 : 6 * cN + 6 ≤ L := by
        rw [lw_gt hL h1] at hc
        omega
      have hcN : cN < 512 := by omega
      have hi0 : vp_in (nI (6 * cN)) L := vp_in_nI (by omega) (by omega)
      have hi1 : vp_in (nI (6 * cN) + 1) L := lw_in (k := 1) hL h6 (by decide)
      have hi2 : vp_in (nI (6 * cN) + 2) L := lw_in (k := 2) hL h6 (by decide)
      have hi3 : vp_in (nI (6 * cN) + 3) L := lw_in (k := 3) hL h6 (by decide)
      have hi4 : vp_in (nI (6 * cN) + 4) L := lw_in (k := 4) hL h6 (by decide)
      have hi5 : vp_in (nI (6 * cN) + 5) L := lw_in (k := 5) hL h6 (by decide)
      have stepK : ∀ (x' z' : PD), Rel (cN + 1) x' z' → ∀ (H : Heap) (locs : List Loc) (ls : Array Slot), va_P D vwCl (pw y a x' ++ mw y am z') H → va_D (fun q => s.heap.size ≤ q) (pw y a x' ++ mw y am z') → va_S (fun q => s.heap.size ≤ q) s.heap H locs → lv_has ls 8 [(0, .ref b), (1, .ref (a 0)), (2, .ref (am 0)), (3, .ref (a 45)), (4, .int (nI (6 * cN)))] → W p l e room_1 s m #[Value.ref b] below meth c H locs (69 + cN + 1) (3645 + 6 * cN + 6) (lw_Z below #[Value.ref b] s) (F0 m 1182 ls []) := by
        intro x' z' hR' H locs ls hP hD hS hl
        refine lv_iinc (v := nI (6 * (cN + 1))) (lv' := [(4, .int (nI (6 * (cN + 1)))), (0, .ref b), (1, .ref (a 0)), (2, .ref (am 0)), (3, .ref (a 45))]) hx hb dL_law_1182 hl (k := 4) rfl ?_ (by decide) rfl (fun ls hl => ?_)
        · show nI (6 * cN) + nI 6 = nI (6 * (cN + 1))
          rw [nI_add, Nat.mul_add]
        refine lv_goto (tgt := 23) hx hb dL_law_1185 (by decide) ?_
        exact ih (cN + 1) x' z' H locs ls (by omega) (by omega) hR' hP hD hS (lv_sub hl [1, 2, 3, 4, 0] rfl)
      have stepN : ∀ (x' z' : PD), Rel (cN + 1) x' z' → ∀ (H : Heap) (locs : List Loc) (ls : Array Slot), va_P D vwCl (pw y a x' ++ mw y am z') H → va_D (fun q => s.heap.size ≤ q) (pw y a x' ++ mw y am z') → va_S (fun q => s.heap.size ≤ q) s.heap H locs → lv_has ls 8 [(0, .ref b), (1, .ref (a 0)), (2, .ref (am 0)), (3, .ref (a 45)), (4, .int (nI (6 * cN)))] → W p l e room_1 s m #[Value.ref b] below meth c H locs (69 + cN) (3645 + 6 * cN) (lw_Z below #[Value.ref b] s) (F0 m 1182 ls []) := fun x' z' hR' H locs ls hP hD hS hl => W.widen (k := 69 + cN + 1) (n := 3645 + 6 * cN + 6) (by omega) (by omega) (stepK x' z' hR' H locs ls hP hD hS hl)
      have hrN : 69 + cN ≤ room_1.cells ∧ 3645 + 6 * cN ≤ room_1.slots := ⟨show 69 + cN ≤ 601024 by omega, show 3645 + 6 * cN ≤ 7293034 by omega⟩
      have hrT : 69 + cN + 1 ≤ room_1.cells ∧ 3645 + 6 * cN + 6 ≤ room_1.slots := ⟨show 69 + cN + 1 ≤ 601024 by omega, show 3645 + 6 * cN + 6 ≤ 7293034 by omega⟩
      refine lv_aload_n hx hb dL_law_33 rfl (lv_at hl 0 rfl) ?_
      refine lv_iload hx hb dL_law_34 (lv_at hl 4 rfl) ?_
      refine va_sld hx hb hX hbl hbA hS hi0 dL_law_36 ?_
      refine lv_bipush (v := 31) hx hb dL_law_37 (by decide) ?_
      refine lv_iand hx hb dL_law_39 ?_
      refine lv_topi (fun v hv => ?_)
      by_cases hc0 : v = 0
      · refine lv_tableIn (off := 88) (tgt := 128) hx hb dL_law_40 (by rw [hc0]; decide) (by rw [hc0]; decide) (by rw [hc0]; rfl) (by decide) ?_
        obtain ⟨r, x1, z1, hf, hm, hR1⟩ := h_piece cN x z (xs (Int32.toNatClampNeg (nI (6 * cN) + 1))) (xs (Int32.toNatClampNeg (nI (6 * cN) + 2))) (xs (Int32.toNatClampNeg (nI (6 * cN) + 3))) (xs (Int32.toNatClampNeg (nI (6 * cN) + 4))) (xs (Int32.toNatClampNeg (nI (6 * cN) + 5))) hcN hRel
        exact lc_piece X hlt hT hK hA hX hbl hbA hf hm rfl hi1 hi2 hi3 hi4 hi5 hrN hP hD hS hl (stepN x1 z1 hR1)
      by_cases hc1 : v = 1
      · refine lv_tableIn (off := 161) (tgt := 201) hx hb dL_law_40 (by rw [hc1]; decide) (by rw [hc1]; decide) (by rw [hc1]; rfl) (by decide) ?_
        rcases h_joint cN x z (xs (Int32.toNatClampNeg (nI (6 * cN) + 1))) (xs (Int32.toNatClampNeg (nI (6 * cN) + 2))) (xs (Int32.toNatClampNeg (nI (6 * cN) + 3))) (xs (Int32.toNatClampNeg (nI (6 * cN) + 4))) hcN hRel with ⟨r, x1, z1, hf, hm, ht, hR1⟩ | ⟨hf, r, z1, hm, ht, hR1⟩
        · exact lc_joint X hlt hT hK hA hX hbl hbA (x1 := wB x1 45 (vp_updL (rB x1 45) (Int32.toNatClampNeg ((0 : Int32))) (Int32.toInt64 r))) (o0 := Int32.toInt64 r) (by unfold f_L_joint; rw [hf]; rfl) hm rfl ht rfl rfl hi1 hi2 hi3 hi4 hrN hP hD hS hl (stepN _ z1 (hOu _ _ _ _ hR1))
        · exact lc_joint_t1 X hlt hT hK hA hX hbl hbA hf hm rfl ht hi1 hi2 hi3 hi4 hrT hP hD hS hl (stepK x z1 hR1)
      by_cases hc2 : v = 2
      · refine lv_tableIn (off := 253) (tgt := 293) hx hb dL_law_40 (by rw [hc2]; decide) (by rw [hc2]; decide) (by rw [hc2]; rfl) (by decide) ?_
        rcases h_price cN x z (xs (Int32.toNatClampNeg (nI (6 * cN) + 1))) (xs (Int32.toNatClampNeg (nI (6 * cN) + 2))) hcN hRel with ⟨r, x1, z1, hf, hm, ht, hR1⟩ | ⟨hf, r, z1, hm, ht, hR1⟩
        · exact lc_price X hlt hT hK hA hX hbl hbA (x1 := wB x1 45 (vp_updL (rB x1 45) (Int32.toNatClampNeg ((0 : Int32))) (Int32.toInt64 r))) (o0 := Int32.toInt64 r) (by unfold f_L_price; rw [hf]; rfl) hm rfl ht rfl rfl hi1 hi2 hrN hP hD hS hl (stepN _ z1 (hOu _ _ _ _ hR1))
        · exact lc_price_t2 X hlt hT hK hA hX hbl hbA hf hm rfl ht hi1 hi2 hrT hP hD hS hl (stepK x z1 hR1)
      by_cases hc3 : v = 3
      · refine lv_tableIn (off := 321) (tgt := 361) hx hb dL_law_40 (by rw [hc3]; decide) (by rw [hc3]; decide) (by rw [hc3]; rfl) (by decide) ?_
        rcases h_play cN x z (xs (Int32.toNatClampNeg (nI (6 * cN) + 1))) hcN hRel with ⟨r, x1, z1, hf, hm, ht, hR1⟩ | ⟨hf, r, z1, hm, ht, hR1⟩
        · by_cases hr0 : r = 0
          · exact lc_play X hlt hT hK hA hX hbl hbA (x1 := wB x1 45 (vp_updL (rB x1 45) (Int32.toNatClampNeg ((0 : Int32))) 0)) (o0 := 0) (by unfold f_L_play; rw [hf]; exact if_pos hr0) hm rfl ht rfl ⟨fun h => rfl, fun h => absurd hr0 h⟩ hi1 hrN hP hD hS hl (stepN _ z1 (hOu _ _ _ _ hR1))
          · exact lc_play X hlt hT hK hA hX hbl hbA (x1 := wB x1 45 (vp_updL (rB x1 45) (Int32.toNatClampNeg ((0 : Int32))) 1)) (o0 := 1) (by unfold f_L_play; rw [hf]; exact if_neg hr0) hm rfl ht rfl ⟨fun h => absurd h hr0, fun h => rfl⟩ hi1 hrN hP hD hS hl (stepN _ z1 (hOu _ _ _ _ hR1))
        · exact lc_play_t1 X hlt hT hK hA hX hbl hbA hf hm rfl ht hi1 hrT hP hD hS hl (stepK x z1 hR1)
      by_cases hc4 : v = 4
      · refine lv_tableIn (off := 384) (tgt := 424) hx hb dL_law_40 (by rw [hc4]; decide) (by rw [hc4]; decide) (by rw [hc4]; rfl) (by decide) ?_
        rcases h_ask cN x z (xs (Int32.toNatClampNeg (nI (6 * cN) + 1))) hcN hRel with ⟨r, x1, z1, hf, hm, ht, hR1⟩ | ⟨hf, r, z1, hm, ht, hR1⟩
        · exact lc_ask X hlt hT hK hA hX hbl hbA (x1 := wB x1 45 (vp_updL (rB x1 45) (Int32.toNatClampNeg ((0 : Int32))) (Int32.toInt64 r))) (o0 := Int32.toInt64 r) (by unfold f_L_ask; rw [hf]; rfl) hm rfl ht rfl rfl hi1 hrN hP hD hS hl (stepN _ z1 (hOu _ _ _ _ hR1))
        · exact lc_ask_t2 X hlt hT hK hA hX hbl hbA hf hm rfl ht hi1 hrT hP hD hS hl (stepK x z1 hR1)
      by_cases hc5 : v = 5
      · refine lv_tableIn (off := 440) (tgt := 480) hx hb dL_law_40 (by rw [hc5]; decide) (by rw [hc5]; decide) (by rw [hc5]; rfl) (by decide) ?_
        obtain ⟨r, x1, z1, hf, hm, hR1⟩ := h_leave cN x z hcN hRel
        exact lc_leave X hlt hT hK hA hX hbl hbA hf hm rfl hrN hP hD hS hl (stepN x1 z1 hR1)
      by_cases hc6 : v = 6
      · refine lv_tableIn (off := 453) (tgt := 493) hx hb dL_law_40 (by rw [hc6]; decide) (by rw [hc6]; decide) (by rw [hc6]; rfl) (by decide) ?_
        rcases h_way cN x z (xs (Int32.toNatClampNeg (nI (6 * cN) + 1))) hcN hRel with ⟨r, z1, hf, hm, ht, hR1⟩ | ⟨hf, r, z1, hm, ht, hR1⟩
        · exact lc_way X hlt hT hK hA hX hbl hbA (x1 := wB x 45 (vp_updL (rB x 45) (Int32.toNatClampNeg ((0 : Int32))) (Int32.toInt64 r))) (o0 := Int32.toInt64 r) (by unfold f_L_way; rw [hf]; rfl) hm rfl ht rfl rfl hi1 hrN hP hD hS hl (stepN _ z1 (hOu _ _ _ _ hR1))
        · exact lc_way_t1 X hlt hT hK hA hX hbl hbA hf hm rfl ht hi1 hrT hP hD hS hl (stepK x z1 hR1)
      by_cases hc7 : v = 7
      · refine lv_tableIn (off := 509) (tgt := 549) hx hb dL_law_40 (by rw [hc7]; decide) (by rw [hc7]; decide) (by rw [hc7]; rfl) (by decide) ?_
        obtain ⟨r, z1, hf, hm, hR1⟩ := h_cost cN x z hcN hRel
        exact lc_cost X hlt hT hK hA hX hbl hbA hf hm rfl hrN hP hD hS hl (stepN x z1 hR1)
      by_cases hc8 : v = 8
      · refine lv_tableIn (off := 523) (tgt := 563) hx hb dL_law_40 (by rw [hc8]; decide) (by rw [hc8]; decide) (by rw [hc8]; rfl) (by decide) ?_
        rcases h_reach cN x z (xs (Int32.toNatClampNeg (nI (6 * cN) + 1))) (xs (Int32.toNatClampNeg (nI (6 * cN) + 2))) hcN hRel with ⟨r, x1, z1, hf, hm, ht, hR1⟩ | ⟨hf, r, z1, hm, ht, hR1⟩ | ⟨hf, r, z1, hm, ht, hR1⟩
        · exact lc_reach X hlt hT hK hA hX hbl hbA (x1 := wB x1 45 (vp_updL (rB x1 45) (Int32.toNatClampNeg ((0 : Int32))) (r))) (o0 := r) (by unfold f_L_reach; rw [hf]; rfl) hm rfl ht rfl rfl hi1 hi2 hrN hP hD hS hl (stepN _ z1 (hOu _ _ _ _ hR1))
        · exact lc_reach_t1 X hlt hT hK hA hX hbl hbA hf hm rfl ht hi1 hi2 hrT hP hD hS hl (stepK x z1 hR1)
        · exact lc_reach_t2 X hlt hT hK hA hX hbl hbA hf hm rfl ht hi1 hi2 hrT hP hD hS hl (stepK x z1 hR1)
      by_cases hc9 : v = 9
      · refine lv_tableIn (off := 590) (tgt := 630) hx hb dL_law_40 (by rw [hc9]; decide) (by rw [hc9]; decide) (by rw [hc9]; rfl) (by decide) ?_
        rcases h_lacks cN x z (xs (Int32.toNatClampNeg (nI (6 * cN) + 1))) (xs (Int32.toNatClampNeg (nI (6 * cN) + 2))) hcN hRel with ⟨r, x1, z1, hf, hm, ht, hR1⟩ | ⟨hf, r, z1, hm, ht, hR1⟩ | ⟨hf, r, z1, hm, ht, hR1⟩
        · exact lc_lacks X hlt hT hK hA hX hbl hbA (x1 := wB x1 45 (vp_updL (rB x1 45) (Int32.toNatClampNeg ((0 : Int32))) (Int32.toInt64 r))) (o0 := Int32.toInt64 r) (by unfold f_L_lacks; rw [hf]; rfl) hm rfl ht rfl rfl hi1 hi2 hrN hP hD hS hl (stepN _ z1 (hOu _ _ _ _ hR1))
        · exact lc_lacks_t1 X hlt hT hK hA hX hbl hbA hf hm rfl ht hi1 hi2 hrT hP hD hS hl (stepK x z1 hR1)
        · exact lc_lacks_t2 X hlt hT hK hA hX hbl hbA hf hm rfl ht hi1 hi2 hrT hP hD hS hl (stepK x z1 hR1)
      by_cases hc10 : v = 10
      · refine lv_tableIn (off := 658) (tgt := 698) hx hb dL_law_40 (by rw [hc10]; decide) (by rw [hc10]; decide) (by rw [hc10]; rfl) (by decide) ?_
        rcases h_layer cN x z (xs (Int32.toNatClampNeg (nI (6 * cN) + 1))) (xs (Int32.toNatClampNeg (nI (6 * cN) + 2))) hcN hRel with ⟨r, x1, z1, hf, hm, ht, hR1⟩ | ⟨hf, r, z1, hm, ht, hR1⟩
        · exact lc_layer X hlt hT hK hA hX hbl hbA (x1 := wB x1 45 (vp_updL (rB x1 45) (Int32.toNatClampNeg ((0 : Int32))) (Int32.toInt64 r))) (o0 := Int32.toInt64 r) (by unfold f_L_layer; rw [hf]; rfl) hm rfl ht rfl rfl hi1 hi2 hrN hP hD hS hl (stepN _ z1 (hOu _ _ _ _ hR1))
        · exact lc_layer_t1 X hlt hT hK hA hX hbl hbA hf hm rfl ht hi1 hi2 hrT hP hD hS hl (stepK x z1 hR1)
      by_cases hc11 : v = 11
      · refine lv_tableIn (off := 726) (tgt := 766) hx hb dL_law_40 (by rw [hc11]; decide) (by rw [hc11]; decide) (by rw [hc11]; rfl) (by decide) ?_
        rcases h_sting cN x z (xs (Int32.toNatClampNeg (nI (6 * cN) + 1))) hcN hRel with ⟨r, x1, z1, hf, hm, ht, hR1⟩ | ⟨hf, r, z1, hm, ht, hR1⟩
        · exact lc_sting X hlt hT hK hA hX hbl hbA (x1 := wB x1 45 (vp_updL (rB x1 45) (Int32.toNatClampNeg ((0 : Int32))) (Int32.toInt64 r))) (o0 := Int32.toInt64 r) (by unfold f_L_sting; rw [hf]; rfl) hm rfl ht rfl rfl hi1 hrN hP hD hS hl (stepN _ z1 (hOu _ _ _ _ hR1))
        · exact lc_sting_t1 X hlt hT hK hA hX hbl hbA hf hm rfl ht hi1 hrT hP hD hS hl (stepK x z1 hR1)
      by_cases hc12 : v = 12
      · refine lv_tableIn (off := 782) (tgt := 822) hx hb dL_law_40 (by rw [hc12]; decide) (by rw [hc12]; decide) (by rw [hc12]; rfl) (by decide) ?_
        rcases h_go cN x z (xs (Int32.toNatClampNeg (nI (6 * cN) + 1))) hcN hRel with ⟨r, x1, z1, hf, hm, ht, hR1⟩ | ⟨hf, r, z1, hm, ht, hR1⟩
        · exact lc_go X hlt hT hK hA hX hbl hbA (x1 := wB x1 45 (vp_updL (rB x1 45) (Int32.toNatClampNeg ((0 : Int32))) (r))) (o0 := r) (by unfold f_L_go; rw [hf]; rfl) hm rfl ht rfl rfl hi1 hrN hP hD hS hl (stepN _ z1 (hOu _ _ _ _ hR1))
        · exact lc_go_t2 X hlt hT hK hA hX hbl hbA hf hm rfl ht hi1 hrT hP hD hS hl (stepK x z1 hR1)
      by_cases hc13 : v = 13
      · refine lv_tableIn (off := 837) (tgt := 877) hx hb dL_law_40 (by rw [hc13]; decide) (by rw [hc13]; decide) (by rw [hc13]; rfl) (by decide) ?_
        rcases h_now cN x z (xs (Int32.toNatClampNeg (nI (6 * cN) + 1))) hcN hRel with ⟨r, z1, hf, hm, ht, hR1⟩ | ⟨hf, r, z1, hm, ht, hR1⟩
        · exact lc_now X hlt hT hK hA hX hbl hbA (x1 := wB x 45 (vp_updL (rB x 45) (Int32.toNatClampNeg ((0 : Int32))) (Int32.toInt64 r))) (o0 := Int32.toInt64 r) (by unfold f_L_now; rw [hf]; rfl) hm rfl ht rfl rfl hi1 hrN hP hD hS hl (stepN _ z1 (hOu _ _ _ _ hR1))
        · exact lc_now_t1 X hlt hT hK hA hX hbl hbA hf hm rfl ht hi1 hrT hP hD hS hl (stepK x z1 hR1)
      by_cases hc14 : v = 14
      · refine lv_tableIn (off := 893) (tgt := 933) hx hb dL_law_40 (by rw [hc14]; decide) (by rw [hc14]; decide) (by rw [hc14]; rfl) (by decide) ?_
        rcases h_level cN x z (xs (Int32.toNatClampNeg (nI (6 * cN) + 1))) hcN hRel with ⟨r, z1, hf, hm, ht, hR1⟩ | ⟨hf, r, z1, hm, ht, hR1⟩
        · exact lc_level X hlt hT hK hA hX hbl hbA (x1 := wB x 45 (vp_updL (rB x 45) (Int32.toNatClampNeg ((0 : Int32))) (Int32.toInt64 r))) (o0 := Int32.toInt64 r) (by unfold f_L_level; rw [hf]; rfl) hm rfl ht rfl rfl hi1 hrN hP hD hS hl (stepN _ z1 (hOu _ _ _ _ hR1))
        · exact lc_level_t1 X hlt hT hK hA hX hbl hbA hf hm rfl ht hi1 hrT hP hD hS hl (stepK x z1 hR1)
      by_cases hc15 : v = 15
      · refine lv_tableIn (off := 949) (tgt := 989) hx hb dL_law_40 (by rw [hc15]; decide) (by rw [hc15]; decide) (by rw [hc15]; rfl) (by decide) ?_
        rcases h_log cN x z (xs (Int32.toNatClampNeg (nI (6 * cN) + 1))) (xs (Int32.toNatClampNeg (nI (6 * cN) + 2))) hcN hRel with ⟨r, z1, hf, hm, ht, hR1⟩ | ⟨hf, r, z1, hm, ht, hR1⟩
        · exact lc_log X hlt hT hK hA hX hbl hbA (x1 := wB x 45 (vp_updL (rB x 45) (Int32.toNatClampNeg ((0 : Int32))) (r))) (o0 := r) (by unfold f_L_log; rw [hf]; rfl) hm rfl ht rfl rfl hi1 hi2 hrN hP hD hS hl (stepN _ z1 (hOu _ _ _ _ hR1))
        · exact lc_log_t1 X hlt hT hK hA hX hbl hbA hf hm rfl ht hi1 hi2 hrT hP hD hS hl (stepK x z1 hR1)
      by_cases hc16 : v = 16
      · refine lv_tableIn (off := 1016) (tgt := 1056) hx hb dL_law_40 (by rw [hc16]; decide) (by rw [hc16]; decide) (by rw [hc16]; rfl) (by decide) ?_
        rcases h_keep cN x z (xs (Int32.toNatClampNeg (nI (6 * cN) + 1))) hcN hRel with ⟨hv0, r, x1, z1, hf, hm, ht, hR1⟩ | ⟨hv1, r, x1, z1, hf, hm, ht, hR1⟩ | ⟨hv2, r, x1, z1, hf, hm, ht, hR1⟩ | ⟨hv3, r, x1, z1, hf, hm, ht, hR1⟩ | ⟨hf, r, z1, hm, ht, hR1⟩
        · by_cases hr0 : r = 0
          · exact lc_keep_v0 X hlt hT hK hA hX hbl hbA hv0 (x1 := wB x1 45 (vp_updL (rB x1 45) (Int32.toNatClampNeg ((0 : Int32))) 0)) (o0 := 0) (by unfold f_L_keep_v0; rw [hf]; exact if_pos hr0) hm rfl ht rfl ⟨fun h => rfl, fun h => absurd hr0 h⟩ hi1 hrN hP hD hS hl (stepN _ z1 (hOu _ _ _ _ hR1))
          · exact lc_keep_v0 X hlt hT hK hA hX hbl hbA hv0 (x1 := wB x1 45 (vp_updL (rB x1 45) (Int32.toNatClampNeg ((0 : Int32))) 1)) (o0 := 1) (by unfold f_L_keep_v0; rw [hf]; exact if_neg hr0) hm rfl ht rfl ⟨fun h => absurd h hr0, fun h => rfl⟩ hi1 hrN hP hD hS hl (stepN _ z1 (hOu _ _ _ _ hR1))
        · by_cases hr0 : r = 0
          · exact lc_keep_v1 X hlt hT hK hA hX hbl hbA hv1 (x1 := wB x1 45 (vp_updL (rB x1 45) (Int32.toNatClampNeg ((0 : Int32))) 0)) (o0 := 0) (by unfold f_L_keep_v1; rw [hf]; exact if_pos hr0) hm rfl ht rfl ⟨fun h => rfl, fun h => absurd hr0 h⟩ hi1 hrN hP hD hS hl (stepN _ z1 (hOu _ _ _ _ hR1))
          · exact lc_keep_v1 X hlt hT hK hA hX hbl hbA hv1 (x1 := wB x1 45 (vp_updL (rB x1 45) (Int32.toNatClampNeg ((0 : Int32))) 1)) (o0 := 1) (by unfold f_L_keep_v1; rw [hf]; exact if_neg hr0) hm rfl ht rfl ⟨fun h => absurd h hr0, fun h => rfl⟩ hi1 hrN hP hD hS hl (stepN _ z1 (hOu _ _ _ _ hR1))
        · by_cases hr0 : r = 0
          · exact lc_keep_v2 X hlt hT hK hA hX hbl hbA hv2 (x1 := wB x1 45 (vp_updL (rB x1 45) (Int32.toNatClampNeg ((0 : Int32))) 0)) (o0 := 0) (by unfold f_L_keep_v2; rw [hf]; exact if_pos hr0) hm rfl ht rfl ⟨fun h => rfl, fun h => absurd hr0 h⟩ hi1 hrN hP hD hS hl (stepN _ z1 (hOu _ _ _ _ hR1))
          · exact lc_keep_v2 X hlt hT hK hA hX hbl hbA hv2 (x1 := wB x1 45 (vp_updL (rB x1 45) (Int32.toNatClampNeg ((0 : Int32))) 1)) (o0 := 1) (by unfold f_L_keep_v2; rw [hf]; exact if_neg hr0) hm rfl ht rfl ⟨fun h => absurd h hr0, fun h => rfl⟩ hi1 hrN hP hD hS hl (stepN _ z1 (hOu _ _ _ _ hR1))
        · by_cases hr0 : r = 0
          · exact lc_keep_v3 X hlt hT hK hA hX hbl hbA hv3 (x1 := wB x1 45 (vp_updL (rB x1 45) (Int32.toNatClampNeg ((0 : Int32))) 0)) (o0 := 0) (by unfold f_L_keep_v3; rw [hf]; exact if_pos hr0) hm rfl ht rfl ⟨fun h => rfl, fun h => absurd hr0 h⟩ hi1 hrN hP hD hS hl (stepN _ z1 (hOu _ _ _ _ hR1))
          · exact lc_keep_v3 X hlt hT hK hA hX hbl hbA hv3 (x1 := wB x1 45 (vp_updL (rB x1 45) (Int32.toNatClampNeg ((0 : Int32))) 1)) (o0 := 1) (by unfold f_L_keep_v3; rw [hf]; exact if_neg hr0) hm rfl ht rfl ⟨fun h => absurd h hr0, fun h => rfl⟩ hi1 hrN hP hD hS hl (stepN _ z1 (hOu _ _ _ _ hR1))
        · exact lc_keep_t2 X hlt hT hK hA hX hbl hbA hf hm rfl ht hi1 hrT hP hD hS hl (stepK x z1 hR1)
      by_cases hc17 : v = 17
      · refine lv_tableIn (off := 1079) (tgt := 1119) hx hb dL_law_40 (by rw [hc17]; decide) (by rw [hc17]; decide) (by rw [hc17]; rfl) (by decide) ?_
        rcases h_goOn cN x z (xs (Int32.toNatClampNeg (nI (6 * cN) + 1))) hcN hRel with ⟨hv0, r, x1, z1, hf, hm, ht, hR1⟩ | ⟨hv1, r, x1, z1, hf, hm, ht, hR1⟩ | ⟨hv2, r, x1, z1, hf, hm, ht, hR1⟩ | ⟨hv3, r, x1, z1, hf, hm, ht, hR1⟩ | ⟨hf, r, z1, hm, ht, hR1⟩
        · by_cases hr0 : r = 0
          · exact lc_goOn_v0 X hlt hT hK hA hX hbl hbA hv0 (x1 := wB x1 45 (vp_updL (rB x1 45) (Int32.toNatClampNeg ((0 : Int32))) 0)) (o0 := 0) (by unfold f_L_goOn_v0; rw [hf]; exact if_pos hr0) hm rfl ht rfl ⟨fun h => rfl, fun h => absurd hr0 h⟩ hi1 hrN hP hD hS hl (stepN _ z1 (hOu _ _ _ _ hR1))
          · exact lc_goOn_v0 X hlt hT hK hA hX hbl hbA hv0 (x1 := wB x1 45 (vp_updL (rB x1 45) (Int32.toNatClampNeg ((0 : Int32))) 1)) (o0 := 1) (by unfold f_L_goOn_v0; rw [hf]; exact if_neg hr0) hm rfl ht rfl ⟨fun h => absurd h hr0, fun h => rfl⟩ hi1 hrN hP hD hS hl (stepN _ z1 (hOu _ _ _ _ hR1))
        · by_cases hr0 : r = 0
          · exact lc_goOn_v1 X hlt hT hK hA hX hbl hbA hv1 (x1 := wB x1 45 (vp_updL (rB x1 45) (Int32.toNatClampNeg ((0 : Int32))) 0)) (o0 := 0) (by unfold f_L_goOn_v1; rw [hf]; exact if_pos hr0) hm rfl ht rfl ⟨fun h => rfl, fun h => absurd hr0 h⟩ hi1 hrN hP hD hS hl (stepN _ z1 (hOu _ _ _ _ hR1))
          · exact lc_goOn_v1 X hlt hT hK hA hX hbl hbA hv1 (x1 := wB x1 45 (vp_updL (rB x1 45) (Int32.toNatClampNeg ((0 : Int32))) 1)) (o0 := 1) (by unfold f_L_goOn_v1; rw [hf]; exact if_neg hr0) hm rfl ht rfl ⟨fun h => absurd h hr0, fun h => rfl⟩ hi1 hrN hP hD hS hl (stepN _ z1 (hOu _ _ _ _ hR1))
        · by_cases hr0 : r = 0
          · exact lc_goOn_v2 X hlt hT hK hA hX hbl hbA hv2 (x1 := wB x1 45 (vp_updL (rB x1 45) (Int32.toNatClampNeg ((0 : Int32))) 0)) (o0 := 0) (by unfold f_L_goOn_v2; rw [hf]; exact if_pos hr0) hm rfl ht rfl ⟨fun h => rfl, fun h => absurd hr0 h⟩ hi1 hrN hP hD hS hl (stepN _ z1 (hOu _ _ _ _ hR1))
          · exact lc_goOn_v2 X hlt hT hK hA hX hbl hbA hv2 (x1 := wB x1 45 (vp_updL (rB x1 45) (Int32.toNatClampNeg ((0 : Int32))) 1)) (o0 := 1) (by unfold f_L_goOn_v2; rw [hf]; exact if_neg hr0) hm rfl ht rfl ⟨fun h => absurd h hr0, fun h => rfl⟩ hi1 hrN hP hD hS hl (stepN _ z1 (hOu _ _ _ _ hR1))
        · by_cases hr0 : r = 0
          · exact lc_goOn_v3 X hlt hT hK hA hX hbl hbA hv3 (x1 := wB x1 45 (vp_updL (rB x1 45) (Int32.toNatClampNeg ((0 : Int32))) 0)) (o0 := 0) (by unfold f_L_goOn_v3; rw [hf]; exact if_pos hr0) hm rfl ht rfl ⟨fun h => rfl, fun h => absurd hr0 h⟩ hi1 hrN hP hD hS hl (stepN _ z1 (hOu _ _ _ _ hR1))
          · exact lc_goOn_v3 X hlt hT hK hA hX hbl hbA hv3 (x1 := wB x1 45 (vp_updL (rB x1 45) (Int32.toNatClampNeg ((0 : Int32))) 1)) (o0 := 1) (by unfold f_L_goOn_v3; rw [hf]; exact if_neg hr0) hm rfl ht rfl ⟨fun h => absurd h hr0, fun h => rfl⟩ hi1 hrN hP hD hS hl (stepN _ z1 (hOu _ _ _ _ hR1))
        · exact lc_goOn_t2 X hlt hT hK hA hX hbl hbA hf hm rfl ht hi1 hrT hP hD hS hl (stepK x z1 hR1)
      refine lv_tableOut (tgt := 1182) hx hb dL_law_40 (by have q0 := lv_neT (a := 0) hc0 rfl; have q1 := lv_neT (a := 1) hc1 rfl; have q2 := lv_neT (a := 2) hc2 rfl; have q3 := lv_neT (a := 3) hc3 rfl; have q4 := lv_neT (a := 4) hc4 rfl; have q5 := lv_neT (a := 5) hc5 rfl; have q6 := lv_neT (a := 6) hc6 rfl; have q7 := lv_neT (a := 7) hc7 rfl; have q8 := lv_neT (a := 8) hc8 rfl; have q9 := lv_neT (a := 9) hc9 rfl; have q10 := lv_neT (a := 10) hc10 rfl; have q11 := lv_neT (a := 11) hc11 rfl; have q12 := lv_neT (a := 12) hc12 rfl; have q13 := lv_neT (a := 13) hc13 rfl; have q14 := lv_neT (a := 14) hc14 rfl; have q15 := lv_neT (a := 15) hc15 rfl; have q16 := lv_neT (a := 16) hc16 rfl; have q17 := lv_neT (a := 17) hc17 rfl; omega) (by decide) ?_
      exact stepN x z (hSu _ _ _ hRel) H locs ls hP hD hS hl
