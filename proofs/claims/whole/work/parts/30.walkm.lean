def f_X6_thrown (x : PD) : Option (Int32) :=
  some (rI x 0)
set_option maxHeartbeats 4000000 in
set_option maxRecDepth 100000 in
theorem c_X6_thrown (l : Launch) (D : va_G) (y : CY) (a : Nat → Nat) {x : PD} {r : Int32} (h : f_X6_thrown x = some r) : mpM l D y yX6_thrown cX6_thrown 1 (some .int) { frames := 0, cells := 0, slots := 0, locals := 0 } (mw y a x) (mw y a x) [.ref (a 0)] (some (.int r)) := by
  refine mpM.mk (own := RX6) (by decide) rfl (Nat.le_of_ble_eq_true rfl) ?_
  intro p e s m below meth c A ls X hK hA hP hD hl
  have hS : va_S A s.heap s.heap [] := va_S.rf
  obtain ⟨⟨hx, hb, hml, hown, hts⟩, hr, hlk⟩ := id X
  have hl : lv_has ls 1 [(0, .ref (a 0))] := hl
  unfold f_X6_thrown at h
  refine lv_aload_n hx hb dX6_thrown_0 rfl (lv_at hl 0 rfl) ?_
  refine mwG_0_0 X hK hP mF_X6_80 dX6_thrown_1 ?_
  cases h
  exact mpr_i X hK hP hD hS rfl dX6_thrown_4
def f_X6_get (x : PD) (p1 : Int32) : Option (Int32) :=
  gd (inR p1 56) (some (Int64.toInt32 (rB x 11 (Int32.toNatClampNeg p1))))
set_option maxHeartbeats 4000000 in
set_option maxRecDepth 100000 in
theorem c_X6_get (l : Launch) (D : va_G) (y : CY) (a : Nat → Nat) {x : PD} {r : Int32} {p1 : Int32} (h : f_X6_get x p1 = some r) : mpM l D y yX6_get cX6_get 2 (some .int) { frames := 0, cells := 0, slots := 0, locals := 0 } (mw y a x) (mw y a x) [.ref (a 0), .int p1] (some (.int r)) := by
  refine mpM.mk (own := RX6) (by decide) rfl (Nat.le_of_ble_eq_true rfl) ?_
  intro p e s m below meth c A ls X hK hA hP hD hl
  have hS : va_S A s.heap s.heap [] := va_S.rf
  obtain ⟨⟨hx, hb, hml, hown, hts⟩, hr, hlk⟩ := id X
  have hl : lv_has ls 2 [(0, .ref (a 0)), (1, .int p1)] := hl
  unfold f_X6_get at h
  refine lv_aload_n hx hb dX6_get_0 rfl (lv_at hl 0 rfl) ?_
  refine mwG_0_13 X hK hP mF_X6_40 dX6_get_1 ?_
  refine lv_iload_n hx hb dX6_get_4 rfl (lv_at hl 1 rfl) ?_
  obtain ⟨hg, h⟩ := gd_elim h
  refine mwL_11 X hK hP hg dX6_get_5 ?_
  refine lv_l2i (v := Int64.toInt32 (rB x 11 (Int32.toNatClampNeg p1))) hx hb dX6_get_6 rfl ?_
  cases h
  exact mpr_i X hK hP hD hS rfl dX6_get_7
def f_X6_has (x : PD) (p1 : Int32) (p2 : Int32) : Option (Int32) :=
  gd (inR p1 20) (if (((rA x 4 (Int32.toNatClampNeg p1)) >>> (p2 &&& 31)) &&& ((1 : Int32))) = ((1 : Int32)) then
  some ((1 : Int32))
  else
  some ((0 : Int32)))
set_option maxHeartbeats 4000000 in
set_option maxRecDepth 100000 in
theorem c_X6_has (l : Launch) (D : va_G) (y : CY) (a : Nat → Nat) {x : PD} {r : Int32} {p1 : Int32} {p2 : Int32} (h : f_X6_has x p1 p2 = some r) : mpM l D y yX6_has cX6_has 3 (some .boolean) { frames := 0, cells := 0, slots := 0, locals := 0 } (mw y a x) (mw y a x) [.ref (a 0), .int p1, .int p2] (some (.int r)) := by
  refine mpM.mk (own := RX6) (by decide) rfl (Nat.le_of_ble_eq_true rfl) ?_
  intro p e s m below meth c A ls X hK hA hP hD hl
  have hS : va_S A s.heap s.heap [] := va_S.rf
  obtain ⟨⟨hx, hb, hml, hown, hts⟩, hr, hlk⟩ := id X
  have hl : lv_has ls 3 [(0, .ref (a 0)), (1, .int p1), (2, .int p2)] := hl
  unfold f_X6_has at h
  refine lv_aload_n hx hb dX6_has_0 rfl (lv_at hl 0 rfl) ?_
  refine mwG_0_6 X hK hP mF_X6_19 dX6_has_1 ?_
  refine lv_iload_n hx hb dX6_has_4 rfl (lv_at hl 1 rfl) ?_
  obtain ⟨hg, h⟩ := gd_elim h
  refine mwL_4 X hK hP hg dX6_has_5 ?_
  refine lv_iload_n hx hb dX6_has_6 rfl (lv_at hl 2 rfl) ?_
  refine lv_ishr hx hb dX6_has_7 ?_
  refine lv_iconst (v := 1) hx hb dX6_has_8 (by decide) ?_
  refine lv_iand hx hb dX6_has_9 ?_
  refine lv_iconst (v := 1) hx hb dX6_has_10 (by decide) ?_
  refine lv_icmp_ne (tgt := 18) hx hb dX6_has_11 (by decide) (fun hc => ?_) (fun hc => ?_)
  · replace h := iff_ hc h
    refine lv_iconst (v := 0) hx hb dX6_has_18 (by decide) ?_
    cases h
    exact mpr_z X hK hP hD hS rfl rfl dX6_has_19
  · replace h := ift hc h
    refine lv_iconst (v := 1) hx hb dX6_has_14 (by decide) ?_
    refine lv_goto (tgt := 19) hx hb dX6_has_15 (by decide) ?_
    cases h
    exact mpr_z X hK hP hD hS rfl rfl dX6_has_19
def f_X6_reckons_b219 (k47 : PD → Int32 → Int32 → Option (PD)) (k56 : PD → Int32 → Int32 → Int32 → Option (PD)) (x : PD) (v2 : Int32) (v4 : Int32) (v5 : Int32) (v8 : Int64) (v10 : Int32) : Option (PD) :=
  gd (inR v5 20) (letv (wB x 20 (vp_updL (rB x 20) (Int32.toNatClampNeg v5) v8)) fun x1 =>
  gd (inR v5 20) (letv (wA x1 21 (upd (rA x1 21) (Int32.toNatClampNeg v5) v10)) fun x2 =>
  (k56 x2 v2 ((1 : Int32)) (v4 + 1))))
set_option maxHeartbeats 4000000 in
set_option maxRecDepth 100000 in
theorem w_X6_reckons_b219 {p : Program} {l : Launch} {e : Env} {s : State} {m : MethodId} {args : Array Value} {below : List Frame} {meth : Method} {c : Code} {D : va_G} {y : CY} {a : Nat → Nat} {A : Nat → Prop} {x' : PD} {k47 : PD → Int32 → Int32 → Option (PD)} {k56 : PD → Int32 → Int32 → Int32 → Option (PD)} (X : mpX p s m args meth c cX6_reckons 11 none RX6) (hK : va_K D vwCl (mpT y) s) (hA : ∀ q, s.heap.size ≤ q → A q) (hk47 : ∀ (x : PD) (v2 : Int32) (v3 : Int32) (H : Heap) (locs : List Loc) (ls : Array Slot), va_P D vwCl (mw y a x) H → va_D A (mw y a x) → va_S A s.heap H locs → lv_has ls 11 [(0, .ref (a 0)), (2, .int v2), (3, .int v3)] → k47 x v2 v3 = some x' → W p l e { frames := 1, cells := 0, slots := 0, locals := 22 } s m args below meth c H locs 0 0 (MQ below (mpC D y A (mw y a x') none) args s 0 0 A) (F0 m 47 ls [])) (hk56 : ∀ (x : PD) (v2 : Int32) (v3 : Int32) (v4 : Int32) (H : Heap) (locs : List Loc) (ls : Array Slot), va_P D vwCl (mw y a x) H → va_D A (mw y a x) → va_S A s.heap H locs → lv_has ls 11 [(0, .ref (a 0)), (2, .int v2), (3, .int v3), (4, .int v4)] → k56 x v2 v3 v4 = some x' → W p l e { frames := 1, cells := 0, slots := 0, locals := 22 } s m args below meth c H locs 0 0 (MQ below (mpC D y A (mw y a x') none) args s 0 0 A) (F0 m 56 ls [])) : ∀ (x : PD) (v2 : Int32) (v4 : Int32) (v5 : Int32) (v8 : Int64) (v10 : Int32) (H : Heap) (locs : List Loc) (ls : Array Slot), va_P D vwCl (mw y a x) H → va_D A (mw y a x) → va_S A s.heap H locs → lv_has ls 11 [(0, .ref (a 0)), (2, .int v2), (4, .int v4), (5, .int v5), (8, .long v8), (10, .int v10)] → f_X6_reckons_b219 k47 k56 x v2 v4 v5 v8 v10 = some x' → W p l e { frames := 1, cells := 0, slots := 0, locals := 22 } s m args below meth c H locs 0 0 (MQ below (mpC D y A (mw y a x') none) args s 0 0 A) (F0 m 219 ls []) := by
  obtain ⟨⟨hx, hb, hml, hown, hts⟩, hr, hlk⟩ := id X
  intro x v2 v4 v5 v8 v10 H locs ls hP hD hS hl h
  unfold f_X6_reckons_b219 at h
  refine lv_aload_n hx hb dX6_reckons_219 rfl (lv_at hl 0 rfl) ?_
  refine mwG_0_28 X hK hP mF_X6_69 dX6_reckons_220 ?_
  refine lv_iload hx hb dX6_reckons_223 (lv_at hl 3 rfl) ?_
  refine lv_lload hx hb dX6_reckons_225 (lv_at hl 4 rfl) ?_
  obtain ⟨hg, h⟩ := gd_elim h
  obtain ⟨x1, e1, h⟩ := letv_elim h
  refine mwS_20 X hK hP hD hS hg e1 dX6_reckons_227 (fun H locs hP hD hS => ?_)
  refine lv_aload_n hx hb dX6_reckons_228 rfl (lv_at hl 0 rfl) ?_
  refine mwG_0_29 X hK hP mF_X6_72 dX6_reckons_229 ?_
  refine lv_iload hx hb dX6_reckons_232 (lv_at hl 3 rfl) ?_
  refine lv_iload hx hb dX6_reckons_234 (lv_at hl 5 rfl) ?_
  obtain ⟨hg, h⟩ := gd_elim h
  obtain ⟨x2, e1, h⟩ := letv_elim h
  refine mwS_21 X hK hP hD hS hg e1 dX6_reckons_236 (fun H locs hP hD hS => ?_)
  refine lv_iconst (v := 1) hx hb dX6_reckons_237 (by decide) ?_
  refine lv_istore_n (lv' := [(3, .int ((1 : Int32))), (0, .ref (a 0)), (2, .int v2), (4, .int v4), (5, .int v5), (8, .long v8), (10, .int v10)]) hx hb dX6_reckons_238 rfl hl (by decide) rfl (fun ls hl => ?_)
  refine lv_iinc (v := v4 + 1) (lv' := [(4, .int (v4 + 1)), (3, .int ((1 : Int32))), (0, .ref (a 0)), (2, .int v2), (5, .int v5), (8, .long v8), (10, .int v10)]) hx hb dX6_reckons_239 hl (k := 3) rfl rfl (by decide) rfl (fun ls hl => ?_)
  refine lv_goto (tgt := 56) hx hb dX6_reckons_242 (by decide) ?_
  exact hk56 x2 v2 ((1 : Int32)) (v4 + 1) _ _ _ hP hD hS (lv_sub hl [2, 3, 1, 0] rfl) h
def f_X6_reckons_b159 (k47 : PD → Int32 → Int32 → Option (PD)) (k56 : PD → Int32 → Int32 → Int32 → Option (PD)) (x : PD) (v2 : Int32) (v3 : Int32) (v4 : Int32) (v5 : Int32) (t0 : Int64) (t1 : Int64) : Option (PD) :=
  gd (inR v4 100) (gd (inR (rA x 8 (Int32.toNatClampNeg v4)) 20) (gd (inR v5 20) (if 0 < (lg_cmp (t1 + t0) (rB x 20 (Int32.toNatClampNeg v5))) then
  ((k56 x v2 v3 (v4 + 1)))
  else
  gd (inR v5 20) (if (lg_cmp (t1 + t0) (rB x 20 (Int32.toNatClampNeg v5))) = 0 then
  gd (inR v5 20) (if ((rA x 21 (Int32.toNatClampNeg (rA x 8 (Int32.toNatClampNeg v4)))) + ((1 : Int32))) < (rA x 21 (Int32.toNatClampNeg v5)) then
  ((f_X6_reckons_b219 k47 k56 x v2 v4 v5 (t1 + t0) ((rA x 21 (Int32.toNatClampNeg (rA x 8 (Int32.toNatClampNeg v4)))) + ((1 : Int32)))))
  else
  (k56 x v2 v3 (v4 + 1)))
  else
  (f_X6_reckons_b219 k47 k56 x v2 v4 v5 (t1 + t0) ((rA x 21 (Int32.toNatClampNeg (rA x 8 (Int32.toNatClampNeg v4)))) + ((1 : Int32))))))))
set_option maxHeartbeats 4000000 in
set_option maxRecDepth 100000 in
theorem w_X6_reckons_b159 {p : Program} {l : Launch} {e : Env} {s : State} {m : MethodId} {args : Array Value} {below : List Frame} {meth : Method} {c : Code} {D : va_G} {y : CY} {a : Nat → Nat} {A : Nat → Prop} {x' : PD} {k47 : PD → Int32 → Int32 → Option (PD)} {k56 : PD → Int32 → Int32 → Int32 → Option (PD)} (X : mpX p s m args meth c cX6_reckons 11 none RX6) (hK : va_K D vwCl (mpT y) s) (hA : ∀ q, s.heap.size ≤ q → A q) (hk47 : ∀ (x : PD) (v2 : Int32) (v3 : Int32) (H : Heap) (locs : List Loc) (ls : Array Slot), va_P D vwCl (mw y a x) H → va_D A (mw y a x) → va_S A s.heap H locs → lv_has ls 11 [(0, .ref (a 0)), (2, .int v2), (3, .int v3)] → k47 x v2 v3 = some x' → W p l e { frames := 1, cells := 0, slots := 0, locals := 22 } s m args below meth c H locs 0 0 (MQ below (mpC D y A (mw y a x') none) args s 0 0 A) (F0 m 47 ls [])) (hk56 : ∀ (x : PD) (v2 : Int32) (v3 : Int32) (v4 : Int32) (H : Heap) (locs : List Loc) (ls : Array Slot), va_P D vwCl (mw y a x) H → va_D A (mw y a x) → va_S A s.heap H locs → lv_has ls 11 [(0, .ref (a 0)), (2, .int v2), (3, .int v3), (4, .int v4)] → k56 x v2 v3 v4 = some x' → W p l e { frames := 1, cells := 0, slots := 0, locals := 22 } s m args below meth c H locs 0 0 (MQ below (mpC D y A (mw y a x') none) args s 0 0 A) (F0 m 56 ls [])) : ∀ (x : PD) (v2 : Int32) (v3 : Int32) (v4 : Int32) (v5 : Int32) (t0 : Int64) (t1 : Int64) (H : Heap) (locs : List Loc) (ls : Array Slot), va_P D vwCl (mw y a x) H → va_D A (mw y a x) → va_S A s.heap H locs → lv_has ls 11 [(0, .ref (a 0)), (2, .int v2), (3, .int v3), (4, .int v4), (5, .int v5)] → f_X6_reckons_b159 k47 k56 x v2 v3 v4 v5 t0 t1 = some x' → W p l e { frames := 1, cells := 0, slots := 0, locals := 22 } s m args below meth c H locs 0 0 (MQ below (mpC D y A (mw y a x') none) args s 0 0 A) (F0 m 159 ls [.long t0, .long t1]) := by
  obtain ⟨⟨hx, hb, hml, hown, hts⟩, hr, hlk⟩ := id X
  intro x v2 v3 v4 v5 t0 t1 H locs ls hP hD hS hl h
  unfold f_X6_reckons_b159 at h
  refine lv_ladd hx hb dX6_reckons_159 ?_
  refine lv_lstore (lv' := [(8, .long (t1 + t0)), (0, .ref (a 0)), (2, .int v2), (3, .int v3), (4, .int v4), (5, .int v5)]) hx hb dX6_reckons_160 hl (by decide) rfl (fun ls hl => ?_)
  refine lv_aload_n hx hb dX6_reckons_162 rfl (lv_at hl 1 rfl) ?_
  refine mwG_0_29 X hK hP mF_X6_72 dX6_reckons_163 ?_
  refine lv_aload_n hx hb dX6_reckons_166 rfl (lv_at hl 1 rfl) ?_
  refine mwG_0_10 X hK hP mF_X6_31 dX6_reckons_167 ?_
  refine lv_iload hx hb dX6_reckons_170 (lv_at hl 4 rfl) ?_
  obtain ⟨hg, h⟩ := gd_elim h
  refine mwL_8 X hK hP hg dX6_reckons_172 ?_
  obtain ⟨hg, h⟩ := gd_elim h
  refine mwL_21 X hK hP hg dX6_reckons_173 ?_
  refine lv_iconst (v := 1) hx hb dX6_reckons_174 (by decide) ?_
  refine lv_iadd hx hb dX6_reckons_175 ?_
  refine lv_istore (lv' := [(10, .int ((rA x 21 (Int32.toNatClampNeg (rA x 8 (Int32.toNatClampNeg v4)))) + ((1 : Int32)))), (8, .long (t1 + t0)), (0, .ref (a 0)), (2, .int v2), (3, .int v3), (4, .int v4), (5, .int v5)]) hx hb dX6_reckons_176 hl (by decide) rfl (fun ls hl => ?_)
  refine lv_lload hx hb dX6_reckons_178 (lv_at hl 1 rfl) ?_
  refine lv_aload_n hx hb dX6_reckons_180 rfl (lv_at hl 2 rfl) ?_
  refine mwG_0_28 X hK hP mF_X6_69 dX6_reckons_181 ?_
  refine lv_iload hx hb dX6_reckons_184 (lv_at hl 6 rfl) ?_
  obtain ⟨hg, h⟩ := gd_elim h
  refine mwL_20 X hK hP hg dX6_reckons_186 ?_
  refine W.lcmp hx hb dX6_reckons_187 ?_
  refine lv_if_gt (tgt := 239) hx hb dX6_reckons_188 (by decide) (fun hc => ?_) (fun hc => ?_)
  · replace h := ift hc h
    refine lv_iinc (v := v4 + 1) (lv' := [(4, .int (v4 + 1)), (10, .int ((rA x 21 (Int32.toNatClampNeg (rA x 8 (Int32.toNatClampNeg v4)))) + ((1 : Int32)))), (8, .long (t1 + t0)), (0, .ref (a 0)), (2, .int v2), (3, .int v3), (5, .int v5)]) hx hb dX6_reckons_239 hl (k := 5) rfl rfl (by decide) rfl (fun ls hl => ?_)
    refine lv_goto (tgt := 56) hx hb dX6_reckons_242 (by decide) ?_
    exact hk56 x v2 v3 (v4 + 1) _ _ _ hP hD hS (lv_sub hl [3, 4, 5, 0] rfl) h
  · replace h := iff_ hc h
    refine lv_lload hx hb dX6_reckons_191 (lv_at hl 1 rfl) ?_
    refine lv_aload_n hx hb dX6_reckons_193 rfl (lv_at hl 2 rfl) ?_
    refine mwG_0_28 X hK hP mF_X6_69 dX6_reckons_194 ?_
    refine lv_iload hx hb dX6_reckons_197 (lv_at hl 6 rfl) ?_
    obtain ⟨hg, h⟩ := gd_elim h
    refine mwL_20 X hK hP hg dX6_reckons_199 ?_
    refine W.lcmp hx hb dX6_reckons_200 ?_
    refine lv_if_ne (tgt := 219) hx hb dX6_reckons_201 (by decide) (fun hc => ?_) (fun hc => ?_)
    · replace h := iff_ hc h
      exact w_X6_reckons_b219 X hK hA hk47 hk56 x v2 v4 v5 (t1 + t0) ((rA x 21 (Int32.toNatClampNeg (rA x 8 (Int32.toNatClampNeg v4)))) + ((1 : Int32))) _ _ _ hP hD hS (lv_sub hl [2, 3, 5, 6, 1, 0] rfl) h
    · replace h := ift hc h
      refine lv_iload hx hb dX6_reckons_204 (lv_at hl 0 rfl) ?_
      refine lv_aload_n hx hb dX6_reckons_206 rfl (lv_at hl 2 rfl) ?_
      refine mwG_0_29 X hK hP mF_X6_72 dX6_reckons_207 ?_
      refine lv_iload hx hb dX6_reckons_210 (lv_at hl 6 rfl) ?_
      obtain ⟨hg, h⟩ := gd_elim h
      refine mwL_21 X hK hP hg dX6_reckons_212 ?_
      refine lv_icmp_lt (tgt := 219) hx hb dX6_reckons_213 (by decide) (fun hc => ?_) (fun hc => ?_)
      · replace h := ift hc h
        exact w_X6_reckons_b219 X hK hA hk47 hk56 x v2 v4 v5 (t1 + t0) ((rA x 21 (Int32.toNatClampNeg (rA x 8 (Int32.toNatClampNeg v4)))) + ((1 : Int32))) _ _ _ hP hD hS (lv_sub hl [2, 3, 5, 6, 1, 0] rfl) h
      · replace h := iff_ hc h
        refine lv_goto (tgt := 239) hx hb dX6_reckons_216 (by decide) ?_
        refine lv_iinc (v := v4 + 1) (lv' := [(4, .int (v4 + 1)), (10, .int ((rA x 21 (Int32.toNatClampNeg (rA x 8 (Int32.toNatClampNeg v4)))) + ((1 : Int32)))), (8, .long (t1 + t0)), (0, .ref (a 0)), (2, .int v2), (3, .int v3), (5, .int v5)]) hx hb dX6_reckons_239 hl (k := 5) rfl rfl (by decide) rfl (fun ls hl => ?_)
        refine lv_goto (tgt := 56) hx hb dX6_reckons_242 (by decide) ?_
        exact hk56 x v2 v3 (v4 + 1) _ _ _ hP hD hS (lv_sub hl [3, 4, 5, 0] rfl) h
def f_X6_reckons_b56 (k47 : PD → Int32 → Int32 → Option (PD)) : Nat → PD → Int32 → Int32 → Int32 → Option (PD)
  | 0, _, _, _, _ => none
  | n + 1, x, v2, v3, v4 =>
    if (rI x 2) ≤ v4 then
  ((k47 x v2 v3))
  else
  gd (inR v4 100) (gd (inR v4 100) (gd (inR (rA x 8 (Int32.toNatClampNeg v4)) 20) (if (lg_cmp (rB x 20 (Int32.toNatClampNeg (rA x 8 (Int32.toNatClampNeg v4)))) ((1000000000000 : Int64))) < 0 then
  (gd (inR v4 100) (gd (inR (rA x 6 (Int32.toNatClampNeg v4)) 20) (gd (inR v4 100) (gd (inR (rA x 8 (Int32.toNatClampNeg v4)) 20) (if v2 = 0 then
  (gd (inR v4 100) ((f_X6_reckons_b159 k47 (f_X6_reckons_b56 k47 n) x v2 v3 v4 (rA x 6 (Int32.toNatClampNeg v4)) ((((24 : Int64)) * (Int32.toInt64 (rA x 9 (Int32.toNatClampNeg v4)))) + ((Int32.toInt64 (rA x 10 (Int32.toNatClampNeg ((1 : Int32))))) * ((Int32.toInt64 (rA x 7 (Int32.toNatClampNeg v4))) * (Int32.toInt64 (rA x 3 (Int32.toNatClampNeg (rA x 6 (Int32.toNatClampNeg v4)))))))) (rB x 20 (Int32.toNatClampNeg (rA x 8 (Int32.toNatClampNeg v4)))))))
  else
  (f_X6_reckons_b159 k47 (f_X6_reckons_b56 k47 n) x v2 v3 v4 (rA x 6 (Int32.toNatClampNeg v4)) ((Int32.toInt64 (rA x 7 (Int32.toNatClampNeg v4))) * (Int32.toInt64 (rA x 3 (Int32.toNatClampNeg (rA x 6 (Int32.toNatClampNeg v4)))))) (rB x 20 (Int32.toNatClampNeg (rA x 8 (Int32.toNatClampNeg v4))))))))))
  else
  ((f_X6_reckons_b56 k47 n) x v2 v3 (v4 + 1)))))
set_option maxHeartbeats 4000000 in
set_option maxRecDepth 100000 in
theorem w_X6_reckons_b56 {p : Program} {l : Launch} {e : Env} {s : State} {m : MethodId} {args : Array Value} {below : List Frame} {meth : Method} {c : Code} {D : va_G} {y : CY} {a : Nat → Nat} {A : Nat → Prop} {x' : PD} {k47 : PD → Int32 → Int32 → Option (PD)} (X : mpX p s m args meth c cX6_reckons 11 none RX6) (hK : va_K D vwCl (mpT y) s) (hA : ∀ q, s.heap.size ≤ q → A q) (hk47 : ∀ (x : PD) (v2 : Int32) (v3 : Int32) (H : Heap) (locs : List Loc) (ls : Array Slot), va_P D vwCl (mw y a x) H → va_D A (mw y a x) → va_S A s.heap H locs → lv_has ls 11 [(0, .ref (a 0)), (2, .int v2), (3, .int v3)] → k47 x v2 v3 = some x' → W p l e { frames := 1, cells := 0, slots := 0, locals := 22 } s m args below meth c H locs 0 0 (MQ below (mpC D y A (mw y a x') none) args s 0 0 A) (F0 m 47 ls [])) : ∀ (n : Nat), ∀ (x : PD) (v2 : Int32) (v3 : Int32) (v4 : Int32) (H : Heap) (locs : List Loc) (ls : Array Slot), va_P D vwCl (mw y a x) H → va_D A (mw y a x) → va_S A s.heap H locs → lv_has ls 11 [(0, .ref (a 0)), (2, .int v2), (3, .int v3), (4, .int v4)] → f_X6_reckons_b56 k47 n x v2 v3 v4 = some x' → W p l e { frames := 1, cells := 0, slots := 0, locals := 22 } s m args below meth c H locs 0 0 (MQ below (mpC D y A (mw y a x') none) args s 0 0 A) (F0 m 56 ls []) := by
  obtain ⟨⟨hx, hb, hml, hown, hts⟩, hr, hlk⟩ := id X
  intro n
  induction n with
  | zero =>
    intro x v2 v3 v4 H locs ls hP hD hS hl h
    rw [f_X6_reckons_b56] at h
    exact nons h
  | succ n ih =>
    intro x v2 v3 v4 H locs ls hP hD hS hl h
    rw [f_X6_reckons_b56] at h
    refine lv_iload hx hb dX6_reckons_56 (lv_at hl 3 rfl) ?_
    refine lv_aload_n hx hb dX6_reckons_58 rfl (lv_at hl 0 rfl) ?_
    refine mwG_0_2 X hK hP mF_X6_98 dX6_reckons_59 ?_
    refine lv_icmp_ge (tgt := 245) hx hb dX6_reckons_62 (by decide) (fun hc => ?_) (fun hc => ?_)
    · replace h := ift hc h
      refine lv_goto (tgt := 47) hx hb dX6_reckons_245 (by decide) ?_
      exact hk47 x v2 v3 _ _ _ hP hD hS (lv_sub hl [0, 1, 2] rfl) h
    · replace h := iff_ hc h
      refine lv_aload_n hx hb dX6_reckons_65 rfl (lv_at hl 0 rfl) ?_
      refine mwG_0_8 X hK hP mF_X6_25 dX6_reckons_66 ?_
      refine lv_iload hx hb dX6_reckons_69 (lv_at hl 3 rfl) ?_
      obtain ⟨hg, h⟩ := gd_elim h
      refine mwL_6 X hK hP hg dX6_reckons_71 ?_
      refine lv_istore (lv' := [(5, .int (rA x 6 (Int32.toNatClampNeg v4))), (0, .ref (a 0)), (2, .int v2), (3, .int v3), (4, .int v4)]) hx hb dX6_reckons_72 hl (by decide) rfl (fun ls hl => ?_)
      refine lv_aload_n hx hb dX6_reckons_74 rfl (lv_at hl 1 rfl) ?_
      refine mwG_0_28 X hK hP mF_X6_69 dX6_reckons_75 ?_
      refine lv_aload_n hx hb dX6_reckons_78 rfl (lv_at hl 1 rfl) ?_
      refine mwG_0_10 X hK hP mF_X6_31 dX6_reckons_79 ?_
      refine lv_iload hx hb dX6_reckons_82 (lv_at hl 4 rfl) ?_
      obtain ⟨hg, h⟩ := gd_elim h
      refine mwL_8 X hK hP hg dX6_reckons_84 ?_
      obtain ⟨hg, h⟩ := gd_elim h
      refine mwL_20 X hK hP hg dX6_reckons_85 ?_
      refine lv_ldc2 (v := 1000000000000) hx hb hown (hts _ mK_X6_108) dX6_reckons_86 ?_
      refine W.lcmp hx hb dX6_reckons_89 ?_
      refine lv_if_lt (tgt := 96) hx hb dX6_reckons_90 (by decide) (fun hc => ?_) (fun hc => ?_)
      · replace h := ift hc h
        refine lv_aload_n hx hb dX6_reckons_96 rfl (lv_at hl 1 rfl) ?_
        refine mwG_0_9 X hK hP mF_X6_28 dX6_reckons_97 ?_
        refine lv_iload hx hb dX6_reckons_100 (lv_at hl 4 rfl) ?_
        obtain ⟨hg, h⟩ := gd_elim h
        refine mwL_7 X hK hP hg dX6_reckons_102 ?_
        refine lv_i2l (v := Int32.toInt64 (rA x 7 (Int32.toNatClampNeg v4))) hx hb dX6_reckons_103 rfl ?_
        refine lv_aload_n hx hb dX6_reckons_104 rfl (lv_at hl 1 rfl) ?_
        refine mwG_0_5 X hK hP mF_X6_16 dX6_reckons_105 ?_
        refine lv_iload hx hb dX6_reckons_108 (lv_at hl 0 rfl) ?_
        obtain ⟨hg, h⟩ := gd_elim h
        refine mwL_3 X hK hP hg dX6_reckons_110 ?_
        refine lv_i2l (v := Int32.toInt64 (rA x 3 (Int32.toNatClampNeg (rA x 6 (Int32.toNatClampNeg v4))))) hx hb dX6_reckons_111 rfl ?_
        refine lv_lmul hx hb dX6_reckons_112 ?_
        refine lv_lstore (lv' := [(6, .long ((Int32.toInt64 (rA x 7 (Int32.toNatClampNeg v4))) * (Int32.toInt64 (rA x 3 (Int32.toNatClampNeg (rA x 6 (Int32.toNatClampNeg v4))))))), (5, .int (rA x 6 (Int32.toNatClampNeg v4))), (0, .ref (a 0)), (2, .int v2), (3, .int v3), (4, .int v4)]) hx hb dX6_reckons_113 hl (by decide) rfl (fun ls hl => ?_)
        refine lv_aload_n hx hb dX6_reckons_115 rfl (lv_at hl 2 rfl) ?_
        refine mwG_0_28 X hK hP mF_X6_69 dX6_reckons_116 ?_
        refine lv_aload_n hx hb dX6_reckons_119 rfl (lv_at hl 2 rfl) ?_
        refine mwG_0_10 X hK hP mF_X6_31 dX6_reckons_120 ?_
        refine lv_iload hx hb dX6_reckons_123 (lv_at hl 5 rfl) ?_
        obtain ⟨hg, h⟩ := gd_elim h
        refine mwL_8 X hK hP hg dX6_reckons_125 ?_
        obtain ⟨hg, h⟩ := gd_elim h
        refine mwL_20 X hK hP hg dX6_reckons_126 ?_
        refine lv_iload_n hx hb dX6_reckons_127 rfl (lv_at hl 3 rfl) ?_
        refine lv_if_eq (tgt := 136) hx hb dX6_reckons_128 (by decide) (fun hc => ?_) (fun hc => ?_)
        · replace h := ift hc h
          refine lv_ldc2 (v := 24) hx hb hown (hts _ mK_X6_110) dX6_reckons_136 ?_
          refine lv_aload_n hx hb dX6_reckons_139 rfl (lv_at hl 2 rfl) ?_
          refine mwG_0_11 X hK hP mF_X6_34 dX6_reckons_140 ?_
          refine lv_iload hx hb dX6_reckons_143 (lv_at hl 5 rfl) ?_
          obtain ⟨hg, h⟩ := gd_elim h
          refine mwL_9 X hK hP hg dX6_reckons_145 ?_
          refine lv_i2l (v := Int32.toInt64 (rA x 9 (Int32.toNatClampNeg v4))) hx hb dX6_reckons_146 rfl ?_
          refine lv_lmul hx hb dX6_reckons_147 ?_
          refine lv_aload_n hx hb dX6_reckons_148 rfl (lv_at hl 2 rfl) ?_
          refine mwG_0_12 X hK hP mF_X6_37 dX6_reckons_149 ?_
          refine lv_iconst (v := 1) hx hb dX6_reckons_152 (by decide) ?_
          refine mwL_10 X hK hP (by decide) dX6_reckons_153 ?_
          refine lv_i2l (v := Int32.toInt64 (rA x 10 (Int32.toNatClampNeg ((1 : Int32))))) hx hb dX6_reckons_154 rfl ?_
          refine lv_lload hx hb dX6_reckons_155 (lv_at hl 0 rfl) ?_
          refine lv_lmul hx hb dX6_reckons_157 ?_
          refine lv_ladd hx hb dX6_reckons_158 ?_
          exact w_X6_reckons_b159 X hK hA hk47 ih x v2 v3 v4 (rA x 6 (Int32.toNatClampNeg v4)) ((((24 : Int64)) * (Int32.toInt64 (rA x 9 (Int32.toNatClampNeg v4)))) + ((Int32.toInt64 (rA x 10 (Int32.toNatClampNeg ((1 : Int32))))) * ((Int32.toInt64 (rA x 7 (Int32.toNatClampNeg v4))) * (Int32.toInt64 (rA x 3 (Int32.toNatClampNeg (rA x 6 (Int32.toNatClampNeg v4)))))))) (rB x 20 (Int32.toNatClampNeg (rA x 8 (Int32.toNatClampNeg v4)))) _ _ _ hP hD hS (lv_sub hl [2, 3, 4, 5, 1] rfl) h
        · replace h := iff_ hc h
          refine lv_lload hx hb dX6_reckons_131 (lv_at hl 0 rfl) ?_
          refine lv_goto (tgt := 159) hx hb dX6_reckons_133 (by decide) ?_
          exact w_X6_reckons_b159 X hK hA hk47 ih x v2 v3 v4 (rA x 6 (Int32.toNatClampNeg v4)) ((Int32.toInt64 (rA x 7 (Int32.toNatClampNeg v4))) * (Int32.toInt64 (rA x 3 (Int32.toNatClampNeg (rA x 6 (Int32.toNatClampNeg v4)))))) (rB x 20 (Int32.toNatClampNeg (rA x 8 (Int32.toNatClampNeg v4)))) _ _ _ hP hD hS (lv_sub hl [2, 3, 4, 5, 1] rfl) h
      · replace h := iff_ hc h
        refine lv_goto (tgt := 239) hx hb dX6_reckons_93 (by decide) ?_
        refine lv_iinc (v := v4 + 1) (lv' := [(4, .int (v4 + 1)), (5, .int (rA x 6 (Int32.toNatClampNeg v4))), (0, .ref (a 0)), (2, .int v2), (3, .int v3)]) hx hb dX6_reckons_239 hl (k := 4) rfl rfl (by decide) rfl (fun ls hl => ?_)
        refine lv_goto (tgt := 56) hx hb dX6_reckons_242 (by decide) ?_
        exact ih x v2 v3 (v4 + 1) _ _ _ hP hD hS (lv_sub hl [2, 3, 4, 0] rfl) h
def f_X6_reckons_b47 : Nat → PD → Int32 → Int32 → Option (PD)
  | 0, _, _, _ => none
  | n + 1, x, v2, v3 =>
    if v3 = 0 then
  (some x)
  else
  (f_X6_reckons_b56 (f_X6_reckons_b47 n) FU x v2 ((0 : Int32)) ((0 : Int32)))
set_option maxHeartbeats 4000000 in
set_option maxRecDepth 100000 in
theorem w_X6_reckons_b47 {p : Program} {l : Launch} {e : Env} {s : State} {m : MethodId} {args : Array Value} {below : List Frame} {meth : Method} {c : Code} {D : va_G} {y : CY} {a : Nat → Nat} {A : Nat → Prop} {x' : PD} (X : mpX p s m args meth c cX6_reckons 11 none RX6) (hK : va_K D vwCl (mpT y) s) (hA : ∀ q, s.heap.size ≤ q → A q) : ∀ (n : Nat), ∀ (x : PD) (v2 : Int32) (v3 : Int32) (H : Heap) (locs : List Loc) (ls : Array Slot), va_P D vwCl (mw y a x) H → va_D A (mw y a x) → va_S A s.heap H locs → lv_has ls 11 [(0, .ref (a 0)), (2, .int v2), (3, .int v3)] → f_X6_reckons_b47 n x v2 v3 = some x' → W p l e { frames := 1, cells := 0, slots := 0, locals := 22 } s m args below meth c H locs 0 0 (MQ below (mpC D y A (mw y a x') none) args s 0 0 A) (F0 m 47 ls []) := by
  obtain ⟨⟨hx, hb, hml, hown, hts⟩, hr, hlk⟩ := id X
  intro n
  induction n with
  | zero =>
    intro x v2 v3 H locs ls hP hD hS hl h
    rw [f_X6_reckons_b47] at h
    exact nons h
  | succ n ih =>
    intro x v2 v3 H locs ls hP hD hS hl h
    rw [f_X6_reckons_b47] at h
    refine lv_iload_n hx hb dX6_reckons_47 rfl (lv_at hl 2 rfl) ?_
    refine lv_if_eq (tgt := 248) hx hb dX6_reckons_48 (by decide) (fun hc => ?_) (fun hc => ?_)
    · replace h := ift hc h
      cases h
      exact mpr_v X hK hP hD hS dX6_reckons_248
    · replace h := iff_ hc h
      refine lv_iconst (v := 0) hx hb dX6_reckons_51 (by decide) ?_
      refine lv_istore_n (lv' := [(3, .int ((0 : Int32))), (0, .ref (a 0)), (2, .int v2)]) hx hb dX6_reckons_52 rfl hl (by decide) rfl (fun ls hl => ?_)
      refine lv_iconst (v := 0) hx hb dX6_reckons_53 (by decide) ?_
      refine lv_istore (lv' := [(4, .int ((0 : Int32))), (3, .int ((0 : Int32))), (0, .ref (a 0)), (2, .int v2)]) hx hb dX6_reckons_54 hl (by decide) rfl (fun ls hl => ?_)
      exact w_X6_reckons_b56 X hK hA ih FU x v2 ((0 : Int32)) ((0 : Int32)) _ _ _ hP hD hS (lv_sub hl [2, 3, 1, 0] rfl) h
def f_X6_reckons_b31 (k2 : PD → Int32 → Int32 → Int32 → Option (PD)) (x : PD) (v1 : Int32) (v2 : Int32) (v3 : Int32) (t0 : Int64) (t1 : Int32) : Option (PD) :=
  gd (inR t1 20) (letv (wB x 20 (vp_updL (rB x 20) (Int32.toNatClampNeg t1) t0)) fun x4 =>
  gd (inR v3 20) (letv (wA x4 21 (upd (rA x4 21) (Int32.toNatClampNeg v3) ((0 : Int32)))) fun x5 =>
  (k2 x5 v1 v2 (v3 + 1))))
set_option maxHeartbeats 4000000 in
set_option maxRecDepth 100000 in
theorem w_X6_reckons_b31 {p : Program} {l : Launch} {e : Env} {s : State} {m : MethodId} {args : Array Value} {below : List Frame} {meth : Method} {c : Code} {D : va_G} {y : CY} {a : Nat → Nat} {A : Nat → Prop} {x' : PD} {k2 : PD → Int32 → Int32 → Int32 → Option (PD)} (X : mpX p s m args meth c cX6_reckons 11 none RX6) (hK : va_K D vwCl (mpT y) s) (hA : ∀ q, s.heap.size ≤ q → A q) (hk2 : ∀ (x : PD) (v1 : Int32) (v2 : Int32) (v3 : Int32) (H : Heap) (locs : List Loc) (ls : Array Slot), va_P D vwCl (mw y a x) H → va_D A (mw y a x) → va_S A s.heap H locs → lv_has ls 11 [(0, .ref (a 0)), (1, .int v1), (2, .int v2), (3, .int v3)] → k2 x v1 v2 v3 = some x' → W p l e { frames := 1, cells := 0, slots := 0, locals := 22 } s m args below meth c H locs 0 0 (MQ below (mpC D y A (mw y a x') none) args s 0 0 A) (F0 m 2 ls [])) : ∀ (x : PD) (v1 : Int32) (v2 : Int32) (v3 : Int32) (t0 : Int64) (t1 : Int32) (H : Heap) (locs : List Loc) (ls : Array Slot), va_P D vwCl (mw y a x) H → va_D A (mw y a x) → va_S A s.heap H locs → lv_has ls 11 [(0, .ref (a 0)), (1, .int v1), (2, .int v2), (3, .int v3)] → f_X6_reckons_b31 k2 x v1 v2 v3 t0 t1 = some x' → W p l e { frames := 1, cells := 0, slots := 0, locals := 22 } s m args below meth c H locs 0 0 (MQ below (mpC D y A (mw y a x') none) args s 0 0 A) (F0 m 31 ls [.long t0, .int t1, .ref (a 20)]) := by
  obtain ⟨⟨hx, hb, hml, hown, hts⟩, hr, hlk⟩ := id X
  intro x v1 v2 v3 t0 t1 H locs ls hP hD hS hl h
  unfold f_X6_reckons_b31 at h
  obtain ⟨hg, h⟩ := gd_elim h
  obtain ⟨x4, e1, h⟩ := letv_elim h
  refine mwS_20 X hK hP hD hS hg e1 dX6_reckons_31 (fun H locs hP hD hS => ?_)
  refine lv_aload_n hx hb dX6_reckons_32 rfl (lv_at hl 0 rfl) ?_
  refine mwG_0_29 X hK hP mF_X6_72 dX6_reckons_33 ?_
  refine lv_iload_n hx hb dX6_reckons_36 rfl (lv_at hl 3 rfl) ?_
  refine lv_iconst (v := 0) hx hb dX6_reckons_37 (by decide) ?_
  obtain ⟨hg, h⟩ := gd_elim h
  obtain ⟨x5, e1, h⟩ := letv_elim h
  refine mwS_21 X hK hP hD hS hg e1 dX6_reckons_38 (fun H locs hP hD hS => ?_)
  refine lv_iinc (v := v3 + 1) (lv' := [(3, .int (v3 + 1)), (0, .ref (a 0)), (1, .int v1), (2, .int v2)]) hx hb dX6_reckons_39 hl (k := 3) rfl rfl (by decide) rfl (fun ls hl => ?_)
  refine lv_goto (tgt := 2) hx hb dX6_reckons_42 (by decide) ?_
  exact hk2 x5 v1 v2 (v3 + 1) _ _ _ hP hD hS (lv_sub hl [1, 2, 3, 0] rfl) h
def f_X6_reckons_b2 : Nat → PD → Int32 → Int32 → Int32 → Option (PD)
  | 0, _, _, _, _ => none
  | n + 1, x, v1, v2, v3 =>
    if (rI x 1) ≤ v3 then
  ((f_X6_reckons_b47 FU x v2 ((1 : Int32))))
  else
  bn1 (f_X6_has x v3 v1) fun r3 =>
  if r3 = 0 then
  ((f_X6_reckons_b31 (f_X6_reckons_b2 n) x v1 v2 v3 ((1000000000000 : Int64)) v3))
  else
  (f_X6_reckons_b31 (f_X6_reckons_b2 n) x v1 v2 v3 ((0 : Int64)) v3)
set_option maxHeartbeats 4000000 in
set_option maxRecDepth 100000 in
theorem w_X6_reckons_b2 {p : Program} {l : Launch} {e : Env} {s : State} {m : MethodId} {args : Array Value} {below : List Frame} {meth : Method} {c : Code} {D : va_G} {y : CY} {a : Nat → Nat} {A : Nat → Prop} {x' : PD} (X : mpX p s m args meth c cX6_reckons 11 none RX6) (hK : va_K D vwCl (mpT y) s) (hA : ∀ q, s.heap.size ≤ q → A q) : ∀ (n : Nat), ∀ (x : PD) (v1 : Int32) (v2 : Int32) (v3 : Int32) (H : Heap) (locs : List Loc) (ls : Array Slot), va_P D vwCl (mw y a x) H → va_D A (mw y a x) → va_S A s.heap H locs → lv_has ls 11 [(0, .ref (a 0)), (1, .int v1), (2, .int v2), (3, .int v3)] → f_X6_reckons_b2 n x v1 v2 v3 = some x' → W p l e { frames := 1, cells := 0, slots := 0, locals := 22 } s m args below meth c H locs 0 0 (MQ below (mpC D y A (mw y a x') none) args s 0 0 A) (F0 m 2 ls []) := by
  obtain ⟨⟨hx, hb, hml, hown, hts⟩, hr, hlk⟩ := id X
  intro n
  induction n with
  | zero =>
    intro x v1 v2 v3 H locs ls hP hD hS hl h
    rw [f_X6_reckons_b2] at h
    exact nons h
  | succ n ih =>
    intro x v1 v2 v3 H locs ls hP hD hS hl h
    rw [f_X6_reckons_b2] at h
    refine lv_iload_n hx hb dX6_reckons_2 rfl (lv_at hl 3 rfl) ?_
    refine lv_aload_n hx hb dX6_reckons_3 rfl (lv_at hl 0 rfl) ?_
    refine mwG_0_1 X hK hP mF_X6_84 dX6_reckons_4 ?_
    refine lv_icmp_ge (tgt := 45) hx hb dX6_reckons_7 (by decide) (fun hc => ?_) (fun hc => ?_)
    · replace h := ift hc h
      refine lv_iconst (v := 1) hx hb dX6_reckons_45 (by decide) ?_
      refine lv_istore_n (lv' := [(3, .int ((1 : Int32))), (0, .ref (a 0)), (1, .int v1), (2, .int v2)]) hx hb dX6_reckons_46 rfl hl (by decide) rfl (fun ls hl => ?_)
      exact w_X6_reckons_b47 X hK hA FU x v2 ((1 : Int32)) _ _ _ hP hD hS (lv_sub hl [1, 3, 0] rfl) h
    · replace h := iff_ hc h
      refine lv_aload_n hx hb dX6_reckons_10 rfl (lv_at hl 0 rfl) ?_
      refine mwG_0_28 X hK hP mF_X6_69 dX6_reckons_11 ?_
      refine lv_iload_n hx hb dX6_reckons_14 rfl (lv_at hl 3 rfl) ?_
      refine lv_aload_n hx hb dX6_reckons_15 rfl (lv_at hl 0 rfl) ?_
      refine lv_iload_n hx hb dX6_reckons_16 rfl (lv_at hl 3 rfl) ?_
      refine lv_iload_n hx hb dX6_reckons_17 rfl (lv_at hl 1 rfl) ?_
      obtain ⟨r3, hr0, h⟩ := bn1_elim h
      refine mp_call1 (As := [.int v3, .int v1]) (rest := [.int v3, .ref (a 20)]) X (c_X6_has l D y a hr0) (mp_cw (k := 2) hts mM_X6_104 mI_X6_has mS_X6_has mN_X6 mC_X6_has rfl rfl (by decide +kernel) ⟨Nat.le_of_ble_eq_true rfl, Nat.le_of_ble_eq_true rfl⟩) hK hP hD hS hA 0 mwC_0 rfl rfl hl.1 rfl (Nat.le_of_ble_eq_true rfl) dX6_reckons_18 ⟨Nat.zero_le _, Nat.zero_le _⟩ (fun H locs hP hD hS => ?_)
      refine lv_if_eq (tgt := 28) hx hb dX6_reckons_21 (by decide) (fun hc => ?_) (fun hc => ?_)
      · replace h := ift hc h
        refine lv_ldc2 (v := 1000000000000) hx hb hown (hts _ mK_X6_108) dX6_reckons_28 ?_
        exact w_X6_reckons_b31 X hK hA ih x v1 v2 v3 ((1000000000000 : Int64)) v3 _ _ _ hP hD hS (lv_sub hl [0, 1, 2, 3] rfl) h
      · replace h := iff_ hc h
        refine lv_lconst (v := 0) hx hb dX6_reckons_24 (by decide) ?_
        refine lv_goto (tgt := 31) hx hb dX6_reckons_25 (by decide) ?_
        exact w_X6_reckons_b31 X hK hA ih x v1 v2 v3 ((0 : Int64)) v3 _ _ _ hP hD hS (lv_sub hl [0, 1, 2, 3] rfl) h
def f_X6_reckons (x : PD) (p1 : Int32) (p2 : Int32) : Option (PD) :=
  (f_X6_reckons_b2 FU x p1 p2 ((0 : Int32)))
set_option maxHeartbeats 4000000 in
set_option maxRecDepth 100000 in
theorem c_X6_reckons (l : Launch) (D : va_G) (y : CY) (a : Nat → Nat) {x : PD} {x' : PD} {p1 : Int32} {p2 : Int32} (h : f_X6_reckons x p1 p2 = some x') : mpM l D y yX6_reckons cX6_reckons 11 none { frames := 1, cells := 0, slots := 0, locals := 22 } (mw y a x) (mw y a x') [.ref (a 0), .int p1, .int p2] none := by
  refine mpM.mk (own := RX6) (by decide) rfl (Nat.le_of_ble_eq_true rfl) ?_
  intro p e s m below meth c A ls X hK hA hP hD hl
  have hS : va_S A s.heap s.heap [] := va_S.rf
  obtain ⟨⟨hx, hb, hml, hown, hts⟩, hr, hlk⟩ := id X
  have hl : lv_has ls 11 [(0, .ref (a 0)), (1, .int p1), (2, .int p2)] := hl
  unfold f_X6_reckons at h
  refine lv_iconst (v := 0) hx hb dX6_reckons_0 (by decide) ?_
  refine lv_istore_n (lv' := [(3, .int ((0 : Int32))), (0, .ref (a 0)), (1, .int p1), (2, .int p2)]) hx hb dX6_reckons_1 rfl hl (by decide) rfl (fun ls hl => ?_)
  exact w_X6_reckons_b2 X hK hA FU x p1 p2 ((0 : Int32)) _ _ _ hP hD hS (lv_sub hl [1, 2, 3, 0] rfl) h
def f_X6_isStep (x : PD) (p1 : Int32) (p2 : Int32) (p3 : Int32) : Option (Int32) :=
  if p1 = ((100 : Int32)) then
  gd (inR p2 20) (if (rA x 1 (Int32.toNatClampNeg p2)) = 0 then
  some ((1 : Int32))
  else
  some ((0 : Int32)))
  else
  if (rI x 2) ≤ p1 then
  (some ((0 : Int32)))
  else
  gd (inR p1 100) (if (rA x 6 (Int32.toNatClampNeg p1)) = p2 then
  gd (inR p1 100) (if (rA x 7 (Int32.toNatClampNeg p1)) ≤ p3 then
  (some ((0 : Int32)))
  else
  some ((1 : Int32)))
  else
  some ((0 : Int32)))
set_option maxHeartbeats 4000000 in
set_option maxRecDepth 100000 in
theorem c_X6_isStep (l : Launch) (D : va_G) (y : CY) (a : Nat → Nat) {x : PD} {r : Int32} {p1 : Int32} {p2 : Int32} {p3 : Int32} (h : f_X6_isStep x p1 p2 p3 = some r) : mpM l D y yX6_isStep cX6_isStep 4 (some .boolean) { frames := 0, cells := 0, slots := 0, locals := 0 } (mw y a x) (mw y a x) [.ref (a 0), .int p1, .int p2, .int p3] (some (.int r)) := by
  refine mpM.mk (own := RX6) (by decide) rfl (Nat.le_of_ble_eq_true rfl) ?_
  intro p e s m below meth c A ls X hK hA hP hD hl
  have hS : va_S A s.heap s.heap [] := va_S.rf
  obtain ⟨⟨hx, hb, hml, hown, hts⟩, hr, hlk⟩ := id X
  have hl : lv_has ls 4 [(0, .ref (a 0)), (1, .int p1), (2, .int p2), (3, .int p3)] := hl
  unfold f_X6_isStep at h
  refine lv_iload_n hx hb dX6_isStep_0 rfl (lv_at hl 1 rfl) ?_
  refine lv_bipush (v := 100) hx hb dX6_isStep_1 (by decide) ?_
  refine lv_icmp_ne (tgt := 21) hx hb dX6_isStep_3 (by decide) (fun hc => ?_) (fun hc => ?_)
  · replace h := iff_ hc h
    refine lv_iload_n hx hb dX6_isStep_21 rfl (lv_at hl 1 rfl) ?_
    refine lv_aload_n hx hb dX6_isStep_22 rfl (lv_at hl 0 rfl) ?_
    refine mwG_0_2 X hK hP mF_X6_98 dX6_isStep_23 ?_
    refine lv_icmp_ge (tgt := 53) hx hb dX6_isStep_26 (by decide) (fun hc => ?_) (fun hc => ?_)
    · replace h := ift hc h
      refine lv_iconst (v := 0) hx hb dX6_isStep_53 (by decide) ?_
      cases h
      exact mpr_z X hK hP hD hS rfl rfl dX6_isStep_54
    · replace h := iff_ hc h
      refine lv_aload_n hx hb dX6_isStep_29 rfl (lv_at hl 0 rfl) ?_
      refine mwG_0_8 X hK hP mF_X6_25 dX6_isStep_30 ?_
      refine lv_iload_n hx hb dX6_isStep_33 rfl (lv_at hl 1 rfl) ?_
      obtain ⟨hg, h⟩ := gd_elim h
      refine mwL_6 X hK hP hg dX6_isStep_34 ?_
      refine lv_iload_n hx hb dX6_isStep_35 rfl (lv_at hl 2 rfl) ?_
      refine lv_icmp_ne (tgt := 53) hx hb dX6_isStep_36 (by decide) (fun hc => ?_) (fun hc => ?_)
      · replace h := iff_ hc h
        refine lv_iconst (v := 0) hx hb dX6_isStep_53 (by decide) ?_
        cases h
        exact mpr_z X hK hP hD hS rfl rfl dX6_isStep_54
      · replace h := ift hc h
        refine lv_aload_n hx hb dX6_isStep_39 rfl (lv_at hl 0 rfl) ?_
        refine mwG_0_9 X hK hP mF_X6_28 dX6_isStep_40 ?_
        refine lv_iload_n hx hb dX6_isStep_43 rfl (lv_at hl 1 rfl) ?_
        obtain ⟨hg, h⟩ := gd_elim h
        refine mwL_7 X hK hP hg dX6_isStep_44 ?_
        refine lv_iload_n hx hb dX6_isStep_45 rfl (lv_at hl 3 rfl) ?_
        refine lv_icmp_le (tgt := 53) hx hb dX6_isStep_46 (by decide) (fun hc => ?_) (fun hc => ?_)
        · replace h := ift hc h
          refine lv_iconst (v := 0) hx hb dX6_isStep_53 (by decide) ?_
          cases h
          exact mpr_z X hK hP hD hS rfl rfl dX6_isStep_54
        · replace h := iff_ hc h
          refine lv_iconst (v := 1) hx hb dX6_isStep_49 (by decide) ?_
          refine lv_goto (tgt := 54) hx hb dX6_isStep_50 (by decide) ?_
          cases h
          exact mpr_z X hK hP hD hS rfl rfl dX6_isStep_54
  · replace h := ift hc h
    refine lv_aload_n hx hb dX6_isStep_6 rfl (lv_at hl 0 rfl) ?_
    refine mwG_0_3 X hK hP mF_X6_7 dX6_isStep_7 ?_
    refine lv_iload_n hx hb dX6_isStep_10 rfl (lv_at hl 2 rfl) ?_
    obtain ⟨hg, h⟩ := gd_elim h
    refine mwL_1 X hK hP hg dX6_isStep_11 ?_
    refine lv_if_ne (tgt := 19) hx hb dX6_isStep_12 (by decide) (fun hc => ?_) (fun hc => ?_)
    · replace h := iff_ hc h
      refine lv_iconst (v := 0) hx hb dX6_isStep_19 (by decide) ?_
      cases h
      exact mpr_z X hK hP hD hS rfl rfl dX6_isStep_20
    · replace h := ift hc h
      refine lv_iconst (v := 1) hx hb dX6_isStep_15 (by decide) ?_
      refine lv_goto (tgt := 20) hx hb dX6_isStep_16 (by decide) ?_
      cases h
      exact mpr_z X hK hP hD hS rfl rfl dX6_isStep_20
def f_X6_leads (x : PD) (p1 : Int32) (p2 : Int32) : Option (Int32) :=
  if p1 = ((100 : Int32)) then
  some p2
  else
  gd (inR p1 100) (some (rA x 8 (Int32.toNatClampNeg p1)))
set_option maxHeartbeats 4000000 in
set_option maxRecDepth 100000 in
theorem c_X6_leads (l : Launch) (D : va_G) (y : CY) (a : Nat → Nat) {x : PD} {r : Int32} {p1 : Int32} {p2 : Int32} (h : f_X6_leads x p1 p2 = some r) : mpM l D y yX6_leads cX6_leads 3 (some .int) { frames := 0, cells := 0, slots := 0, locals := 0 } (mw y a x) (mw y a x) [.ref (a 0), .int p1, .int p2] (some (.int r)) := by
  refine mpM.mk (own := RX6) (by decide) rfl (Nat.le_of_ble_eq_true rfl) ?_
  intro p e s m below meth c A ls X hK hA hP hD hl
  have hS : va_S A s.heap s.heap [] := va_S.rf
  obtain ⟨⟨hx, hb, hml, hown, hts⟩, hr, hlk⟩ := id X
  have hl : lv_has ls 3 [(0, .ref (a 0)), (1, .int p1), (2, .int p2)] := hl
  unfold f_X6_leads at h
  refine lv_iload_n hx hb dX6_leads_0 rfl (lv_at hl 1 rfl) ?_
  refine lv_bipush (v := 100) hx hb dX6_leads_1 (by decide) ?_
  refine lv_icmp_ne (tgt := 10) hx hb dX6_leads_3 (by decide) (fun hc => ?_) (fun hc => ?_)
  · replace h := iff_ hc h
    refine lv_aload_n hx hb dX6_leads_10 rfl (lv_at hl 0 rfl) ?_
    refine mwG_0_10 X hK hP mF_X6_31 dX6_leads_11 ?_
    refine lv_iload_n hx hb dX6_leads_14 rfl (lv_at hl 1 rfl) ?_
    obtain ⟨hg, h⟩ := gd_elim h
    refine mwL_8 X hK hP hg dX6_leads_15 ?_
    cases h
    exact mpr_i X hK hP hD hS rfl dX6_leads_16
  · replace h := ift hc h
    refine lv_iload_n hx hb dX6_leads_6 rfl (lv_at hl 2 rfl) ?_
    refine lv_goto (tgt := 16) hx hb dX6_leads_7 (by decide) ?_
    cases h
    exact mpr_i X hK hP hD hS rfl dX6_leads_16
def f_X6_until (x : PD) (p1 : Int32) (p2 : Int32) (p3 : Int32) (p4 : Int32) : Option (Int64) :=
  gd (inR p1 20) (some (((Int32.toInt64 (p4 - p2)) * (Int32.toInt64 (rA x 3 (Int32.toNatClampNeg p1)))) - (Int32.toInt64 p3)))
set_option maxHeartbeats 4000000 in
set_option maxRecDepth 100000 in
theorem c_X6_until (l : Launch) (D : va_G) (y : CY) (a : Nat → Nat) {x : PD} {r : Int64} {p1 : Int32} {p2 : Int32} {p3 : Int32} {p4 : Int32} (h : f_X6_until x p1 p2 p3 p4 = some r) : mpM l D y yX6_until cX6_until 5 (some .long) { frames := 0, cells := 0, slots := 0, locals := 0 } (mw y a x) (mw y a x) [.ref (a 0), .int p1, .int p2, .int p3, .int p4] (some (.long r)) := by
  refine mpM.mk (own := RX6) (by decide) rfl (Nat.le_of_ble_eq_true rfl) ?_
  intro p e s m below meth c A ls X hK hA hP hD hl
  have hS : va_S A s.heap s.heap [] := va_S.rf
  obtain ⟨⟨hx, hb, hml, hown, hts⟩, hr, hlk⟩ := id X
  have hl : lv_has ls 5 [(0, .ref (a 0)), (1, .int p1), (2, .int p2), (3, .int p3), (4, .int p4)] := hl
  unfold f_X6_until at h
  refine lv_iload hx hb dX6_until_0 (lv_at hl 4 rfl) ?_
  refine lv_iload_n hx hb dX6_until_2 rfl (lv_at hl 2 rfl) ?_
  refine lv_isub hx hb dX6_until_3 ?_
  refine lv_i2l (v := Int32.toInt64 (p4 - p2)) hx hb dX6_until_4 rfl ?_
  refine lv_aload_n hx hb dX6_until_5 rfl (lv_at hl 0 rfl) ?_
  refine mwG_0_5 X hK hP mF_X6_16 dX6_until_6 ?_
  refine lv_iload_n hx hb dX6_until_9 rfl (lv_at hl 1 rfl) ?_
  obtain ⟨hg, h⟩ := gd_elim h
  refine mwL_3 X hK hP hg dX6_until_10 ?_
  refine lv_i2l (v := Int32.toInt64 (rA x 3 (Int32.toNatClampNeg p1))) hx hb dX6_until_11 rfl ?_
  refine lv_lmul hx hb dX6_until_12 ?_
  refine lv_iload_n hx hb dX6_until_13 rfl (lv_at hl 3 rfl) ?_
  refine lv_i2l (v := Int32.toInt64 p3) hx hb dX6_until_14 rfl ?_
  refine lv_lsub hx hb dX6_until_15 ?_
  cases h
  exact mpr_l X hK hP hD hS rfl dX6_until_16
def f_X6_stepCost (x : PD) (p1 : Int32) (p2 : Int32) (p3 : Int32) (p4 : Int32) : Option (Int64) :=
  if p1 = ((100 : Int32)) then
  gd (inR p2 20) (bn1 (f_X6_until x p2 p3 p4 (rA x 2 (Int32.toNatClampNeg p2))) fun r2 =>
  some ((((24 : Int64)) * (Int32.toInt64 (rA x 10 (Int32.toNatClampNeg ((0 : Int32)))))) + ((Int32.toInt64 (rA x 10 (Int32.toNatClampNeg ((1 : Int32))))) * r2)))
  else
  gd (inR p1 100) (gd (inR p1 100) (bn1 (f_X6_until x p2 p3 p4 (rA x 7 (Int32.toNatClampNeg p1))) fun r1 =>
  some ((((24 : Int64)) * (Int32.toInt64 (rA x 9 (Int32.toNatClampNeg p1)))) + ((Int32.toInt64 (rA x 10 (Int32.toNatClampNeg ((1 : Int32))))) * r1))))
set_option maxHeartbeats 4000000 in
set_option maxRecDepth 100000 in
theorem c_X6_stepCost (l : Launch) (D : va_G) (y : CY) (a : Nat → Nat) {x : PD} {r : Int64} {p1 : Int32} {p2 : Int32} {p3 : Int32} {p4 : Int32} (h : f_X6_stepCost x p1 p2 p3 p4 = some r) : mpM l D y yX6_stepCost cX6_stepCost 5 (some .long) { frames := 1, cells := 0, slots := 0, locals := 24 } (mw y a x) (mw y a x) [.ref (a 0), .int p1, .int p2, .int p3, .int p4] (some (.long r)) := by
  refine mpM.mk (own := RX6) (by decide) rfl (Nat.le_of_ble_eq_true rfl) ?_
  intro p e s m below meth c A ls X hK hA hP hD hl
  have hS : va_S A s.heap s.heap [] := va_S.rf
  obtain ⟨⟨hx, hb, hml, hown, hts⟩, hr, hlk⟩ := id X
  have hl : lv_has ls 5 [(0, .ref (a 0)), (1, .int p1), (2, .int p2), (3, .int p3), (4, .int p4)] := hl
  unfold f_X6_stepCost at h
  refine lv_iload_n hx hb dX6_stepCost_0 rfl (lv_at hl 1 rfl) ?_
  refine lv_bipush (v := 100) hx hb dX6_stepCost_1 (by decide) ?_
  refine lv_icmp_ne (tgt := 41) hx hb dX6_stepCost_3 (by decide) (fun hc => ?_) (fun hc => ?_)
  · replace h := iff_ hc h
    refine lv_ldc2 (v := 24) hx hb hown (hts _ mK_X6_110) dX6_stepCost_41 ?_
    refine lv_aload_n hx hb dX6_stepCost_44 rfl (lv_at hl 0 rfl) ?_
    refine mwG_0_11 X hK hP mF_X6_34 dX6_stepCost_45 ?_
    refine lv_iload_n hx hb dX6_stepCost_48 rfl (lv_at hl 1 rfl) ?_
    obtain ⟨hg, h⟩ := gd_elim h
    refine mwL_9 X hK hP hg dX6_stepCost_49 ?_
    refine lv_i2l (v := Int32.toInt64 (rA x 9 (Int32.toNatClampNeg p1))) hx hb dX6_stepCost_50 rfl ?_
    refine lv_lmul hx hb dX6_stepCost_51 ?_
    refine lv_aload_n hx hb dX6_stepCost_52 rfl (lv_at hl 0 rfl) ?_
    refine mwG_0_12 X hK hP mF_X6_37 dX6_stepCost_53 ?_
    refine lv_iconst (v := 1) hx hb dX6_stepCost_56 (by decide) ?_
    refine mwL_10 X hK hP (by decide) dX6_stepCost_57 ?_
    refine lv_i2l (v := Int32.toInt64 (rA x 10 (Int32.toNatClampNeg ((1 : Int32))))) hx hb dX6_stepCost_58 rfl ?_
    refine lv_aload_n hx hb dX6_stepCost_59 rfl (lv_at hl 0 rfl) ?_
    refine lv_iload_n hx hb dX6_stepCost_60 rfl (lv_at hl 2 rfl) ?_
    refine lv_iload_n hx hb dX6_stepCost_61 rfl (lv_at hl 3 rfl) ?_
    refine lv_iload hx hb dX6_stepCost_62 (lv_at hl 4 rfl) ?_
    refine lv_aload_n hx hb dX6_stepCost_64 rfl (lv_at hl 0 rfl) ?_
    refine mwG_0_9 X hK hP mF_X6_28 dX6_stepCost_65 ?_
    refine lv_iload_n hx hb dX6_stepCost_68 rfl (lv_at hl 1 rfl) ?_
    obtain ⟨hg, h⟩ := gd_elim h
    refine mwL_7 X hK hP hg dX6_stepCost_69 ?_
    obtain ⟨r1, hr0, h⟩ := bn1_elim h
    refine mp_call1 (As := [.int p2, .int p3, .int p4, .int (rA x 7 (Int32.toNatClampNeg p1))]) (rest := [.long (Int32.toInt64 (rA x 10 (Int32.toNatClampNeg ((1 : Int32))))), .long (((24 : Int64)) * (Int32.toInt64 (rA x 9 (Int32.toNatClampNeg p1))))]) X (c_X6_until l D y a hr0) (mp_cw (k := 4) hts mM_X6_112 mI_X6_until mS_X6_until mN_X6 mC_X6_until rfl rfl (by decide +kernel) ⟨Nat.le_of_ble_eq_true rfl, Nat.le_of_ble_eq_true rfl⟩) hK hP hD hS hA 0 mwC_0 rfl rfl hl.1 rfl (Nat.le_of_ble_eq_true rfl) dX6_stepCost_70 ⟨Nat.zero_le _, Nat.zero_le _⟩ (fun H locs hP hD hS => ?_)
    refine lv_lmul hx hb dX6_stepCost_73 ?_
    refine lv_ladd hx hb dX6_stepCost_74 ?_
    cases h
    exact mpr_l X hK hP hD hS rfl dX6_stepCost_75
  · replace h := ift hc h
    refine lv_ldc2 (v := 24) hx hb hown (hts _ mK_X6_110) dX6_stepCost_6 ?_
    refine lv_aload_n hx hb dX6_stepCost_9 rfl (lv_at hl 0 rfl) ?_
    refine mwG_0_12 X hK hP mF_X6_37 dX6_stepCost_10 ?_
    refine lv_iconst (v := 0) hx hb dX6_stepCost_13 (by decide) ?_
    refine mwL_10 X hK hP (by decide) dX6_stepCost_14 ?_
    refine lv_i2l (v := Int32.toInt64 (rA x 10 (Int32.toNatClampNeg ((0 : Int32))))) hx hb dX6_stepCost_15 rfl ?_
    refine lv_lmul hx hb dX6_stepCost_16 ?_
    refine lv_aload_n hx hb dX6_stepCost_17 rfl (lv_at hl 0 rfl) ?_
    refine mwG_0_12 X hK hP mF_X6_37 dX6_stepCost_18 ?_
    refine lv_iconst (v := 1) hx hb dX6_stepCost_21 (by decide) ?_
    refine mwL_10 X hK hP (by decide) dX6_stepCost_22 ?_
    refine lv_i2l (v := Int32.toInt64 (rA x 10 (Int32.toNatClampNeg ((1 : Int32))))) hx hb dX6_stepCost_23 rfl ?_
    refine lv_aload_n hx hb dX6_stepCost_24 rfl (lv_at hl 0 rfl) ?_
    refine lv_iload_n hx hb dX6_stepCost_25 rfl (lv_at hl 2 rfl) ?_
    refine lv_iload_n hx hb dX6_stepCost_26 rfl (lv_at hl 3 rfl) ?_
    refine lv_iload hx hb dX6_stepCost_27 (lv_at hl 4 rfl) ?_
    refine lv_aload_n hx hb dX6_stepCost_29 rfl (lv_at hl 0 rfl) ?_
    refine mwG_0_4 X hK hP mF_X6_13 dX6_stepCost_30 ?_
    refine lv_iload_n hx hb dX6_stepCost_33 rfl (lv_at hl 2 rfl) ?_
    obtain ⟨hg, h⟩ := gd_elim h
    refine mwL_2 X hK hP hg dX6_stepCost_34 ?_
    obtain ⟨r2, hr0, h⟩ := bn1_elim h
    refine mp_call1 (As := [.int p2, .int p3, .int p4, .int (rA x 2 (Int32.toNatClampNeg p2))]) (rest := [.long (Int32.toInt64 (rA x 10 (Int32.toNatClampNeg ((1 : Int32))))), .long (((24 : Int64)) * (Int32.toInt64 (rA x 10 (Int32.toNatClampNeg ((0 : Int32))))))]) X (c_X6_until l D y a hr0) (mp_cw (k := 4) hts mM_X6_112 mI_X6_until mS_X6_until mN_X6 mC_X6_until rfl rfl (by decide +kernel) ⟨Nat.le_of_ble_eq_true rfl, Nat.le_of_ble_eq_true rfl⟩) hK hP hD hS hA 0 mwC_0 rfl rfl hl.1 rfl (Nat.le_of_ble_eq_true rfl) dX6_stepCost_35 ⟨Nat.zero_le _, Nat.zero_le _⟩ (fun H locs hP hD hS => ?_)
    refine lv_lmul hx hb dX6_stepCost_38 ?_
    refine lv_ladd hx hb dX6_stepCost_39 ?_
    cases h
    exact mpr_l X hK hP hD hS rfl dX6_stepCost_40
def f_X6_finds_b216 (k208 : PD → Int32 → Int32 → Int32 → Int64 → Int32 → Option (PD)) : Nat → PD → Int32 → Int32 → Int32 → Int64 → Int32 → Int32 → Option (PD)
  | 0, _, _, _, _, _, _, _ => none
  | n + 1, x, v1, v2, v3, v4, v6, v7 =>
    bn1 (f_X6_isStep x v7 v1 v2) fun r12 =>
  if r12 = 0 then
  (((f_X6_finds_b216 k208 n) x v1 v2 v3 v4 v6 (v7 + 1)))
  else
  bn1 (f_X6_leads x v7 v1) fun r13 =>
  gd (inR r13 20) (if 0 ≤ (lg_cmp (rB x 20 (Int32.toNatClampNeg r13)) ((1000000000000 : Int64))) then
  (((f_X6_finds_b216 k208 n) x v1 v2 v3 v4 v6 (v7 + 1)))
  else
  bn1 (f_X6_leads x v7 v1) fun r14 =>
  gd (inR r14 20) (if ((rA x 21 (Int32.toNatClampNeg r14)) + ((1 : Int32))) = v6 then
  bn1 (f_X6_stepCost x v7 v1 v2 v3) fun r15 =>
  bn1 (f_X6_leads x v7 v1) fun r16 =>
  gd (inR r16 20) (if (lg_cmp (r15 + (rB x 20 (Int32.toNatClampNeg r16))) v4) = 0 then
  (gd (inR (rI x 21) 32) (letv (wA x 16 (upd (rA x 16) (Int32.toNatClampNeg (rI x 21)) v7)) fun x17 =>
  letv (wI x17 21 ((rI x17 21) + ((1 : Int32)))) fun x18 =>
  bn1 (f_X6_leads x18 v7 v1) fun r19 =>
  gd (inR r19 20) (gd (inR r19 20) ((k208 x18 r19 ((0 : Int32)) ((0 : Int32)) (rB x18 20 (Int32.toNatClampNeg r19)) (rA x18 21 (Int32.toNatClampNeg r19)))))))
  else
  ((f_X6_finds_b216 k208 n) x v1 v2 v3 v4 v6 (v7 + 1)))
  else
  ((f_X6_finds_b216 k208 n) x v1 v2 v3 v4 v6 (v7 + 1))))
set_option maxHeartbeats 4000000 in
set_option maxRecDepth 100000 in
theorem w_X6_finds_b216 {p : Program} {l : Launch} {e : Env} {s : State} {m : MethodId} {args : Array Value} {below : List Frame} {meth : Method} {c : Code} {D : va_G} {y : CY} {a : Nat → Nat} {A : Nat → Prop} {x' : PD} {k208 : PD → Int32 → Int32 → Int32 → Int64 → Int32 → Option (PD)} (X : mpX p s m args meth c cX6_finds 11 none RX6) (hK : va_K D vwCl (mpT y) s) (hA : ∀ q, s.heap.size ≤ q → A q) (hk208 : ∀ (x : PD) (v1 : Int32) (v2 : Int32) (v3 : Int32) (v4 : Int64) (v6 : Int32) (H : Heap) (locs : List Loc) (ls : Array Slot), va_P D vwCl (mw y a x) H → va_D A (mw y a x) → va_S A s.heap H locs → lv_has ls 11 [(0, .ref (a 0)), (1, .int v1), (2, .int v2), (3, .int v3), (4, .long v4), (6, .int v6)] → k208 x v1 v2 v3 v4 v6 = some x' → W p l e { frames := 2, cells := 0, slots := 0, locals := 52 } s m args below meth c H locs 0 0 (MQ below (mpC D y A (mw y a x') none) args s 0 0 A) (F0 m 208 ls [])) : ∀ (n : Nat), ∀ (x : PD) (v1 : Int32) (v2 : Int32) (v3 : Int32) (v4 : Int64) (v6 : Int32) (v7 : Int32) (H : Heap) (locs : List Loc) (ls : Array Slot), va_P D vwCl (mw y a x) H → va_D A (mw y a x) → va_S A s.heap H locs → lv_has ls 11 [(0, .ref (a 0)), (1, .int v1), (2, .int v2), (3, .int v3), (4, .long v4), (6, .int v6), (7, .int v7)] → f_X6_finds_b216 k208 n x v1 v2 v3 v4 v6 v7 = some x' → W p l e { frames := 2, cells := 0, slots := 0, locals := 52 } s m args below meth c H locs 0 0 (MQ below (mpC D y A (mw y a x') none) args s 0 0 A) (F0 m 216 ls []) := by
  obtain ⟨⟨hx, hb, hml, hown, hts⟩, hr, hlk⟩ := id X
  intro n
  induction n with
  | zero =>
    intro x v1 v2 v3 v4 v6 v7 H locs ls hP hD hS hl h
    rw [f_X6_finds_b216] at h
    exact nons h
  | succ n ih =>
    intro x v1 v2 v3 v4 v6 v7 H locs ls hP hD hS hl h
    rw [f_X6_finds_b216] at h
    refine lv_aload_n hx hb dX6_finds_216 rfl (lv_at hl 0 rfl) ?_
    refine lv_iload hx hb dX6_finds_217 (lv_at hl 6 rfl) ?_
    refine lv_iload_n hx hb dX6_finds_219 rfl (lv_at hl 1 rfl) ?_
    refine lv_iload_n hx hb dX6_finds_220 rfl (lv_at hl 2 rfl) ?_
    obtain ⟨r12, hr0, h⟩ := bn1_elim h
    refine mp_call1 (As := [.int v7, .int v1, .int v2]) (rest := []) X (c_X6_isStep l D y a hr0) (mp_cw (k := 3) hts mM_X6_134 mI_X6_isStep mS_X6_isStep mN_X6 mC_X6_isStep rfl rfl (by decide +kernel) ⟨Nat.le_of_ble_eq_true rfl, Nat.le_of_ble_eq_true rfl⟩) hK hP hD hS hA 0 mwC_0 rfl rfl hl.1 rfl (Nat.le_of_ble_eq_true rfl) dX6_finds_221 ⟨Nat.zero_le _, Nat.zero_le _⟩ (fun H locs hP hD hS => ?_)
    refine lv_if_eq (tgt := 293) hx hb dX6_finds_224 (by decide) (fun hc => ?_) (fun hc => ?_)
    · replace h := ift hc h
      refine lv_iinc (v := v7 + 1) (lv' := [(7, .int (v7 + 1)), (0, .ref (a 0)), (1, .int v1), (2, .int v2), (3, .int v3), (4, .long v4), (6, .int v6)]) hx hb dX6_finds_293 hl (k := 6) rfl rfl (by decide) rfl (fun ls hl => ?_)
      refine lv_goto (tgt := 216) hx hb dX6_finds_296 (by decide) ?_
      exact ih x v1 v2 v3 v4 v6 (v7 + 1) _ _ _ hP hD hS (lv_sub hl [1, 2, 3, 4, 5, 6, 0] rfl) h
    · replace h := iff_ hc h
      refine lv_aload_n hx hb dX6_finds_227 rfl (lv_at hl 0 rfl) ?_
      refine mwG_0_28 X hK hP mF_X6_69 dX6_finds_228 ?_
      refine lv_aload_n hx hb dX6_finds_231 rfl (lv_at hl 0 rfl) ?_
      refine lv_iload hx hb dX6_finds_232 (lv_at hl 6 rfl) ?_
      refine lv_iload_n hx hb dX6_finds_234 rfl (lv_at hl 1 rfl) ?_
      obtain ⟨r13, hr0, h⟩ := bn1_elim h
      refine mp_call1 (As := [.int v7, .int v1]) (rest := [.ref (a 20)]) X (c_X6_leads l D y a hr0) (mp_cw (k := 2) hts mM_X6_138 mI_X6_leads mS_X6_leads mN_X6 mC_X6_leads rfl rfl (by decide +kernel) ⟨Nat.le_of_ble_eq_true rfl, Nat.le_of_ble_eq_true rfl⟩) hK hP hD hS hA 0 mwC_0 rfl rfl hl.1 rfl (Nat.le_of_ble_eq_true rfl) dX6_finds_235 ⟨Nat.zero_le _, Nat.zero_le _⟩ (fun H locs hP hD hS => ?_)
      obtain ⟨hg, h⟩ := gd_elim h
      refine mwL_20 X hK hP hg dX6_finds_238 ?_
      refine lv_ldc2 (v := 1000000000000) hx hb hown (hts _ mK_X6_108) dX6_finds_239 ?_
      refine W.lcmp hx hb dX6_finds_242 ?_
      refine lv_if_ge (tgt := 293) hx hb dX6_finds_243 (by decide) (fun hc => ?_) (fun hc => ?_)
      · replace h := ift hc h
        refine lv_iinc (v := v7 + 1) (lv' := [(7, .int (v7 + 1)), (0, .ref (a 0)), (1, .int v1), (2, .int v2), (3, .int v3), (4, .long v4), (6, .int v6)]) hx hb dX6_finds_293 hl (k := 6) rfl rfl (by decide) rfl (fun ls hl => ?_)
        refine lv_goto (tgt := 216) hx hb dX6_finds_296 (by decide) ?_
        exact ih x v1 v2 v3 v4 v6 (v7 + 1) _ _ _ hP hD hS (lv_sub hl [1, 2, 3, 4, 5, 6, 0] rfl) h
      · replace h := iff_ hc h
        refine lv_aload_n hx hb dX6_finds_246 rfl (lv_at hl 0 rfl) ?_
        refine mwG_0_29 X hK hP mF_X6_72 dX6_finds_247 ?_
        refine lv_aload_n hx hb dX6_finds_250 rfl (lv_at hl 0 rfl) ?_
        refine lv_iload hx hb dX6_finds_251 (lv_at hl 6 rfl) ?_
        refine lv_iload_n hx hb dX6_finds_253 rfl (lv_at hl 1 rfl) ?_
        obtain ⟨r14, hr0, h⟩ := bn1_elim h
        refine mp_call1 (As := [.int v7, .int v1]) (rest := [.ref (a 21)]) X (c_X6_leads l D y a hr0) (mp_cw (k := 2) hts mM_X6_138 mI_X6_leads mS_X6_leads mN_X6 mC_X6_leads rfl rfl (by decide +kernel) ⟨Nat.le_of_ble_eq_true rfl, Nat.le_of_ble_eq_true rfl⟩) hK hP hD hS hA 0 mwC_0 rfl rfl hl.1 rfl (Nat.le_of_ble_eq_true rfl) dX6_finds_254 ⟨Nat.zero_le _, Nat.zero_le _⟩ (fun H locs hP hD hS => ?_)
        obtain ⟨hg, h⟩ := gd_elim h
        refine mwL_21 X hK hP hg dX6_finds_257 ?_
        refine lv_iconst (v := 1) hx hb dX6_finds_258 (by decide) ?_
        refine lv_iadd hx hb dX6_finds_259 ?_
        refine lv_iload hx hb dX6_finds_260 (lv_at hl 5 rfl) ?_
        refine lv_icmp_ne (tgt := 293) hx hb dX6_finds_262 (by decide) (fun hc => ?_) (fun hc => ?_)
        · replace h := iff_ hc h
          refine lv_iinc (v := v7 + 1) (lv' := [(7, .int (v7 + 1)), (0, .ref (a 0)), (1, .int v1), (2, .int v2), (3, .int v3), (4, .long v4), (6, .int v6)]) hx hb dX6_finds_293 hl (k := 6) rfl rfl (by decide) rfl (fun ls hl => ?_)
          refine lv_goto (tgt := 216) hx hb dX6_finds_296 (by decide) ?_
          exact ih x v1 v2 v3 v4 v6 (v7 + 1) _ _ _ hP hD hS (lv_sub hl [1, 2, 3, 4, 5, 6, 0] rfl) h
        · replace h := ift hc h
          refine lv_aload_n hx hb dX6_finds_265 rfl (lv_at hl 0 rfl) ?_
          refine lv_iload hx hb dX6_finds_266 (lv_at hl 6 rfl) ?_
          refine lv_iload_n hx hb dX6_finds_268 rfl (lv_at hl 1 rfl) ?_
          refine lv_iload_n hx hb dX6_finds_269 rfl (lv_at hl 2 rfl) ?_
          refine lv_iload_n hx hb dX6_finds_270 rfl (lv_at hl 3 rfl) ?_
          obtain ⟨r15, hr0, h⟩ := bn1_elim h
          refine mp_call1 (As := [.int v7, .int v1, .int v2, .int v3]) (rest := []) X (c_X6_stepCost l D y a hr0) (mp_cw (k := 4) hts mM_X6_142 mI_X6_stepCost mS_X6_stepCost mN_X6 mC_X6_stepCost rfl rfl (by decide +kernel) ⟨Nat.le_of_ble_eq_true rfl, Nat.le_of_ble_eq_true rfl⟩) hK hP hD hS hA 0 mwC_0 rfl rfl hl.1 rfl (Nat.le_of_ble_eq_true rfl) dX6_finds_271 ⟨Nat.zero_le _, Nat.zero_le _⟩ (fun H locs hP hD hS => ?_)
          refine lv_aload_n hx hb dX6_finds_274 rfl (lv_at hl 0 rfl) ?_
          refine mwG_0_28 X hK hP mF_X6_69 dX6_finds_275 ?_
          refine lv_aload_n hx hb dX6_finds_278 rfl (lv_at hl 0 rfl) ?_
          refine lv_iload hx hb dX6_finds_279 (lv_at hl 6 rfl) ?_
          refine lv_iload_n hx hb dX6_finds_281 rfl (lv_at hl 1 rfl) ?_
          obtain ⟨r16, hr0, h⟩ := bn1_elim h
          refine mp_call1 (As := [.int v7, .int v1]) (rest := [.ref (a 20), .long r15]) X (c_X6_leads l D y a hr0) (mp_cw (k := 2) hts mM_X6_138 mI_X6_leads mS_X6_leads mN_X6 mC_X6_leads rfl rfl (by decide +kernel) ⟨Nat.le_of_ble_eq_true rfl, Nat.le_of_ble_eq_true rfl⟩) hK hP hD hS hA 0 mwC_0 rfl rfl hl.1 rfl (Nat.le_of_ble_eq_true rfl) dX6_finds_282 ⟨Nat.zero_le _, Nat.zero_le _⟩ (fun H locs hP hD hS => ?_)
          obtain ⟨hg, h⟩ := gd_elim h
          refine mwL_20 X hK hP hg dX6_finds_285 ?_
          refine lv_ladd hx hb dX6_finds_286 ?_
          refine lv_lload hx hb dX6_finds_287 (lv_at hl 4 rfl) ?_
          refine W.lcmp hx hb dX6_finds_289 ?_
          refine lv_if_eq (tgt := 299) hx hb dX6_finds_290 (by decide) (fun hc => ?_) (fun hc => ?_)
          · replace h := ift hc h
            refine lv_aload_n hx hb dX6_finds_299 rfl (lv_at hl 0 rfl) ?_
            refine mwG_0_23 X hK hP mF_X6_57 dX6_finds_300 ?_
            refine lv_aload_n hx hb dX6_finds_303 rfl (lv_at hl 0 rfl) ?_
            refine mwG_0_21 X hK hP mF_X6_120 dX6_finds_304 ?_
            refine lv_iload hx hb dX6_finds_307 (lv_at hl 6 rfl) ?_
            obtain ⟨hg, h⟩ := gd_elim h
            obtain ⟨x17, e1, h⟩ := letv_elim h
            refine mwS_16 X hK hP hD hS hg e1 dX6_finds_309 (fun H locs hP hD hS => ?_)
            refine lv_aload_n hx hb dX6_finds_310 rfl (lv_at hl 0 rfl) ?_
            refine lv_dup hx hb dX6_finds_311 rfl ?_
            refine mwG_0_21 X hK hP mF_X6_120 dX6_finds_312 ?_
            refine lv_iconst (v := 1) hx hb dX6_finds_315 (by decide) ?_
            refine lv_iadd hx hb dX6_finds_316 ?_
            obtain ⟨x18, e1, h⟩ := letv_elim h
            refine mwP_0_21 X hK hP hD hS mF_X6_120 e1 dX6_finds_317 (fun H locs hP hD hS => ?_)
            refine lv_aload_n hx hb dX6_finds_320 rfl (lv_at hl 0 rfl) ?_
            refine lv_iload hx hb dX6_finds_321 (lv_at hl 6 rfl) ?_
            refine lv_iload_n hx hb dX6_finds_323 rfl (lv_at hl 1 rfl) ?_
            obtain ⟨r19, hr0, h⟩ := bn1_elim h
            refine mp_call1 (As := [.int v7, .int v1]) (rest := []) X (c_X6_leads l D y a hr0) (mp_cw (k := 2) hts mM_X6_138 mI_X6_leads mS_X6_leads mN_X6 mC_X6_leads rfl rfl (by decide +kernel) ⟨Nat.le_of_ble_eq_true rfl, Nat.le_of_ble_eq_true rfl⟩) hK hP hD hS hA 0 mwC_0 rfl rfl hl.1 rfl (Nat.le_of_ble_eq_true rfl) dX6_finds_324 ⟨Nat.zero_le _, Nat.zero_le _⟩ (fun H locs hP hD hS => ?_)
            refine lv_istore_n (lv' := [(1, .int r19), (0, .ref (a 0)), (2, .int v2), (3, .int v3), (4, .long v4), (6, .int v6), (7, .int v7)]) hx hb dX6_finds_327 rfl hl (by decide) rfl (fun ls hl => ?_)
            refine lv_aload_n hx hb dX6_finds_328 rfl (lv_at hl 1 rfl) ?_
            refine mwG_0_28 X hK hP mF_X6_69 dX6_finds_329 ?_
            refine lv_iload_n hx hb dX6_finds_332 rfl (lv_at hl 0 rfl) ?_
            obtain ⟨hg, h⟩ := gd_elim h
            refine mwL_20 X hK hP hg dX6_finds_333 ?_
            refine lv_lstore (lv' := [(4, .long (rB x18 20 (Int32.toNatClampNeg r19))), (1, .int r19), (0, .ref (a 0)), (2, .int v2), (3, .int v3), (6, .int v6), (7, .int v7)]) hx hb dX6_finds_334 hl (by decide) rfl (fun ls hl => ?_)
            refine lv_aload_n hx hb dX6_finds_336 rfl (lv_at hl 2 rfl) ?_
            refine mwG_0_29 X hK hP mF_X6_72 dX6_finds_337 ?_
            refine lv_iload_n hx hb dX6_finds_340 rfl (lv_at hl 1 rfl) ?_
            obtain ⟨hg, h⟩ := gd_elim h
            refine mwL_21 X hK hP hg dX6_finds_341 ?_
            refine lv_istore (lv' := [(6, .int (rA x18 21 (Int32.toNatClampNeg r19))), (4, .long (rB x18 20 (Int32.toNatClampNeg r19))), (1, .int r19), (0, .ref (a 0)), (2, .int v2), (3, .int v3), (7, .int v7)]) hx hb dX6_finds_342 hl (by decide) rfl (fun ls hl => ?_)
            refine lv_iconst (v := 0) hx hb dX6_finds_344 (by decide) ?_
            refine lv_istore_n (lv' := [(2, .int ((0 : Int32))), (6, .int (rA x18 21 (Int32.toNatClampNeg r19))), (4, .long (rB x18 20 (Int32.toNatClampNeg r19))), (1, .int r19), (0, .ref (a 0)), (3, .int v3), (7, .int v7)]) hx hb dX6_finds_345 rfl hl (by decide) rfl (fun ls hl => ?_)
            refine lv_iconst (v := 0) hx hb dX6_finds_346 (by decide) ?_
            refine lv_istore_n (lv' := [(3, .int ((0 : Int32))), (2, .int ((0 : Int32))), (6, .int (rA x18 21 (Int32.toNatClampNeg r19))), (4, .long (rB x18 20 (Int32.toNatClampNeg r19))), (1, .int r19), (0, .ref (a 0)), (7, .int v7)]) hx hb dX6_finds_347 rfl hl (by decide) rfl (fun ls hl => ?_)
            refine lv_goto (tgt := 208) hx hb dX6_finds_348 (by decide) ?_
            exact hk208 x18 r19 ((0 : Int32)) ((0 : Int32)) (rB x18 20 (Int32.toNatClampNeg r19)) (rA x18 21 (Int32.toNatClampNeg r19)) _ _ _ hP hD hS (lv_sub hl [5, 4, 1, 0, 3, 2] rfl) h
          · replace h := iff_ hc h
            refine lv_iinc (v := v7 + 1) (lv' := [(7, .int (v7 + 1)), (0, .ref (a 0)), (1, .int v1), (2, .int v2), (3, .int v3), (4, .long v4), (6, .int v6)]) hx hb dX6_finds_293 hl (k := 6) rfl rfl (by decide) rfl (fun ls hl => ?_)
            refine lv_goto (tgt := 216) hx hb dX6_finds_296 (by decide) ?_
            exact ih x v1 v2 v3 v4 v6 (v7 + 1) _ _ _ hP hD hS (lv_sub hl [1, 2, 3, 4, 5, 6, 0] rfl) h
def f_X6_finds_b208 : Nat → PD → Int32 → Int32 → Int32 → Int64 → Int32 → Option (PD)
  | 0, _, _, _, _, _, _ => none
  | n + 1, x, v1, v2, v3, v4, v6 =>
    if v6 ≤ 0 then
  (some x)
  else
  (f_X6_finds_b216 (f_X6_finds_b208 n) FU x v1 v2 v3 v4 v6 ((0 : Int32)))
set_option maxHeartbeats 4000000 in
set_option maxRecDepth 100000 in
theorem w_X6_finds_b208 {p : Program} {l : Launch} {e : Env} {s : State} {m : MethodId} {args : Array Value} {below : List Frame} {meth : Method} {c : Code} {D : va_G} {y : CY} {a : Nat → Nat} {A : Nat → Prop} {x' : PD} (X : mpX p s m args meth c cX6_finds 11 none RX6) (hK : va_K D vwCl (mpT y) s) (hA : ∀ q, s.heap.size ≤ q → A q) : ∀ (n : Nat), ∀ (x : PD) (v1 : Int32) (v2 : Int32) (v3 : Int32) (v4 : Int64) (v6 : Int32) (H : Heap) (locs : List Loc) (ls : Array Slot), va_P D vwCl (mw y a x) H → va_D A (mw y a x) → va_S A s.heap H locs → lv_has ls 11 [(0, .ref (a 0)), (1, .int v1), (2, .int v2), (3, .int v3), (4, .long v4), (6, .int v6)] → f_X6_finds_b208 n x v1 v2 v3 v4 v6 = some x' → W p l e { frames := 2, cells := 0, slots := 0, locals := 52 } s m args below meth c H locs 0 0 (MQ below (mpC D y A (mw y a x') none) args s 0 0 A) (F0 m 208 ls []) := by
  obtain ⟨⟨hx, hb, hml, hown, hts⟩, hr, hlk⟩ := id X
  intro n
  induction n with
  | zero =>
    intro x v1 v2 v3 v4 v6 H locs ls hP hD hS hl h
    rw [f_X6_finds_b208] at h
    exact nons h
  | succ n ih =>
    intro x v1 v2 v3 v4 v6 H locs ls hP hD hS hl h
    rw [f_X6_finds_b208] at h
    refine lv_iload hx hb dX6_finds_208 (lv_at hl 5 rfl) ?_
    refine lv_if_le (tgt := 351) hx hb dX6_finds_210 (by decide) (fun hc => ?_) (fun hc => ?_)
    · replace h := ift hc h
      cases h
      exact mpr_v X hK hP hD hS dX6_finds_351
    · replace h := iff_ hc h
      refine lv_iconst (v := 0) hx hb dX6_finds_213 (by decide) ?_
      refine lv_istore (lv' := [(7, .int ((0 : Int32))), (0, .ref (a 0)), (1, .int v1), (2, .int v2), (3, .int v3), (4, .long v4), (6, .int v6)]) hx hb dX6_finds_214 hl (by decide) rfl (fun ls hl => ?_)
      exact w_X6_finds_b216 X hK hA ih FU x v1 v2 v3 v4 v6 ((0 : Int32)) _ _ _ hP hD hS (lv_sub hl [1, 2, 3, 4, 5, 6, 0] rfl) h
def f_X6_finds_b73 : Nat → PD → Int32 → Int32 → Int32 → Int64 → Int32 → Int32 → Option (PD)
  | 0, _, _, _, _, _, _, _ => none
  | n + 1, x, v1, v2, v3, v4, v6, v7 =>
    if ((100 : Int32)) < v7 then
  (if (lg_cmp v4 ((1000000000000 : Int64))) < 0 then
  (letv (wI x 20 ((1 : Int32))) fun x11 =>
  (f_X6_finds_b208 FU x11 v1 v2 v3 v4 v6))
  else
  some x)
  else
  bn1 (f_X6_isStep x v7 v1 v2) fun r20 =>
  if r20 = 0 then
  (((f_X6_finds_b73 n) x v1 v2 v3 v4 v6 (v7 + 1)))
  else
  bn1 (f_X6_leads x v7 v1) fun r21 =>
  gd (inR r21 20) (if (lg_cmp (rB x 20 (Int32.toNatClampNeg r21)) ((1000000000000 : Int64))) < 0 then
  (bn1 (f_X6_stepCost x v7 v1 v2 v3) fun r22 =>
  bn1 (f_X6_leads x v7 v1) fun r23 =>
  gd (inR r23 20) (bn1 (f_X6_leads x v7 v1) fun r24 =>
  gd (inR r24 20) (if 0 < (lg_cmp (r22 + (rB x 20 (Int32.toNatClampNeg r23))) v4) then
  (((f_X6_finds_b73 n) x v1 v2 v3 v4 v6 (v7 + 1)))
  else
  if (lg_cmp (r22 + (rB x 20 (Int32.toNatClampNeg r23))) v4) = 0 then
  (if ((rA x 21 (Int32.toNatClampNeg r24)) + ((1 : Int32))) < v6 then
  (((f_X6_finds_b73 n) x v1 v2 v3 (r22 + (rB x 20 (Int32.toNatClampNeg r23))) ((rA x 21 (Int32.toNatClampNeg r24)) + ((1 : Int32))) (v7 + 1)))
  else
  ((f_X6_finds_b73 n) x v1 v2 v3 v4 v6 (v7 + 1)))
  else
  ((f_X6_finds_b73 n) x v1 v2 v3 (r22 + (rB x 20 (Int32.toNatClampNeg r23))) ((rA x 21 (Int32.toNatClampNeg r24)) + ((1 : Int32))) (v7 + 1)))))
  else
  ((f_X6_finds_b73 n) x v1 v2 v3 v4 v6 (v7 + 1)))
set_option maxHeartbeats 4000000 in
set_option maxRecDepth 100000 in
theorem w_X6_finds_b73 {p : Program} {l : Launch} {e : Env} {s : State} {m : MethodId} {args : Array Value} {below : List Frame} {meth : Method} {c : Code} {D : va_G} {y : CY} {a : Nat → Nat} {A : Nat → Prop} {x' : PD} (X : mpX p s m args meth c cX6_finds 11 none RX6) (hK : va_K D vwCl (mpT y) s) (hA : ∀ q, s.heap.size ≤ q → A q) : ∀ (n : Nat), ∀ (x : PD) (v1 : Int32) (v2 : Int32) (v3 : Int32) (v4 : Int64) (v6 : Int32) (v7 : Int32) (H : Heap) (locs : List Loc) (ls : Array Slot), va_P D vwCl (mw y a x) H → va_D A (mw y a x) → va_S A s.heap H locs → lv_has ls 11 [(0, .ref (a 0)), (1, .int v1), (2, .int v2), (3, .int v3), (4, .long v4), (6, .int v6), (7, .int v7)] → f_X6_finds_b73 n x v1 v2 v3 v4 v6 v7 = some x' → W p l e { frames := 2, cells := 0, slots := 0, locals := 52 } s m args below meth c H locs 0 0 (MQ below (mpC D y A (mw y a x') none) args s 0 0 A) (F0 m 73 ls []) := by
  obtain ⟨⟨hx, hb, hml, hown, hts⟩, hr, hlk⟩ := id X
  intro n
  induction n with
  | zero =>
    intro x v1 v2 v3 v4 v6 v7 H locs ls hP hD hS hl h
    rw [f_X6_finds_b73] at h
    exact nons h
  | succ n ih =>
    intro x v1 v2 v3 v4 v6 v7 H locs ls hP hD hS hl h
    rw [f_X6_finds_b73] at h
    refine lv_iload hx hb dX6_finds_73 (lv_at hl 6 rfl) ?_
    refine lv_bipush (v := 100) hx hb dX6_finds_75 (by decide) ?_
    refine lv_icmp_gt (tgt := 193) hx hb dX6_finds_77 (by decide) (fun hc => ?_) (fun hc => ?_)
    · replace h := ift hc h
      refine lv_lload hx hb dX6_finds_193 (lv_at hl 4 rfl) ?_
      refine lv_ldc2 (v := 1000000000000) hx hb hown (hts _ mK_X6_108) dX6_finds_195 ?_
      refine W.lcmp hx hb dX6_finds_198 ?_
      refine lv_if_lt (tgt := 203) hx hb dX6_finds_199 (by decide) (fun hc => ?_) (fun hc => ?_)
      · replace h := ift hc h
        refine lv_aload_n hx hb dX6_finds_203 rfl (lv_at hl 0 rfl) ?_
        refine lv_iconst (v := 1) hx hb dX6_finds_204 (by decide) ?_
        obtain ⟨x11, e1, h⟩ := letv_elim h
        refine mwP_0_20 X hK hP hD hS mF_X6_116 rfl rfl e1 dX6_finds_205 (fun H locs hP hD hS => ?_)
        exact w_X6_finds_b208 X hK hA FU x11 v1 v2 v3 v4 v6 _ _ _ hP hD hS (lv_sub hl [0, 1, 2, 3, 4, 5] rfl) h
      · replace h := iff_ hc h
        cases h
        exact mpr_v X hK hP hD hS dX6_finds_202
    · replace h := iff_ hc h
      refine lv_aload_n hx hb dX6_finds_80 rfl (lv_at hl 0 rfl) ?_
      refine lv_iload hx hb dX6_finds_81 (lv_at hl 6 rfl) ?_
      refine lv_iload_n hx hb dX6_finds_83 rfl (lv_at hl 1 rfl) ?_
      refine lv_iload_n hx hb dX6_finds_84 rfl (lv_at hl 2 rfl) ?_
      obtain ⟨r20, hr0, h⟩ := bn1_elim h
      refine mp_call1 (As := [.int v7, .int v1, .int v2]) (rest := []) X (c_X6_isStep l D y a hr0) (mp_cw (k := 3) hts mM_X6_134 mI_X6_isStep mS_X6_isStep mN_X6 mC_X6_isStep rfl rfl (by decide +kernel) ⟨Nat.le_of_ble_eq_true rfl, Nat.le_of_ble_eq_true rfl⟩) hK hP hD hS hA 0 mwC_0 rfl rfl hl.1 rfl (Nat.le_of_ble_eq_true rfl) dX6_finds_85 ⟨Nat.zero_le _, Nat.zero_le _⟩ (fun H locs hP hD hS => ?_)
      refine lv_if_eq (tgt := 187) hx hb dX6_finds_88 (by decide) (fun hc => ?_) (fun hc => ?_)
      · replace h := ift hc h
        refine lv_iinc (v := v7 + 1) (lv' := [(7, .int (v7 + 1)), (0, .ref (a 0)), (1, .int v1), (2, .int v2), (3, .int v3), (4, .long v4), (6, .int v6)]) hx hb dX6_finds_187 hl (k := 6) rfl rfl (by decide) rfl (fun ls hl => ?_)
        refine lv_goto (tgt := 73) hx hb dX6_finds_190 (by decide) ?_
        exact ih x v1 v2 v3 v4 v6 (v7 + 1) _ _ _ hP hD hS (lv_sub hl [1, 2, 3, 4, 5, 6, 0] rfl) h
      · replace h := iff_ hc h
        refine lv_aload_n hx hb dX6_finds_91 rfl (lv_at hl 0 rfl) ?_
        refine mwG_0_28 X hK hP mF_X6_69 dX6_finds_92 ?_
        refine lv_aload_n hx hb dX6_finds_95 rfl (lv_at hl 0 rfl) ?_
        refine lv_iload hx hb dX6_finds_96 (lv_at hl 6 rfl) ?_
        refine lv_iload_n hx hb dX6_finds_98 rfl (lv_at hl 1 rfl) ?_
        obtain ⟨r21, hr0, h⟩ := bn1_elim h
        refine mp_call1 (As := [.int v7, .int v1]) (rest := [.ref (a 20)]) X (c_X6_leads l D y a hr0) (mp_cw (k := 2) hts mM_X6_138 mI_X6_leads mS_X6_leads mN_X6 mC_X6_leads rfl rfl (by decide +kernel) ⟨Nat.le_of_ble_eq_true rfl, Nat.le_of_ble_eq_true rfl⟩) hK hP hD hS hA 0 mwC_0 rfl rfl hl.1 rfl (Nat.le_of_ble_eq_true rfl) dX6_finds_99 ⟨Nat.zero_le _, Nat.zero_le _⟩ (fun H locs hP hD hS => ?_)
        obtain ⟨hg, h⟩ := gd_elim h
        refine mwL_20 X hK hP hg dX6_finds_102 ?_
        refine lv_ldc2 (v := 1000000000000) hx hb hown (hts _ mK_X6_108) dX6_finds_103 ?_
        refine W.lcmp hx hb dX6_finds_106 ?_
        refine lv_if_lt (tgt := 113) hx hb dX6_finds_107 (by decide) (fun hc => ?_) (fun hc => ?_)
        · replace h := ift hc h
          refine lv_aload_n hx hb dX6_finds_113 rfl (lv_at hl 0 rfl) ?_
          refine lv_iload hx hb dX6_finds_114 (lv_at hl 6 rfl) ?_
          refine lv_iload_n hx hb dX6_finds_116 rfl (lv_at hl 1 rfl) ?_
          refine lv_iload_n hx hb dX6_finds_117 rfl (lv_at hl 2 rfl) ?_
          refine lv_iload_n hx hb dX6_finds_118 rfl (lv_at hl 3 rfl) ?_
          obtain ⟨r22, hr0, h⟩ := bn1_elim h
          refine mp_call1 (As := [.int v7, .int v1, .int v2, .int v3]) (rest := []) X (c_X6_stepCost l D y a hr0) (mp_cw (k := 4) hts mM_X6_142 mI_X6_stepCost mS_X6_stepCost mN_X6 mC_X6_stepCost rfl rfl (by decide +kernel) ⟨Nat.le_of_ble_eq_true rfl, Nat.le_of_ble_eq_true rfl⟩) hK hP hD hS hA 0 mwC_0 rfl rfl hl.1 rfl (Nat.le_of_ble_eq_true rfl) dX6_finds_119 ⟨Nat.zero_le _, Nat.zero_le _⟩ (fun H locs hP hD hS => ?_)
          refine lv_aload_n hx hb dX6_finds_122 rfl (lv_at hl 0 rfl) ?_
          refine mwG_0_28 X hK hP mF_X6_69 dX6_finds_123 ?_
          refine lv_aload_n hx hb dX6_finds_126 rfl (lv_at hl 0 rfl) ?_
          refine lv_iload hx hb dX6_finds_127 (lv_at hl 6 rfl) ?_
          refine lv_iload_n hx hb dX6_finds_129 rfl (lv_at hl 1 rfl) ?_
          obtain ⟨r23, hr0, h⟩ := bn1_elim h
          refine mp_call1 (As := [.int v7, .int v1]) (rest := [.ref (a 20), .long r22]) X (c_X6_leads l D y a hr0) (mp_cw (k := 2) hts mM_X6_138 mI_X6_leads mS_X6_leads mN_X6 mC_X6_leads rfl rfl (by decide +kernel) ⟨Nat.le_of_ble_eq_true rfl, Nat.le_of_ble_eq_true rfl⟩) hK hP hD hS hA 0 mwC_0 rfl rfl hl.1 rfl (Nat.le_of_ble_eq_true rfl) dX6_finds_130 ⟨Nat.zero_le _, Nat.zero_le _⟩ (fun H locs hP hD hS => ?_)
          obtain ⟨hg, h⟩ := gd_elim h
          refine mwL_20 X hK hP hg dX6_finds_133 ?_
          refine lv_ladd hx hb dX6_finds_134 ?_
          refine lv_lstore (lv' := [(8, .long (r22 + (rB x 20 (Int32.toNatClampNeg r23)))), (0, .ref (a 0)), (1, .int v1), (2, .int v2), (3, .int v3), (4, .long v4), (6, .int v6), (7, .int v7)]) hx hb dX6_finds_135 hl (by decide) rfl (fun ls hl => ?_)
          refine lv_aload_n hx hb dX6_finds_137 rfl (lv_at hl 1 rfl) ?_
          refine mwG_0_29 X hK hP mF_X6_72 dX6_finds_138 ?_
          refine lv_aload_n hx hb dX6_finds_141 rfl (lv_at hl 1 rfl) ?_
          refine lv_iload hx hb dX6_finds_142 (lv_at hl 7 rfl) ?_
          refine lv_iload_n hx hb dX6_finds_144 rfl (lv_at hl 2 rfl) ?_
          obtain ⟨r24, hr0, h⟩ := bn1_elim h
          refine mp_call1 (As := [.int v7, .int v1]) (rest := [.ref (a 21)]) X (c_X6_leads l D y a hr0) (mp_cw (k := 2) hts mM_X6_138 mI_X6_leads mS_X6_leads mN_X6 mC_X6_leads rfl rfl (by decide +kernel) ⟨Nat.le_of_ble_eq_true rfl, Nat.le_of_ble_eq_true rfl⟩) hK hP hD hS hA 0 mwC_0 rfl rfl hl.1 rfl (Nat.le_of_ble_eq_true rfl) dX6_finds_145 ⟨Nat.zero_le _, Nat.zero_le _⟩ (fun H locs hP hD hS => ?_)
          obtain ⟨hg, h⟩ := gd_elim h
          refine mwL_21 X hK hP hg dX6_finds_148 ?_
          refine lv_iconst (v := 1) hx hb dX6_finds_149 (by decide) ?_
          refine lv_iadd hx hb dX6_finds_150 ?_
          refine lv_istore (lv' := [(10, .int ((rA x 21 (Int32.toNatClampNeg r24)) + ((1 : Int32)))), (8, .long (r22 + (rB x 20 (Int32.toNatClampNeg r23)))), (0, .ref (a 0)), (1, .int v1), (2, .int v2), (3, .int v3), (4, .long v4), (6, .int v6), (7, .int v7)]) hx hb dX6_finds_151 hl (by decide) rfl (fun ls hl => ?_)
          refine lv_lload hx hb dX6_finds_153 (lv_at hl 1 rfl) ?_
          refine lv_lload hx hb dX6_finds_155 (lv_at hl 6 rfl) ?_
          refine W.lcmp hx hb dX6_finds_157 ?_
          refine lv_if_gt (tgt := 187) hx hb dX6_finds_158 (by decide) (fun hc => ?_) (fun hc => ?_)
          · replace h := ift hc h
            refine lv_iinc (v := v7 + 1) (lv' := [(7, .int (v7 + 1)), (10, .int ((rA x 21 (Int32.toNatClampNeg r24)) + ((1 : Int32)))), (8, .long (r22 + (rB x 20 (Int32.toNatClampNeg r23)))), (0, .ref (a 0)), (1, .int v1), (2, .int v2), (3, .int v3), (4, .long v4), (6, .int v6)]) hx hb dX6_finds_187 hl (k := 8) rfl rfl (by decide) rfl (fun ls hl => ?_)
            refine lv_goto (tgt := 73) hx hb dX6_finds_190 (by decide) ?_
            exact ih x v1 v2 v3 v4 v6 (v7 + 1) _ _ _ hP hD hS (lv_sub hl [3, 4, 5, 6, 7, 8, 0] rfl) h
          · replace h := iff_ hc h
            refine lv_lload hx hb dX6_finds_161 (lv_at hl 1 rfl) ?_
            refine lv_lload hx hb dX6_finds_163 (lv_at hl 6 rfl) ?_
            refine W.lcmp hx hb dX6_finds_165 ?_
            refine lv_if_ne (tgt := 179) hx hb dX6_finds_166 (by decide) (fun hc => ?_) (fun hc => ?_)
            · replace h := iff_ hc h
              refine lv_lload hx hb dX6_finds_179 (lv_at hl 1 rfl) ?_
              refine lv_lstore (lv' := [(4, .long (r22 + (rB x 20 (Int32.toNatClampNeg r23)))), (10, .int ((rA x 21 (Int32.toNatClampNeg r24)) + ((1 : Int32)))), (8, .long (r22 + (rB x 20 (Int32.toNatClampNeg r23)))), (0, .ref (a 0)), (1, .int v1), (2, .int v2), (3, .int v3), (6, .int v6), (7, .int v7)]) hx hb dX6_finds_181 hl (by decide) rfl (fun ls hl => ?_)
              refine lv_iload hx hb dX6_finds_183 (lv_at hl 1 rfl) ?_
              refine lv_istore (lv' := [(6, .int ((rA x 21 (Int32.toNatClampNeg r24)) + ((1 : Int32)))), (4, .long (r22 + (rB x 20 (Int32.toNatClampNeg r23)))), (10, .int ((rA x 21 (Int32.toNatClampNeg r24)) + ((1 : Int32)))), (8, .long (r22 + (rB x 20 (Int32.toNatClampNeg r23)))), (0, .ref (a 0)), (1, .int v1), (2, .int v2), (3, .int v3), (7, .int v7)]) hx hb dX6_finds_185 hl (by decide) rfl (fun ls hl => ?_)
              refine lv_iinc (v := v7 + 1) (lv' := [(7, .int (v7 + 1)), (6, .int ((rA x 21 (Int32.toNatClampNeg r24)) + ((1 : Int32)))), (4, .long (r22 + (rB x 20 (Int32.toNatClampNeg r23)))), (10, .int ((rA x 21 (Int32.toNatClampNeg r24)) + ((1 : Int32)))), (8, .long (r22 + (rB x 20 (Int32.toNatClampNeg r23)))), (0, .ref (a 0)), (1, .int v1), (2, .int v2), (3, .int v3)]) hx hb dX6_finds_187 hl (k := 8) rfl rfl (by decide) rfl (fun ls hl => ?_)
              refine lv_goto (tgt := 73) hx hb dX6_finds_190 (by decide) ?_
              exact ih x v1 v2 v3 (r22 + (rB x 20 (Int32.toNatClampNeg r23))) ((rA x 21 (Int32.toNatClampNeg r24)) + ((1 : Int32))) (v7 + 1) _ _ _ hP hD hS (lv_sub hl [5, 6, 7, 8, 2, 1, 0] rfl) h
            · replace h := ift hc h
              refine lv_iload hx hb dX6_finds_169 (lv_at hl 0 rfl) ?_
              refine lv_iload hx hb dX6_finds_171 (lv_at hl 7 rfl) ?_
              refine lv_icmp_lt (tgt := 179) hx hb dX6_finds_173 (by decide) (fun hc => ?_) (fun hc => ?_)
              · replace h := ift hc h
                refine lv_lload hx hb dX6_finds_179 (lv_at hl 1 rfl) ?_
                refine lv_lstore (lv' := [(4, .long (r22 + (rB x 20 (Int32.toNatClampNeg r23)))), (10, .int ((rA x 21 (Int32.toNatClampNeg r24)) + ((1 : Int32)))), (8, .long (r22 + (rB x 20 (Int32.toNatClampNeg r23)))), (0, .ref (a 0)), (1, .int v1), (2, .int v2), (3, .int v3), (6, .int v6), (7, .int v7)]) hx hb dX6_finds_181 hl (by decide) rfl (fun ls hl => ?_)
                refine lv_iload hx hb dX6_finds_183 (lv_at hl 1 rfl) ?_
                refine lv_istore (lv' := [(6, .int ((rA x 21 (Int32.toNatClampNeg r24)) + ((1 : Int32)))), (4, .long (r22 + (rB x 20 (Int32.toNatClampNeg r23)))), (10, .int ((rA x 21 (Int32.toNatClampNeg r24)) + ((1 : Int32)))), (8, .long (r22 + (rB x 20 (Int32.toNatClampNeg r23)))), (0, .ref (a 0)), (1, .int v1), (2, .int v2), (3, .int v3), (7, .int v7)]) hx hb dX6_finds_185 hl (by decide) rfl (fun ls hl => ?_)
                refine lv_iinc (v := v7 + 1) (lv' := [(7, .int (v7 + 1)), (6, .int ((rA x 21 (Int32.toNatClampNeg r24)) + ((1 : Int32)))), (4, .long (r22 + (rB x 20 (Int32.toNatClampNeg r23)))), (10, .int ((rA x 21 (Int32.toNatClampNeg r24)) + ((1 : Int32)))), (8, .long (r22 + (rB x 20 (Int32.toNatClampNeg r23)))), (0, .ref (a 0)), (1, .int v1), (2, .int v2), (3, .int v3)]) hx hb dX6_finds_187 hl (k := 8) rfl rfl (by decide) rfl (fun ls hl => ?_)
                refine lv_goto (tgt := 73) hx hb dX6_finds_190 (by decide) ?_
                exact ih x v1 v2 v3 (r22 + (rB x 20 (Int32.toNatClampNeg r23))) ((rA x 21 (Int32.toNatClampNeg r24)) + ((1 : Int32))) (v7 + 1) _ _ _ hP hD hS (lv_sub hl [5, 6, 7, 8, 2, 1, 0] rfl) h
              · replace h := iff_ hc h
                refine lv_goto (tgt := 187) hx hb dX6_finds_176 (by decide) ?_
                refine lv_iinc (v := v7 + 1) (lv' := [(7, .int (v7 + 1)), (10, .int ((rA x 21 (Int32.toNatClampNeg r24)) + ((1 : Int32)))), (8, .long (r22 + (rB x 20 (Int32.toNatClampNeg r23)))), (0, .ref (a 0)), (1, .int v1), (2, .int v2), (3, .int v3), (4, .long v4), (6, .int v6)]) hx hb dX6_finds_187 hl (k := 8) rfl rfl (by decide) rfl (fun ls hl => ?_)
                refine lv_goto (tgt := 73) hx hb dX6_finds_190 (by decide) ?_
                exact ih x v1 v2 v3 v4 v6 (v7 + 1) _ _ _ hP hD hS (lv_sub hl [3, 4, 5, 6, 7, 8, 0] rfl) h
        · replace h := iff_ hc h
          refine lv_goto (tgt := 187) hx hb dX6_finds_110 (by decide) ?_
          refine lv_iinc (v := v7 + 1) (lv' := [(7, .int (v7 + 1)), (0, .ref (a 0)), (1, .int v1), (2, .int v2), (3, .int v3), (4, .long v4), (6, .int v6)]) hx hb dX6_finds_187 hl (k := 6) rfl rfl (by decide) rfl (fun ls hl => ?_)
          refine lv_goto (tgt := 73) hx hb dX6_finds_190 (by decide) ?_
          exact ih x v1 v2 v3 v4 v6 (v7 + 1) _ _ _ hP hD hS (lv_sub hl [1, 2, 3, 4, 5, 6, 0] rfl) h
def f_X6_finds (x : PD) : Option (PD) :=
  letv (wI x 20 ((0 : Int32))) fun x1 =>
  letv (wI x1 21 ((0 : Int32))) fun x2 =>
  letv (wI x2 22 ((0 : Int32))) fun x3 =>
  bn1 (f_X6_get x3 ((4 : Int32))) fun r4 =>
  if r4 = ((-1 : Int32)) then
  (some x3)
  else
  bn1 (f_X6_get x3 ((0 : Int32))) fun r5 =>
  if r5 = ((-1 : Int32)) then
  some x3
  else
  bn1 (f_X6_get x3 ((4 : Int32))) fun r6 =>
  bn1 (f_X6_reckons x3 r6 ((0 : Int32))) fun x7 =>
  bn1 (f_X6_get x7 ((0 : Int32))) fun r8 =>
  bn1 (f_X6_get x7 ((1 : Int32))) fun r9 =>
  bn1 (f_X6_get x7 ((3 : Int32))) fun r10 =>
  (f_X6_finds_b73 FU x7 r8 r9 r10 ((1000000000000 : Int64)) ((0 : Int32)) ((0 : Int32)))
set_option maxHeartbeats 4000000 in
set_option maxRecDepth 100000 in
theorem c_X6_finds (l : Launch) (D : va_G) (y : CY) (a : Nat → Nat) {x : PD} {x' : PD} (h : f_X6_finds x = some x') : mpM l D y yX6_finds cX6_finds 11 none { frames := 2, cells := 0, slots := 0, locals := 52 } (mw y a x) (mw y a x') [.ref (a 0)] none := by
  refine mpM.mk (own := RX6) (by decide) rfl (Nat.le_of_ble_eq_true rfl) ?_
  intro p e s m below meth c A ls X hK hA hP hD hl
  have hS : va_S A s.heap s.heap [] := va_S.rf
  obtain ⟨⟨hx, hb, hml, hown, hts⟩, hr, hlk⟩ := id X
  have hl : lv_has ls 11 [(0, .ref (a 0))] := hl
  unfold f_X6_finds at h
  refine lv_aload_n hx hb dX6_finds_0 rfl (lv_at hl 0 rfl) ?_
  refine lv_iconst (v := 0) hx hb dX6_finds_1 (by decide) ?_
  obtain ⟨x1, e1, h⟩ := letv_elim h
  refine mwP_0_20 X hK hP hD hS mF_X6_116 rfl rfl e1 dX6_finds_2 (fun H locs hP hD hS => ?_)
  refine lv_aload_n hx hb dX6_finds_5 rfl (lv_at hl 0 rfl) ?_
  refine lv_iconst (v := 0) hx hb dX6_finds_6 (by decide) ?_
  obtain ⟨x2, e1, h⟩ := letv_elim h
  refine mwP_0_21 X hK hP hD hS mF_X6_120 e1 dX6_finds_7 (fun H locs hP hD hS => ?_)
  refine lv_aload_n hx hb dX6_finds_10 rfl (lv_at hl 0 rfl) ?_
  refine lv_iconst (v := 0) hx hb dX6_finds_11 (by decide) ?_
  obtain ⟨x3, e1, h⟩ := letv_elim h
  refine mwP_0_22 X hK hP hD hS mF_X6_123 e1 dX6_finds_12 (fun H locs hP hD hS => ?_)
  refine lv_aload_n hx hb dX6_finds_15 rfl (lv_at hl 0 rfl) ?_
  refine lv_iconst (v := 4) hx hb dX6_finds_16 (by decide) ?_
  obtain ⟨r4, hr0, h⟩ := bn1_elim h
  refine mp_call1 (As := [.int ((4 : Int32))]) (rest := []) X (c_X6_get l D y a hr0) (mp_cw (k := 1) hts mM_X6_126 mI_X6_get mS_X6_get mN_X6 mC_X6_get rfl rfl (by decide +kernel) ⟨Nat.le_of_ble_eq_true rfl, Nat.le_of_ble_eq_true rfl⟩) hK hP hD hS hA 0 mwC_0 rfl rfl hl.1 rfl (Nat.le_of_ble_eq_true rfl) dX6_finds_17 ⟨Nat.zero_le _, Nat.zero_le _⟩ (fun H locs hP hD hS => ?_)
  refine lv_iconst (v := -1) hx hb dX6_finds_20 (by decide) ?_
  refine lv_icmp_eq (tgt := 33) hx hb dX6_finds_21 (by decide) (fun hc => ?_) (fun hc => ?_)
  · replace h := ift hc h
    cases h
    exact mpr_v X hK hP hD hS dX6_finds_33
  · replace h := iff_ hc h
    refine lv_aload_n hx hb dX6_finds_24 rfl (lv_at hl 0 rfl) ?_
    refine lv_iconst (v := 0) hx hb dX6_finds_25 (by decide) ?_
    obtain ⟨r5, hr0, h⟩ := bn1_elim h
    refine mp_call1 (As := [.int ((0 : Int32))]) (rest := []) X (c_X6_get l D y a hr0) (mp_cw (k := 1) hts mM_X6_126 mI_X6_get mS_X6_get mN_X6 mC_X6_get rfl rfl (by decide +kernel) ⟨Nat.le_of_ble_eq_true rfl, Nat.le_of_ble_eq_true rfl⟩) hK hP hD hS hA 0 mwC_0 rfl rfl hl.1 rfl (Nat.le_of_ble_eq_true rfl) dX6_finds_26 ⟨Nat.zero_le _, Nat.zero_le _⟩ (fun H locs hP hD hS => ?_)
    refine lv_iconst (v := -1) hx hb dX6_finds_29 (by decide) ?_
    refine lv_icmp_ne (tgt := 34) hx hb dX6_finds_30 (by decide) (fun hc => ?_) (fun hc => ?_)
    · replace h := iff_ hc h
      refine lv_aload_n hx hb dX6_finds_34 rfl (lv_at hl 0 rfl) ?_
      refine lv_aload_n hx hb dX6_finds_35 rfl (lv_at hl 0 rfl) ?_
      refine lv_iconst (v := 4) hx hb dX6_finds_36 (by decide) ?_
      obtain ⟨r6, hr0, h⟩ := bn1_elim h
      refine mp_call1 (As := [.int ((4 : Int32))]) (rest := [.ref (a 0)]) X (c_X6_get l D y a hr0) (mp_cw (k := 1) hts mM_X6_126 mI_X6_get mS_X6_get mN_X6 mC_X6_get rfl rfl (by decide +kernel) ⟨Nat.le_of_ble_eq_true rfl, Nat.le_of_ble_eq_true rfl⟩) hK hP hD hS hA 0 mwC_0 rfl rfl hl.1 rfl (Nat.le_of_ble_eq_true rfl) dX6_finds_37 ⟨Nat.zero_le _, Nat.zero_le _⟩ (fun H locs hP hD hS => ?_)
      refine lv_iconst (v := 0) hx hb dX6_finds_40 (by decide) ?_
      obtain ⟨x7, hr0, h⟩ := bn1_elim h
      refine mp_callv (As := [.int r6, .int ((0 : Int32))]) (rest := []) X (c_X6_reckons l D y a hr0) (mp_cw (k := 2) hts mM_X6_130 mI_X6_reckons mS_X6_reckons mN_X6 mC_X6_reckons rfl rfl (by decide +kernel) ⟨Nat.le_of_ble_eq_true rfl, Nat.le_of_ble_eq_true rfl⟩) hK hP hD hS hA 0 mwC_0 rfl rfl hl.1 rfl (Nat.le_of_ble_eq_true rfl) dX6_finds_41 ⟨Nat.zero_le _, Nat.zero_le _⟩ (fun H locs hP hD hS => ?_)
      refine lv_aload_n hx hb dX6_finds_44 rfl (lv_at hl 0 rfl) ?_
      refine lv_iconst (v := 0) hx hb dX6_finds_45 (by decide) ?_
      obtain ⟨r8, hr0, h⟩ := bn1_elim h
      refine mp_call1 (As := [.int ((0 : Int32))]) (rest := []) X (c_X6_get l D y a hr0) (mp_cw (k := 1) hts mM_X6_126 mI_X6_get mS_X6_get mN_X6 mC_X6_get rfl rfl (by decide +kernel) ⟨Nat.le_of_ble_eq_true rfl, Nat.le_of_ble_eq_true rfl⟩) hK hP hD hS hA 0 mwC_0 rfl rfl hl.1 rfl (Nat.le_of_ble_eq_true rfl) dX6_finds_46 ⟨Nat.zero_le _, Nat.zero_le _⟩ (fun H locs hP hD hS => ?_)
      refine lv_istore_n (lv' := [(1, .int r8), (0, .ref (a 0))]) hx hb dX6_finds_49 rfl hl (by decide) rfl (fun ls hl => ?_)
      refine lv_aload_n hx hb dX6_finds_50 rfl (lv_at hl 1 rfl) ?_
      refine lv_iconst (v := 1) hx hb dX6_finds_51 (by decide) ?_
      obtain ⟨r9, hr0, h⟩ := bn1_elim h
      refine mp_call1 (As := [.int ((1 : Int32))]) (rest := []) X (c_X6_get l D y a hr0) (mp_cw (k := 1) hts mM_X6_126 mI_X6_get mS_X6_get mN_X6 mC_X6_get rfl rfl (by decide +kernel) ⟨Nat.le_of_ble_eq_true rfl, Nat.le_of_ble_eq_true rfl⟩) hK hP hD hS hA 0 mwC_0 rfl rfl hl.1 rfl (Nat.le_of_ble_eq_true rfl) dX6_finds_52 ⟨Nat.zero_le _, Nat.zero_le _⟩ (fun H locs hP hD hS => ?_)
      refine lv_istore_n (lv' := [(2, .int r9), (1, .int r8), (0, .ref (a 0))]) hx hb dX6_finds_55 rfl hl (by decide) rfl (fun ls hl => ?_)
      refine lv_aload_n hx hb dX6_finds_56 rfl (lv_at hl 2 rfl) ?_
      refine lv_iconst (v := 3) hx hb dX6_finds_57 (by decide) ?_
      obtain ⟨r10, hr0, h⟩ := bn1_elim h
      refine mp_call1 (As := [.int ((3 : Int32))]) (rest := []) X (c_X6_get l D y a hr0) (mp_cw (k := 1) hts mM_X6_126 mI_X6_get mS_X6_get mN_X6 mC_X6_get rfl rfl (by decide +kernel) ⟨Nat.le_of_ble_eq_true rfl, Nat.le_of_ble_eq_true rfl⟩) hK hP hD hS hA 0 mwC_0 rfl rfl hl.1 rfl (Nat.le_of_ble_eq_true rfl) dX6_finds_58 ⟨Nat.zero_le _, Nat.zero_le _⟩ (fun H locs hP hD hS => ?_)
      refine lv_istore_n (lv' := [(3, .int r10), (2, .int r9), (1, .int r8), (0, .ref (a 0))]) hx hb dX6_finds_61 rfl hl (by decide) rfl (fun ls hl => ?_)
      refine lv_ldc2 (v := 1000000000000) hx hb hown (hts _ mK_X6_108) dX6_finds_62 ?_
      refine lv_lstore (lv' := [(4, .long ((1000000000000 : Int64))), (3, .int r10), (2, .int r9), (1, .int r8), (0, .ref (a 0))]) hx hb dX6_finds_65 hl (by decide) rfl (fun ls hl => ?_)
      refine lv_iconst (v := 0) hx hb dX6_finds_67 (by decide) ?_
      refine lv_istore (lv' := [(6, .int ((0 : Int32))), (4, .long ((1000000000000 : Int64))), (3, .int r10), (2, .int r9), (1, .int r8), (0, .ref (a 0))]) hx hb dX6_finds_68 hl (by decide) rfl (fun ls hl => ?_)
      refine lv_iconst (v := 0) hx hb dX6_finds_70 (by decide) ?_
      refine lv_istore (lv' := [(7, .int ((0 : Int32))), (6, .int ((0 : Int32))), (4, .long ((1000000000000 : Int64))), (3, .int r10), (2, .int r9), (1, .int r8), (0, .ref (a 0))]) hx hb dX6_finds_71 hl (by decide) rfl (fun ls hl => ?_)
      exact w_X6_finds_b73 X hK hA FU x7 r8 r9 r10 ((1000000000000 : Int64)) ((0 : Int32)) ((0 : Int32)) _ _ _ hP hD hS (lv_sub hl [6, 5, 4, 3, 2, 1, 0] rfl) h
    · replace h := ift hc h
      cases h
      exact mpr_v X hK hP hD hS dX6_finds_33
def f_X6_piece_b87 (x : PD) (v1 : Int32) (v2 : Int32) (v3 : Int32) (v4 : Int32) (v5 : Int32) : Option (Int32 × PD) :=
  gd (inR (rI x 1) 20) (letv (wA x 1 (upd (rA x 1) (Int32.toNatClampNeg (rI x 1)) v1)) fun x2 =>
  gd (inR (rI x2 1) 20) (letv (wA x2 2 (upd (rA x2 2) (Int32.toNatClampNeg (rI x2 1)) v2)) fun x3 =>
  gd (inR (rI x3 1) 20) (letv (wA x3 3 (upd (rA x3 3) (Int32.toNatClampNeg (rI x3 1)) v3)) fun x4 =>
  gd (inR (rI x4 1) 20) (letv (wA x4 4 (upd (rA x4 4) (Int32.toNatClampNeg (rI x4 1)) v4)) fun x5 =>
  gd (inR (rI x5 1) 20) (letv (wA x5 5 (upd (rA x5 5) (Int32.toNatClampNeg (rI x5 1)) v5)) fun x6 =>
  letv (wI x6 1 ((rI x6 1) + ((1 : Int32)))) fun x7 =>
  bn1 (f_X6_finds x7) fun x8 =>
  some ((rI x8 1) - ((1 : Int32)), x8))))))
set_option maxHeartbeats 4000000 in
set_option maxRecDepth 100000 in
theorem w_X6_piece_b87 {p : Program} {l : Launch} {e : Env} {s : State} {m : MethodId} {args : Array Value} {below : List Frame} {meth : Method} {c : Code} {D : va_G} {y : CY} {a : Nat → Nat} {A : Nat → Prop} {x' : PD} {r : Int32} (X : mpX p s m args meth c cX6_piece 6 (some .int) RX6) (hK : va_K D vwCl (mpT y) s) (hA : ∀ q, s.heap.size ≤ q → A q) : ∀ (x : PD) (v1 : Int32) (v2 : Int32) (v3 : Int32) (v4 : Int32) (v5 : Int32) (H : Heap) (locs : List Loc) (ls : Array Slot), va_P D vwCl (mw y a x) H → va_D A (mw y a x) → va_S A s.heap H locs → lv_has ls 6 [(0, .ref (a 0)), (1, .int v1), (2, .int v2), (3, .int v3), (4, .int v4), (5, .int v5)] → f_X6_piece_b87 x v1 v2 v3 v4 v5 = some (r, x') → W p l e { frames := 3, cells := 0, slots := 0, locals := 82 } s m args below meth c H locs 0 0 (MQ below (mpC D y A (mw y a x') (some (.int r))) args s 0 0 A) (F0 m 87 ls []) := by
  obtain ⟨⟨hx, hb, hml, hown, hts⟩, hr, hlk⟩ := id X
  intro x v1 v2 v3 v4 v5 H locs ls hP hD hS hl h
  unfold f_X6_piece_b87 at h
  refine lv_aload_n hx hb dX6_piece_87 rfl (lv_at hl 0 rfl) ?_
  refine mwG_0_3 X hK hP mF_X6_7 dX6_piece_88 ?_
  refine lv_aload_n hx hb dX6_piece_91 rfl (lv_at hl 0 rfl) ?_
  refine mwG_0_1 X hK hP mF_X6_84 dX6_piece_92 ?_
  refine lv_iload_n hx hb dX6_piece_95 rfl (lv_at hl 1 rfl) ?_
  obtain ⟨hg, h⟩ := gd_elim h
  obtain ⟨x2, e1, h⟩ := letv_elim h
  refine mwS_1 X hK hP hD hS hg e1 dX6_piece_96 (fun H locs hP hD hS => ?_)
  refine lv_aload_n hx hb dX6_piece_97 rfl (lv_at hl 0 rfl) ?_
  refine mwG_0_4 X hK hP mF_X6_13 dX6_piece_98 ?_
  refine lv_aload_n hx hb dX6_piece_101 rfl (lv_at hl 0 rfl) ?_
  refine mwG_0_1 X hK hP mF_X6_84 dX6_piece_102 ?_
  refine lv_iload_n hx hb dX6_piece_105 rfl (lv_at hl 2 rfl) ?_
  obtain ⟨hg, h⟩ := gd_elim h
  obtain ⟨x3, e1, h⟩ := letv_elim h
  refine mwS_2 X hK hP hD hS hg e1 dX6_piece_106 (fun H locs hP hD hS => ?_)
  refine lv_aload_n hx hb dX6_piece_107 rfl (lv_at hl 0 rfl) ?_
  refine mwG_0_5 X hK hP mF_X6_16 dX6_piece_108 ?_
  refine lv_aload_n hx hb dX6_piece_111 rfl (lv_at hl 0 rfl) ?_
  refine mwG_0_1 X hK hP mF_X6_84 dX6_piece_112 ?_
  refine lv_iload_n hx hb dX6_piece_115 rfl (lv_at hl 3 rfl) ?_
  obtain ⟨hg, h⟩ := gd_elim h
  obtain ⟨x4, e1, h⟩ := letv_elim h
  refine mwS_3 X hK hP hD hS hg e1 dX6_piece_116 (fun H locs hP hD hS => ?_)
  refine lv_aload_n hx hb dX6_piece_117 rfl (lv_at hl 0 rfl) ?_
  refine mwG_0_6 X hK hP mF_X6_19 dX6_piece_118 ?_
  refine lv_aload_n hx hb dX6_piece_121 rfl (lv_at hl 0 rfl) ?_
  refine mwG_0_1 X hK hP mF_X6_84 dX6_piece_122 ?_
  refine lv_iload hx hb dX6_piece_125 (lv_at hl 4 rfl) ?_
  obtain ⟨hg, h⟩ := gd_elim h
  obtain ⟨x5, e1, h⟩ := letv_elim h
  refine mwS_4 X hK hP hD hS hg e1 dX6_piece_127 (fun H locs hP hD hS => ?_)
  refine lv_aload_n hx hb dX6_piece_128 rfl (lv_at hl 0 rfl) ?_
  refine mwG_0_7 X hK hP mF_X6_22 dX6_piece_129 ?_
  refine lv_aload_n hx hb dX6_piece_132 rfl (lv_at hl 0 rfl) ?_
  refine mwG_0_1 X hK hP mF_X6_84 dX6_piece_133 ?_
  refine lv_iload hx hb dX6_piece_136 (lv_at hl 5 rfl) ?_
  obtain ⟨hg, h⟩ := gd_elim h
  obtain ⟨x6, e1, h⟩ := letv_elim h
  refine mwS_5 X hK hP hD hS hg e1 dX6_piece_138 (fun H locs hP hD hS => ?_)
  refine lv_aload_n hx hb dX6_piece_139 rfl (lv_at hl 0 rfl) ?_
  refine lv_dup hx hb dX6_piece_140 rfl ?_
  refine mwG_0_1 X hK hP mF_X6_84 dX6_piece_141 ?_
  refine lv_iconst (v := 1) hx hb dX6_piece_144 (by decide) ?_
  refine lv_iadd hx hb dX6_piece_145 ?_
  obtain ⟨x7, e1, h⟩ := letv_elim h
  refine mwP_0_1 X hK hP hD hS mF_X6_84 e1 dX6_piece_146 (fun H locs hP hD hS => ?_)
  refine lv_aload_n hx hb dX6_piece_149 rfl (lv_at hl 0 rfl) ?_
  obtain ⟨x8, hr0, h⟩ := bn1_elim h
  refine mp_callv (As := []) (rest := []) X (c_X6_finds l D y a hr0) (mp_cw (k := 0) hts mM_X6_91 mI_X6_finds mS_X6_finds mN_X6 mC_X6_finds rfl rfl (by decide +kernel) ⟨Nat.le_of_ble_eq_true rfl, Nat.le_of_ble_eq_true rfl⟩) hK hP hD hS hA 0 mwC_0 rfl rfl hl.1 rfl (Nat.le_of_ble_eq_true rfl) dX6_piece_150 ⟨Nat.zero_le _, Nat.zero_le _⟩ (fun H locs hP hD hS => ?_)
  refine lv_aload_n hx hb dX6_piece_153 rfl (lv_at hl 0 rfl) ?_
  refine mwG_0_1 X hK hP mF_X6_84 dX6_piece_154 ?_
  refine lv_iconst (v := 1) hx hb dX6_piece_157 (by decide) ?_
  refine lv_isub hx hb dX6_piece_158 ?_
  cases h
  exact mpr_i X hK hP hD hS rfl dX6_piece_159
def f_X6_piece (x : PD) (p1 : Int32) (p2 : Int32) (p3 : Int32) (p4 : Int32) (p5 : Int32) : Option (Int32 × PD) :=
  letv (wI x 0 ((0 : Int32))) fun x1 =>
  if (rI x1 1) = ((20 : Int32)) then
  (some ((-1 : Int32), x1))
  else
  if p1 < 0 then
  (some ((-1 : Int32), x1))
  else
  if ((3 : Int32)) < p1 then
  (some ((-1 : Int32), x1))
  else
  if p2 < ((1 : Int32)) then
  (some ((-1 : Int32), x1))
  else
  if ((64 : Int32)) < p2 then
  (some ((-1 : Int32), x1))
  else
  if p3 < ((24 : Int32)) then
  (some ((-1 : Int32), x1))
  else
  if ((2400 : Int32)) < p3 then
  (some ((-1 : Int32), x1))
  else
  if p4 < 0 then
  (some ((-1 : Int32), x1))
  else
  if ((255 : Int32)) < p4 then
  (some ((-1 : Int32), x1))
  else
  if p5 < ((1 : Int32)) then
  (some ((-1 : Int32), x1))
  else
  if p5 ≤ ((9 : Int32)) then
  (if p1 < ((2 : Int32)) then
  ((f_X6_piece_b87 x1 p1 p2 p3 p4 p5))
  else
  if p4 = 0 then
  ((f_X6_piece_b87 x1 p1 p2 p3 p4 p5))
  else
  some ((-1 : Int32), x1))
  else
  some ((-1 : Int32), x1)
set_option maxHeartbeats 4000000 in
set_option maxRecDepth 100000 in
theorem c_X6_piece (l : Launch) (D : va_G) (y : CY) (a : Nat → Nat) {x : PD} {x' : PD} {r : Int32} {p1 : Int32} {p2 : Int32} {p3 : Int32} {p4 : Int32} {p5 : Int32} (h : f_X6_piece x p1 p2 p3 p4 p5 = some (r, x')) : mpM l D y yX6_piece cX6_piece 6 (some .int) { frames := 3, cells := 0, slots := 0, locals := 82 } (mw y a x) (mw y a x') [.ref (a 0), .int p1, .int p2, .int p3, .int p4, .int p5] (some (.int r)) := by
  refine mpM.mk (own := RX6) (by decide) rfl (Nat.le_of_ble_eq_true rfl) ?_
  intro p e s m below meth c A ls X hK hA hP hD hl
  have hS : va_S A s.heap s.heap [] := va_S.rf
  obtain ⟨⟨hx, hb, hml, hown, hts⟩, hr, hlk⟩ := id X
  have hl : lv_has ls 6 [(0, .ref (a 0)), (1, .int p1), (2, .int p2), (3, .int p3), (4, .int p4), (5, .int p5)] := hl
  unfold f_X6_piece at h
  refine lv_aload_n hx hb dX6_piece_0 rfl (lv_at hl 0 rfl) ?_
  refine lv_iconst (v := 0) hx hb dX6_piece_1 (by decide) ?_
  obtain ⟨x1, e1, h⟩ := letv_elim h
  refine mwP_0_0 X hK hP hD hS mF_X6_80 e1 dX6_piece_2 (fun H locs hP hD hS => ?_)
  refine lv_aload_n hx hb dX6_piece_5 rfl (lv_at hl 0 rfl) ?_
  refine mwG_0_1 X hK hP mF_X6_84 dX6_piece_6 ?_
  refine lv_bipush (v := 20) hx hb dX6_piece_9 (by decide) ?_
  refine lv_icmp_eq (tgt := 73) hx hb dX6_piece_11 (by decide) (fun hc => ?_) (fun hc => ?_)
  · replace h := ift hc h
    refine lv_iconst (v := -1) hx hb dX6_piece_73 (by decide) ?_
    cases h
    exact mpr_i X hK hP hD hS rfl dX6_piece_74
  · replace h := iff_ hc h
    refine lv_iload_n hx hb dX6_piece_14 rfl (lv_at hl 1 rfl) ?_
    refine lv_if_lt (tgt := 73) hx hb dX6_piece_15 (by decide) (fun hc => ?_) (fun hc => ?_)
    · replace h := ift hc h
      refine lv_iconst (v := -1) hx hb dX6_piece_73 (by decide) ?_
      cases h
      exact mpr_i X hK hP hD hS rfl dX6_piece_74
    · replace h := iff_ hc h
      refine lv_iload_n hx hb dX6_piece_18 rfl (lv_at hl 1 rfl) ?_
      refine lv_iconst (v := 3) hx hb dX6_piece_19 (by decide) ?_
      refine lv_icmp_gt (tgt := 73) hx hb dX6_piece_20 (by decide) (fun hc => ?_) (fun hc => ?_)
      · replace h := ift hc h
        refine lv_iconst (v := -1) hx hb dX6_piece_73 (by decide) ?_
        cases h
        exact mpr_i X hK hP hD hS rfl dX6_piece_74
      · replace h := iff_ hc h
        refine lv_iload_n hx hb dX6_piece_23 rfl (lv_at hl 2 rfl) ?_
        refine lv_iconst (v := 1) hx hb dX6_piece_24 (by decide) ?_
        refine lv_icmp_lt (tgt := 73) hx hb dX6_piece_25 (by decide) (fun hc => ?_) (fun hc => ?_)
        · replace h := ift hc h
          refine lv_iconst (v := -1) hx hb dX6_piece_73 (by decide) ?_
          cases h
          exact mpr_i X hK hP hD hS rfl dX6_piece_74
        · replace h := iff_ hc h
          refine lv_iload_n hx hb dX6_piece_28 rfl (lv_at hl 2 rfl) ?_
          refine lv_bipush (v := 64) hx hb dX6_piece_29 (by decide) ?_
          refine lv_icmp_gt (tgt := 73) hx hb dX6_piece_31 (by decide) (fun hc => ?_) (fun hc => ?_)
          · replace h := ift hc h
            refine lv_iconst (v := -1) hx hb dX6_piece_73 (by decide) ?_
            cases h
            exact mpr_i X hK hP hD hS rfl dX6_piece_74
          · replace h := iff_ hc h
            refine lv_iload_n hx hb dX6_piece_34 rfl (lv_at hl 3 rfl) ?_
            refine lv_bipush (v := 24) hx hb dX6_piece_35 (by decide) ?_
            refine lv_icmp_lt (tgt := 73) hx hb dX6_piece_37 (by decide) (fun hc => ?_) (fun hc => ?_)
            · replace h := ift hc h
              refine lv_iconst (v := -1) hx hb dX6_piece_73 (by decide) ?_
              cases h
              exact mpr_i X hK hP hD hS rfl dX6_piece_74
            · replace h := iff_ hc h
              refine lv_iload_n hx hb dX6_piece_40 rfl (lv_at hl 3 rfl) ?_
              refine lv_sipush (v := 2400) hx hb dX6_piece_41 (by decide) ?_
              refine lv_icmp_gt (tgt := 73) hx hb dX6_piece_44 (by decide) (fun hc => ?_) (fun hc => ?_)
              · replace h := ift hc h
                refine lv_iconst (v := -1) hx hb dX6_piece_73 (by decide) ?_
                cases h
                exact mpr_i X hK hP hD hS rfl dX6_piece_74
              · replace h := iff_ hc h
                refine lv_iload hx hb dX6_piece_47 (lv_at hl 4 rfl) ?_
                refine lv_if_lt (tgt := 73) hx hb dX6_piece_49 (by decide) (fun hc => ?_) (fun hc => ?_)
                · replace h := ift hc h
                  refine lv_iconst (v := -1) hx hb dX6_piece_73 (by decide) ?_
                  cases h
                  exact mpr_i X hK hP hD hS rfl dX6_piece_74
                · replace h := iff_ hc h
                  refine lv_iload hx hb dX6_piece_52 (lv_at hl 4 rfl) ?_
                  refine lv_sipush (v := 255) hx hb dX6_piece_54 (by decide) ?_
                  refine lv_icmp_gt (tgt := 73) hx hb dX6_piece_57 (by decide) (fun hc => ?_) (fun hc => ?_)
                  · replace h := ift hc h
                    refine lv_iconst (v := -1) hx hb dX6_piece_73 (by decide) ?_
                    cases h
                    exact mpr_i X hK hP hD hS rfl dX6_piece_74
                  · replace h := iff_ hc h
                    refine lv_iload hx hb dX6_piece_60 (lv_at hl 5 rfl) ?_
                    refine lv_iconst (v := 1) hx hb dX6_piece_62 (by decide) ?_
                    refine lv_icmp_lt (tgt := 73) hx hb dX6_piece_63 (by decide) (fun hc => ?_) (fun hc => ?_)
                    · replace h := ift hc h
                      refine lv_iconst (v := -1) hx hb dX6_piece_73 (by decide) ?_
                      cases h
                      exact mpr_i X hK hP hD hS rfl dX6_piece_74
                    · replace h := iff_ hc h
                      refine lv_iload hx hb dX6_piece_66 (lv_at hl 5 rfl) ?_
                      refine lv_bipush (v := 9) hx hb dX6_piece_68 (by decide) ?_
                      refine lv_icmp_le (tgt := 75) hx hb dX6_piece_70 (by decide) (fun hc => ?_) (fun hc => ?_)
                      · replace h := ift hc h
                        refine lv_iload_n hx hb dX6_piece_75 rfl (lv_at hl 1 rfl) ?_
                        refine lv_iconst (v := 2) hx hb dX6_piece_76 (by decide) ?_
                        refine lv_icmp_lt (tgt := 87) hx hb dX6_piece_77 (by decide) (fun hc => ?_) (fun hc => ?_)
                        · replace h := ift hc h
                          exact w_X6_piece_b87 X hK hA x1 p1 p2 p3 p4 p5 _ _ _ hP hD hS (lv_sub hl [0, 1, 2, 3, 4, 5] rfl) h
                        · replace h := iff_ hc h
                          refine lv_iload hx hb dX6_piece_80 (lv_at hl 4 rfl) ?_
                          refine lv_if_eq (tgt := 87) hx hb dX6_piece_82 (by decide) (fun hc => ?_) (fun hc => ?_)
                          · replace h := ift hc h
                            exact w_X6_piece_b87 X hK hA x1 p1 p2 p3 p4 p5 _ _ _ hP hD hS (lv_sub hl [0, 1, 2, 3, 4, 5] rfl) h
                          · replace h := iff_ hc h
                            refine lv_iconst (v := -1) hx hb dX6_piece_85 (by decide) ?_
                            cases h
                            exact mpr_i X hK hP hD hS rfl dX6_piece_86
                      · replace h := iff_ hc h
                        refine lv_iconst (v := -1) hx hb dX6_piece_73 (by decide) ?_
                        cases h
                        exact mpr_i X hK hP hD hS rfl dX6_piece_74
def f_X6_right_b16 (x : PD) : Option (Int32 × PD) :=
  if (rI x 0) = 0 then
  some ((1 : Int32), x)
  else
  some ((0 : Int32), x)
set_option maxHeartbeats 4000000 in
set_option maxRecDepth 100000 in
theorem w_X6_right_b16 {p : Program} {l : Launch} {e : Env} {s : State} {m : MethodId} {args : Array Value} {below : List Frame} {meth : Method} {c : Code} {D : va_G} {y : CY} {a : Nat → Nat} {A : Nat → Prop} {x' : PD} {r : Int32} (X : mpX p s m args meth c cX6_right 3 (some .boolean) RX6) (hK : va_K D vwCl (mpT y) s) (hA : ∀ q, s.heap.size ≤ q → A q) : ∀ (x : PD) (H : Heap) (locs : List Loc) (ls : Array Slot), va_P D vwCl (mw y a x) H → va_D A (mw y a x) → va_S A s.heap H locs → lv_has ls 3 [(0, .ref (a 0))] → f_X6_right_b16 x = some (r, x') → W p l e { frames := 0, cells := 0, slots := 0, locals := 0 } s m args below meth c H locs 0 0 (MQ below (mpC D y A (mw y a x') (some (.int r))) args s 0 0 A) (F0 m 16 ls []) := by
  obtain ⟨⟨hx, hb, hml, hown, hts⟩, hr, hlk⟩ := id X
  intro x H locs ls hP hD hS hl h
  unfold f_X6_right_b16 at h
  refine lv_aload_n hx hb dX6_right_16 rfl (lv_at hl 0 rfl) ?_
  refine mwG_0_0 X hK hP mF_X6_80 dX6_right_17 ?_
  refine lv_if_ne (tgt := 27) hx hb dX6_right_20 (by decide) (fun hc => ?_) (fun hc => ?_)
  · replace h := iff_ hc h
    refine lv_iconst (v := 0) hx hb dX6_right_27 (by decide) ?_
    cases h
    exact mpr_z X hK hP hD hS rfl rfl dX6_right_28
  · replace h := ift hc h
    refine lv_iconst (v := 1) hx hb dX6_right_23 (by decide) ?_
    refine lv_goto (tgt := 28) hx hb dX6_right_24 (by decide) ?_
    cases h
    exact mpr_z X hK hP hD hS rfl rfl dX6_right_28
def f_X6_right (x : PD) (p1 : Int32) (p2 : Int32) : Option (Int32 × PD) :=
  if (rI x 0) = 0 then
  (if p1 = 0 then
  letv (wI x 0 p2) fun x1 =>
  (f_X6_right_b16 x1)
  else
  (f_X6_right_b16 x))
  else
  (f_X6_right_b16 x)
set_option maxHeartbeats 4000000 in
set_option maxRecDepth 100000 in
theorem c_X6_right (l : Launch) (D : va_G) (y : CY) (a : Nat → Nat) {x : PD} {x' : PD} {r : Int32} {p1 : Int32} {p2 : Int32} (h : f_X6_right x p1 p2 = some (r, x')) : mpM l D y yX6_right cX6_right 3 (some .boolean) { frames := 0, cells := 0, slots := 0, locals := 0 } (mw y a x) (mw y a x') [.ref (a 0), .int p1, .int p2] (some (.int r)) := by
  refine mpM.mk (own := RX6) (by decide) rfl (Nat.le_of_ble_eq_true rfl) ?_
  intro p e s m below meth c A ls X hK hA hP hD hl
  have hS : va_S A s.heap s.heap [] := va_S.rf
  obtain ⟨⟨hx, hb, hml, hown, hts⟩, hr, hlk⟩ := id X
  have hl : lv_has ls 3 [(0, .ref (a 0)), (1, .int p1), (2, .int p2)] := hl
  unfold f_X6_right at h
  refine lv_aload_n hx hb dX6_right_0 rfl (lv_at hl 0 rfl) ?_
  refine mwG_0_0 X hK hP mF_X6_80 dX6_right_1 ?_
  refine lv_if_ne (tgt := 16) hx hb dX6_right_4 (by decide) (fun hc => ?_) (fun hc => ?_)
  · replace h := iff_ hc h
    exact w_X6_right_b16 X hK hA x _ _ _ hP hD hS (lv_sub hl [0] rfl) h
  · replace h := ift hc h
    refine lv_iload_n hx hb dX6_right_7 rfl (lv_at hl 1 rfl) ?_
    refine lv_if_ne (tgt := 16) hx hb dX6_right_8 (by decide) (fun hc => ?_) (fun hc => ?_)
    · replace h := iff_ hc h
      exact w_X6_right_b16 X hK hA x _ _ _ hP hD hS (lv_sub hl [0] rfl) h
    · replace h := ift hc h
      refine lv_aload_n hx hb dX6_right_11 rfl (lv_at hl 0 rfl) ?_
      refine lv_iload_n hx hb dX6_right_12 rfl (lv_at hl 2 rfl) ?_
      obtain ⟨x1, e1, h⟩ := letv_elim h
      refine mwP_0_0 X hK hP hD hS mF_X6_80 e1 dX6_right_13 (fun H locs hP hD hS => ?_)
      exact w_X6_right_b16 X hK hA x1 _ _ _ hP hD hS (lv_sub hl [0] rfl) h
def f_X6_isPiece_b18 (x : PD) (t0 : Int32) : Option (Int32 × PD) :=
  bn2 (f_X6_right x t0 ((1 : Int32))) fun r1 x2 =>
  gd (isB r1) (some (r1, x2))
set_option maxHeartbeats 4000000 in
set_option maxRecDepth 100000 in
theorem w_X6_isPiece_b18 {p : Program} {l : Launch} {e : Env} {s : State} {m : MethodId} {args : Array Value} {below : List Frame} {meth : Method} {c : Code} {D : va_G} {y : CY} {a : Nat → Nat} {A : Nat → Prop} {x' : PD} {r : Int32} (X : mpX p s m args meth c cX6_isPiece 2 (some .boolean) RX6) (hK : va_K D vwCl (mpT y) s) (hA : ∀ q, s.heap.size ≤ q → A q) : ∀ (x : PD) (t0 : Int32) (H : Heap) (locs : List Loc) (ls : Array Slot), va_P D vwCl (mw y a x) H → va_D A (mw y a x) → va_S A s.heap H locs → lv_has ls 2 [] → f_X6_isPiece_b18 x t0 = some (r, x') → W p l e { frames := 1, cells := 0, slots := 0, locals := 22 } s m args below meth c H locs 0 0 (MQ below (mpC D y A (mw y a x') (some (.int r))) args s 0 0 A) (F0 m 18 ls [.int t0, .ref (a 0)]) := by
  obtain ⟨⟨hx, hb, hml, hown, hts⟩, hr, hlk⟩ := id X
  intro x t0 H locs ls hP hD hS hl h
  unfold f_X6_isPiece_b18 at h
  refine lv_iconst (v := 1) hx hb dX6_isPiece_18 (by decide) ?_
  obtain ⟨r1, x2, hr0, h⟩ := bn2_elim h
  refine mp_call1 (As := [.int t0, .int ((1 : Int32))]) (rest := []) X (c_X6_right l D y a hr0) (mp_cw (k := 2) hts mM_X6_87 mI_X6_right mS_X6_right mN_X6 mC_X6_right rfl rfl (by decide +kernel) ⟨Nat.le_of_ble_eq_true rfl, Nat.le_of_ble_eq_true rfl⟩) hK hP hD hS hA 0 mwC_0 rfl rfl hl.1 rfl (Nat.le_of_ble_eq_true rfl) dX6_isPiece_19 ⟨Nat.zero_le _, Nat.zero_le _⟩ (fun H locs hP hD hS => ?_)
  obtain ⟨hg, h⟩ := gd_elim h
  cases h
  exact mpr_z X hK hP hD hS (isB_nar hg) rfl dX6_isPiece_22
def f_X6_isPiece (x : PD) (p1 : Int32) : Option (Int32 × PD) :=
  if p1 < 0 then
  ((f_X6_isPiece_b18 x ((0 : Int32))))
  else
  if (rI x 1) ≤ p1 then
  ((f_X6_isPiece_b18 x ((0 : Int32))))
  else
  (f_X6_isPiece_b18 x ((1 : Int32)))
set_option maxHeartbeats 4000000 in
set_option maxRecDepth 100000 in
theorem c_X6_isPiece (l : Launch) (D : va_G) (y : CY) (a : Nat → Nat) {x : PD} {x' : PD} {r : Int32} {p1 : Int32} (h : f_X6_isPiece x p1 = some (r, x')) : mpM l D y yX6_isPiece cX6_isPiece 2 (some .boolean) { frames := 1, cells := 0, slots := 0, locals := 22 } (mw y a x) (mw y a x') [.ref (a 0), .int p1] (some (.int r)) := by
  refine mpM.mk (own := RX6) (by decide) rfl (Nat.le_of_ble_eq_true rfl) ?_
  intro p e s m below meth c A ls X hK hA hP hD hl
  have hS : va_S A s.heap s.heap [] := va_S.rf
  obtain ⟨⟨hx, hb, hml, hown, hts⟩, hr, hlk⟩ := id X
  have hl : lv_has ls 2 [(0, .ref (a 0)), (1, .int p1)] := hl
  unfold f_X6_isPiece at h
  refine lv_aload_n hx hb dX6_isPiece_0 rfl (lv_at hl 0 rfl) ?_
  refine lv_iload_n hx hb dX6_isPiece_1 rfl (lv_at hl 1 rfl) ?_
  refine lv_if_lt (tgt := 17) hx hb dX6_isPiece_2 (by decide) (fun hc => ?_) (fun hc => ?_)
  · replace h := ift hc h
    refine lv_iconst (v := 0) hx hb dX6_isPiece_17 (by decide) ?_
    exact w_X6_isPiece_b18 X hK hA x ((0 : Int32)) _ _ _ hP hD hS (lv_sub hl [] rfl) h
  · replace h := iff_ hc h
    refine lv_iload_n hx hb dX6_isPiece_5 rfl (lv_at hl 1 rfl) ?_
    refine lv_aload_n hx hb dX6_isPiece_6 rfl (lv_at hl 0 rfl) ?_
    refine mwG_0_1 X hK hP mF_X6_84 dX6_isPiece_7 ?_
    refine lv_icmp_ge (tgt := 17) hx hb dX6_isPiece_10 (by decide) (fun hc => ?_) (fun hc => ?_)
    · replace h := ift hc h
      refine lv_iconst (v := 0) hx hb dX6_isPiece_17 (by decide) ?_
      exact w_X6_isPiece_b18 X hK hA x ((0 : Int32)) _ _ _ hP hD hS (lv_sub hl [] rfl) h
    · replace h := iff_ hc h
      refine lv_iconst (v := 1) hx hb dX6_isPiece_13 (by decide) ?_
      refine lv_goto (tgt := 18) hx hb dX6_isPiece_14 (by decide) ?_
      exact w_X6_isPiece_b18 X hK hA x ((1 : Int32)) _ _ _ hP hD hS (lv_sub hl [] rfl) h
def f_X6_isMain (x : PD) (p1 : Int32) : Option (Int32) :=
  gd (inR p1 20) (if (rA x 1 (Int32.toNatClampNeg p1)) = 0 then
  (some ((1 : Int32)))
  else
  gd (inR p1 20) (if (rA x 1 (Int32.toNatClampNeg p1)) = ((1 : Int32)) then
  some ((1 : Int32))
  else
  some ((0 : Int32))))
set_option maxHeartbeats 4000000 in
set_option maxRecDepth 100000 in
theorem c_X6_isMain (l : Launch) (D : va_G) (y : CY) (a : Nat → Nat) {x : PD} {r : Int32} {p1 : Int32} (h : f_X6_isMain x p1 = some r) : mpM l D y yX6_isMain cX6_isMain 2 (some .boolean) { frames := 0, cells := 0, slots := 0, locals := 0 } (mw y a x) (mw y a x) [.ref (a 0), .int p1] (some (.int r)) := by
  refine mpM.mk (own := RX6) (by decide) rfl (Nat.le_of_ble_eq_true rfl) ?_
  intro p e s m below meth c A ls X hK hA hP hD hl
  have hS : va_S A s.heap s.heap [] := va_S.rf
  obtain ⟨⟨hx, hb, hml, hown, hts⟩, hr, hlk⟩ := id X
  have hl : lv_has ls 2 [(0, .ref (a 0)), (1, .int p1)] := hl
  unfold f_X6_isMain at h
  refine lv_aload_n hx hb dX6_isMain_0 rfl (lv_at hl 0 rfl) ?_
  refine mwG_0_3 X hK hP mF_X6_7 dX6_isMain_1 ?_
  refine lv_iload_n hx hb dX6_isMain_4 rfl (lv_at hl 1 rfl) ?_
  obtain ⟨hg, h⟩ := gd_elim h
  refine mwL_1 X hK hP hg dX6_isMain_5 ?_
  refine lv_if_eq (tgt := 19) hx hb dX6_isMain_6 (by decide) (fun hc => ?_) (fun hc => ?_)
  · replace h := ift hc h
    refine lv_iconst (v := 1) hx hb dX6_isMain_19 (by decide) ?_
    refine lv_goto (tgt := 24) hx hb dX6_isMain_20 (by decide) ?_
    cases h
    exact mpr_z X hK hP hD hS rfl rfl dX6_isMain_24
  · replace h := iff_ hc h
    refine lv_aload_n hx hb dX6_isMain_9 rfl (lv_at hl 0 rfl) ?_
    refine mwG_0_3 X hK hP mF_X6_7 dX6_isMain_10 ?_
    refine lv_iload_n hx hb dX6_isMain_13 rfl (lv_at hl 1 rfl) ?_
    obtain ⟨hg, h⟩ := gd_elim h
    refine mwL_1 X hK hP hg dX6_isMain_14 ?_
    refine lv_iconst (v := 1) hx hb dX6_isMain_15 (by decide) ?_
    refine lv_icmp_ne (tgt := 23) hx hb dX6_isMain_16 (by decide) (fun hc => ?_) (fun hc => ?_)
    · replace h := iff_ hc h
      refine lv_iconst (v := 0) hx hb dX6_isMain_23 (by decide) ?_
      cases h
      exact mpr_z X hK hP hD hS rfl rfl dX6_isMain_24
    · replace h := ift hc h
      refine lv_iconst (v := 1) hx hb dX6_isMain_19 (by decide) ?_
      refine lv_goto (tgt := 24) hx hb dX6_isMain_20 (by decide) ?_
      cases h
      exact mpr_z X hK hP hD hS rfl rfl dX6_isMain_24
def f_X6_joint_b80 : Nat → PD → Int32 → Int32 → Int32 → Int32 → Int32 → Option (Int32 × PD)
  | 0, _, _, _, _, _, _ => none
  | n + 1, x, v1, v2, v3, v4, v5 =>
    if (rI x 2) ≤ v5 then
  (gd (inR (rI x 2) 100) (letv (wA x 6 (upd (rA x 6) (Int32.toNatClampNeg (rI x 2)) v1)) fun x8 =>
  gd (inR (rI x8 2) 100) (letv (wA x8 7 (upd (rA x8 7) (Int32.toNatClampNeg (rI x8 2)) v2)) fun x9 =>
  gd (inR (rI x9 2) 100) (letv (wA x9 8 (upd (rA x9 8) (Int32.toNatClampNeg (rI x9 2)) v3)) fun x10 =>
  gd (inR (rI x10 2) 100) (letv (wA x10 9 (upd (rA x10 9) (Int32.toNatClampNeg (rI x10 2)) v4)) fun x11 =>
  letv (wI x11 2 ((rI x11 2) + ((1 : Int32)))) fun x12 =>
  bn1 (f_X6_finds x12) fun x13 =>
  some ((rI x13 2) - ((1 : Int32)), x13))))))
  else
  gd (inR v5 100) (if (rA x 6 (Int32.toNatClampNeg v5)) = v1 then
  gd (inR v5 100) (if (rA x 7 (Int32.toNatClampNeg v5)) = v2 then
  gd (inR v5 100) (if (rA x 8 (Int32.toNatClampNeg v5)) = v3 then
  some ((-1 : Int32), x)
  else
  ((f_X6_joint_b80 n) x v1 v2 v3 v4 (v5 + 1)))
  else
  ((f_X6_joint_b80 n) x v1 v2 v3 v4 (v5 + 1)))
  else
  ((f_X6_joint_b80 n) x v1 v2 v3 v4 (v5 + 1)))
set_option maxHeartbeats 4000000 in
set_option maxRecDepth 100000 in
theorem w_X6_joint_b80 {p : Program} {l : Launch} {e : Env} {s : State} {m : MethodId} {args : Array Value} {below : List Frame} {meth : Method} {c : Code} {D : va_G} {y : CY} {a : Nat → Nat} {A : Nat → Prop} {x' : PD} {r : Int32} (X : mpX p s m args meth c cX6_joint 6 (some .int) RX6) (hK : va_K D vwCl (mpT y) s) (hA : ∀ q, s.heap.size ≤ q → A q) : ∀ (n : Nat), ∀ (x : PD) (v1 : Int32) (v2 : Int32) (v3 : Int32) (v4 : Int32) (v5 : Int32) (H : Heap) (locs : List Loc) (ls : Array Slot), va_P D vwCl (mw y a x) H → va_D A (mw y a x) → va_S A s.heap H locs → lv_has ls 6 [(0, .ref (a 0)), (1, .int v1), (2, .int v2), (3, .int v3), (4, .int v4), (5, .int v5)] → f_X6_joint_b80 n x v1 v2 v3 v4 v5 = some (r, x') → W p l e { frames := 3, cells := 0, slots := 0, locals := 82 } s m args below meth c H locs 0 0 (MQ below (mpC D y A (mw y a x') (some (.int r))) args s 0 0 A) (F0 m 80 ls []) := by
  obtain ⟨⟨hx, hb, hml, hown, hts⟩, hr, hlk⟩ := id X
  intro n
  induction n with
  | zero =>
    intro x v1 v2 v3 v4 v5 H locs ls hP hD hS hl h
    rw [f_X6_joint_b80] at h
    exact nons h
  | succ n ih =>
    intro x v1 v2 v3 v4 v5 H locs ls hP hD hS hl h
    rw [f_X6_joint_b80] at h
    refine lv_iload hx hb dX6_joint_80 (lv_at hl 5 rfl) ?_
    refine lv_aload_n hx hb dX6_joint_82 rfl (lv_at hl 0 rfl) ?_
    refine mwG_0_2 X hK hP mF_X6_98 dX6_joint_83 ?_
    refine lv_icmp_ge (tgt := 130) hx hb dX6_joint_86 (by decide) (fun hc => ?_) (fun hc => ?_)
    · replace h := ift hc h
      refine lv_aload_n hx hb dX6_joint_130 rfl (lv_at hl 0 rfl) ?_
      refine mwG_0_8 X hK hP mF_X6_25 dX6_joint_131 ?_
      refine lv_aload_n hx hb dX6_joint_134 rfl (lv_at hl 0 rfl) ?_
      refine mwG_0_2 X hK hP mF_X6_98 dX6_joint_135 ?_
      refine lv_iload_n hx hb dX6_joint_138 rfl (lv_at hl 1 rfl) ?_
      obtain ⟨hg, h⟩ := gd_elim h
      obtain ⟨x8, e1, h⟩ := letv_elim h
      refine mwS_6 X hK hP hD hS hg e1 dX6_joint_139 (fun H locs hP hD hS => ?_)
      refine lv_aload_n hx hb dX6_joint_140 rfl (lv_at hl 0 rfl) ?_
      refine mwG_0_9 X hK hP mF_X6_28 dX6_joint_141 ?_
      refine lv_aload_n hx hb dX6_joint_144 rfl (lv_at hl 0 rfl) ?_
      refine mwG_0_2 X hK hP mF_X6_98 dX6_joint_145 ?_
      refine lv_iload_n hx hb dX6_joint_148 rfl (lv_at hl 2 rfl) ?_
      obtain ⟨hg, h⟩ := gd_elim h
      obtain ⟨x9, e1, h⟩ := letv_elim h
      refine mwS_7 X hK hP hD hS hg e1 dX6_joint_149 (fun H locs hP hD hS => ?_)
      refine lv_aload_n hx hb dX6_joint_150 rfl (lv_at hl 0 rfl) ?_
      refine mwG_0_10 X hK hP mF_X6_31 dX6_joint_151 ?_
      refine lv_aload_n hx hb dX6_joint_154 rfl (lv_at hl 0 rfl) ?_
      refine mwG_0_2 X hK hP mF_X6_98 dX6_joint_155 ?_
      refine lv_iload_n hx hb dX6_joint_158 rfl (lv_at hl 3 rfl) ?_
      obtain ⟨hg, h⟩ := gd_elim h
      obtain ⟨x10, e1, h⟩ := letv_elim h
      refine mwS_8 X hK hP hD hS hg e1 dX6_joint_159 (fun H locs hP hD hS => ?_)
      refine lv_aload_n hx hb dX6_joint_160 rfl (lv_at hl 0 rfl) ?_
      refine mwG_0_11 X hK hP mF_X6_34 dX6_joint_161 ?_
      refine lv_aload_n hx hb dX6_joint_164 rfl (lv_at hl 0 rfl) ?_
      refine mwG_0_2 X hK hP mF_X6_98 dX6_joint_165 ?_
      refine lv_iload hx hb dX6_joint_168 (lv_at hl 4 rfl) ?_
      obtain ⟨hg, h⟩ := gd_elim h
      obtain ⟨x11, e1, h⟩ := letv_elim h
      refine mwS_9 X hK hP hD hS hg e1 dX6_joint_170 (fun H locs hP hD hS => ?_)
      refine lv_aload_n hx hb dX6_joint_171 rfl (lv_at hl 0 rfl) ?_
      refine lv_dup hx hb dX6_joint_172 rfl ?_
      refine mwG_0_2 X hK hP mF_X6_98 dX6_joint_173 ?_
      refine lv_iconst (v := 1) hx hb dX6_joint_176 (by decide) ?_
      refine lv_iadd hx hb dX6_joint_177 ?_
      obtain ⟨x12, e1, h⟩ := letv_elim h
      refine mwP_0_2 X hK hP hD hS mF_X6_98 e1 dX6_joint_178 (fun H locs hP hD hS => ?_)
      refine lv_aload_n hx hb dX6_joint_181 rfl (lv_at hl 0 rfl) ?_
      obtain ⟨x13, hr0, h⟩ := bn1_elim h
      refine mp_callv (As := []) (rest := []) X (c_X6_finds l D y a hr0) (mp_cw (k := 0) hts mM_X6_91 mI_X6_finds mS_X6_finds mN_X6 mC_X6_finds rfl rfl (by decide +kernel) ⟨Nat.le_of_ble_eq_true rfl, Nat.le_of_ble_eq_true rfl⟩) hK hP hD hS hA 0 mwC_0 rfl rfl hl.1 rfl (Nat.le_of_ble_eq_true rfl) dX6_joint_182 ⟨Nat.zero_le _, Nat.zero_le _⟩ (fun H locs hP hD hS => ?_)
      refine lv_aload_n hx hb dX6_joint_185 rfl (lv_at hl 0 rfl) ?_
      refine mwG_0_2 X hK hP mF_X6_98 dX6_joint_186 ?_
      refine lv_iconst (v := 1) hx hb dX6_joint_189 (by decide) ?_
      refine lv_isub hx hb dX6_joint_190 ?_
      cases h
      exact mpr_i X hK hP hD hS rfl dX6_joint_191
    · replace h := iff_ hc h
      refine lv_aload_n hx hb dX6_joint_89 rfl (lv_at hl 0 rfl) ?_
      refine mwG_0_8 X hK hP mF_X6_25 dX6_joint_90 ?_
      refine lv_iload hx hb dX6_joint_93 (lv_at hl 5 rfl) ?_
      obtain ⟨hg, h⟩ := gd_elim h
      refine mwL_6 X hK hP hg dX6_joint_95 ?_
      refine lv_iload_n hx hb dX6_joint_96 rfl (lv_at hl 1 rfl) ?_
      refine lv_icmp_ne (tgt := 124) hx hb dX6_joint_97 (by decide) (fun hc => ?_) (fun hc => ?_)
      · replace h := iff_ hc h
        refine lv_iinc (v := v5 + 1) (lv' := [(5, .int (v5 + 1)), (0, .ref (a 0)), (1, .int v1), (2, .int v2), (3, .int v3), (4, .int v4)]) hx hb dX6_joint_124 hl (k := 5) rfl rfl (by decide) rfl (fun ls hl => ?_)
        refine lv_goto (tgt := 80) hx hb dX6_joint_127 (by decide) ?_
        exact ih x v1 v2 v3 v4 (v5 + 1) _ _ _ hP hD hS (lv_sub hl [1, 2, 3, 4, 5, 0] rfl) h
      · replace h := ift hc h
        refine lv_aload_n hx hb dX6_joint_100 rfl (lv_at hl 0 rfl) ?_
        refine mwG_0_9 X hK hP mF_X6_28 dX6_joint_101 ?_
        refine lv_iload hx hb dX6_joint_104 (lv_at hl 5 rfl) ?_
        obtain ⟨hg, h⟩ := gd_elim h
        refine mwL_7 X hK hP hg dX6_joint_106 ?_
        refine lv_iload_n hx hb dX6_joint_107 rfl (lv_at hl 2 rfl) ?_
        refine lv_icmp_ne (tgt := 124) hx hb dX6_joint_108 (by decide) (fun hc => ?_) (fun hc => ?_)
        · replace h := iff_ hc h
          refine lv_iinc (v := v5 + 1) (lv' := [(5, .int (v5 + 1)), (0, .ref (a 0)), (1, .int v1), (2, .int v2), (3, .int v3), (4, .int v4)]) hx hb dX6_joint_124 hl (k := 5) rfl rfl (by decide) rfl (fun ls hl => ?_)
          refine lv_goto (tgt := 80) hx hb dX6_joint_127 (by decide) ?_
          exact ih x v1 v2 v3 v4 (v5 + 1) _ _ _ hP hD hS (lv_sub hl [1, 2, 3, 4, 5, 0] rfl) h
        · replace h := ift hc h
          refine lv_aload_n hx hb dX6_joint_111 rfl (lv_at hl 0 rfl) ?_
          refine mwG_0_10 X hK hP mF_X6_31 dX6_joint_112 ?_
          refine lv_iload hx hb dX6_joint_115 (lv_at hl 5 rfl) ?_
          obtain ⟨hg, h⟩ := gd_elim h
          refine mwL_8 X hK hP hg dX6_joint_117 ?_
          refine lv_iload_n hx hb dX6_joint_118 rfl (lv_at hl 3 rfl) ?_
          refine lv_icmp_ne (tgt := 124) hx hb dX6_joint_119 (by decide) (fun hc => ?_) (fun hc => ?_)
          · replace h := iff_ hc h
            refine lv_iinc (v := v5 + 1) (lv' := [(5, .int (v5 + 1)), (0, .ref (a 0)), (1, .int v1), (2, .int v2), (3, .int v3), (4, .int v4)]) hx hb dX6_joint_124 hl (k := 5) rfl rfl (by decide) rfl (fun ls hl => ?_)
            refine lv_goto (tgt := 80) hx hb dX6_joint_127 (by decide) ?_
            exact ih x v1 v2 v3 v4 (v5 + 1) _ _ _ hP hD hS (lv_sub hl [1, 2, 3, 4, 5, 0] rfl) h
          · replace h := ift hc h
            refine lv_iconst (v := -1) hx hb dX6_joint_122 (by decide) ?_
            cases h
            exact mpr_i X hK hP hD hS rfl dX6_joint_123
def f_X6_joint (x : PD) (p1 : Int32) (p2 : Int32) (p3 : Int32) (p4 : Int32) : Option (Int32 × PD) :=
  letv (wI x 0 ((0 : Int32))) fun x1 =>
  bn2 (f_X6_isPiece x1 p1) fun r2 x3 =>
  if r2 = 0 then
  (some ((0 : Int32), x3))
  else
  bn2 (f_X6_isPiece x3 p3) fun r4 x5 =>
  if r4 = 0 then
  some ((0 : Int32), x5)
  else
  if (rI x5 2) = ((100 : Int32)) then
  (some ((-1 : Int32), x5))
  else
  bn1 (f_X6_isMain x5 p1) fun r6 =>
  if r6 = 0 then
  (some ((-1 : Int32), x5))
  else
  bn1 (f_X6_isMain x5 p3) fun r7 =>
  if r7 = 0 then
  (some ((-1 : Int32), x5))
  else
  if p2 < ((1 : Int32)) then
  (some ((-1 : Int32), x5))
  else
  gd (inR p1 20) (if (rA x5 2 (Int32.toNatClampNeg p1)) < p2 then
  (some ((-1 : Int32), x5))
  else
  if p4 < 0 then
  (some ((-1 : Int32), x5))
  else
  if p4 ≤ ((99 : Int32)) then
  ((f_X6_joint_b80 FU x5 p1 p2 p3 p4 ((0 : Int32))))
  else
  some ((-1 : Int32), x5))
set_option maxHeartbeats 4000000 in
set_option maxRecDepth 100000 in
theorem c_X6_joint (l : Launch) (D : va_G) (y : CY) (a : Nat → Nat) {x : PD} {x' : PD} {r : Int32} {p1 : Int32} {p2 : Int32} {p3 : Int32} {p4 : Int32} (h : f_X6_joint x p1 p2 p3 p4 = some (r, x')) : mpM l D y yX6_joint cX6_joint 6 (some .int) { frames := 3, cells := 0, slots := 0, locals := 82 } (mw y a x) (mw y a x') [.ref (a 0), .int p1, .int p2, .int p3, .int p4] (some (.int r)) := by
  refine mpM.mk (own := RX6) (by decide) rfl (Nat.le_of_ble_eq_true rfl) ?_
  intro p e s m below meth c A ls X hK hA hP hD hl
  have hS : va_S A s.heap s.heap [] := va_S.rf
  obtain ⟨⟨hx, hb, hml, hown, hts⟩, hr, hlk⟩ := id X
  have hl : lv_has ls 6 [(0, .ref (a 0)), (1, .int p1), (2, .int p2), (3, .int p3), (4, .int p4)] := hl
  unfold f_X6_joint at h
  refine lv_aload_n hx hb dX6_joint_0 rfl (lv_at hl 0 rfl) ?_
  refine lv_iconst (v := 0) hx hb dX6_joint_1 (by decide) ?_
  obtain ⟨x1, e1, h⟩ := letv_elim h
  refine mwP_0_0 X hK hP hD hS mF_X6_80 e1 dX6_joint_2 (fun H locs hP hD hS => ?_)
  refine lv_aload_n hx hb dX6_joint_5 rfl (lv_at hl 0 rfl) ?_
  refine lv_iload_n hx hb dX6_joint_6 rfl (lv_at hl 1 rfl) ?_
  obtain ⟨r2, x3, hr0, h⟩ := bn2_elim h
  refine mp_call1 (As := [.int p1]) (rest := []) X (c_X6_isPiece l D y a hr0) (mp_cw (k := 1) hts mM_X6_94 mI_X6_isPiece mS_X6_isPiece mN_X6 mC_X6_isPiece rfl rfl (by decide +kernel) ⟨Nat.le_of_ble_eq_true rfl, Nat.le_of_ble_eq_true rfl⟩) hK hP hD hS hA 0 mwC_0 rfl rfl hl.1 rfl (Nat.le_of_ble_eq_true rfl) dX6_joint_7 ⟨Nat.zero_le _, Nat.zero_le _⟩ (fun H locs hP hD hS => ?_)
  refine lv_if_eq (tgt := 21) hx hb dX6_joint_10 (by decide) (fun hc => ?_) (fun hc => ?_)
  · replace h := ift hc h
    refine lv_iconst (v := 0) hx hb dX6_joint_21 (by decide) ?_
    cases h
    exact mpr_i X hK hP hD hS rfl dX6_joint_22
  · replace h := iff_ hc h
    refine lv_aload_n hx hb dX6_joint_13 rfl (lv_at hl 0 rfl) ?_
    refine lv_iload_n hx hb dX6_joint_14 rfl (lv_at hl 3 rfl) ?_
    obtain ⟨r4, x5, hr0, h⟩ := bn2_elim h
    refine mp_call1 (As := [.int p3]) (rest := []) X (c_X6_isPiece l D y a hr0) (mp_cw (k := 1) hts mM_X6_94 mI_X6_isPiece mS_X6_isPiece mN_X6 mC_X6_isPiece rfl rfl (by decide +kernel) ⟨Nat.le_of_ble_eq_true rfl, Nat.le_of_ble_eq_true rfl⟩) hK hP hD hS hA 0 mwC_0 rfl rfl hl.1 rfl (Nat.le_of_ble_eq_true rfl) dX6_joint_15 ⟨Nat.zero_le _, Nat.zero_le _⟩ (fun H locs hP hD hS => ?_)
    refine lv_if_ne (tgt := 23) hx hb dX6_joint_18 (by decide) (fun hc => ?_) (fun hc => ?_)
    · replace h := iff_ hc h
      refine lv_aload_n hx hb dX6_joint_23 rfl (lv_at hl 0 rfl) ?_
      refine mwG_0_2 X hK hP mF_X6_98 dX6_joint_24 ?_
      refine lv_bipush (v := 100) hx hb dX6_joint_27 (by decide) ?_
      refine lv_icmp_eq (tgt := 75) hx hb dX6_joint_29 (by decide) (fun hc => ?_) (fun hc => ?_)
      · replace h := ift hc h
        refine lv_iconst (v := -1) hx hb dX6_joint_75 (by decide) ?_
        cases h
        exact mpr_i X hK hP hD hS rfl dX6_joint_76
      · replace h := iff_ hc h
        refine lv_aload_n hx hb dX6_joint_32 rfl (lv_at hl 0 rfl) ?_
        refine lv_iload_n hx hb dX6_joint_33 rfl (lv_at hl 1 rfl) ?_
        obtain ⟨r6, hr0, h⟩ := bn1_elim h
        refine mp_call1 (As := [.int p1]) (rest := []) X (c_X6_isMain l D y a hr0) (mp_cw (k := 1) hts mM_X6_101 mI_X6_isMain mS_X6_isMain mN_X6 mC_X6_isMain rfl rfl (by decide +kernel) ⟨Nat.le_of_ble_eq_true rfl, Nat.le_of_ble_eq_true rfl⟩) hK hP hD hS hA 0 mwC_0 rfl rfl hl.1 rfl (Nat.le_of_ble_eq_true rfl) dX6_joint_34 ⟨Nat.zero_le _, Nat.zero_le _⟩ (fun H locs hP hD hS => ?_)
        refine lv_if_eq (tgt := 75) hx hb dX6_joint_37 (by decide) (fun hc => ?_) (fun hc => ?_)
        · replace h := ift hc h
          refine lv_iconst (v := -1) hx hb dX6_joint_75 (by decide) ?_
          cases h
          exact mpr_i X hK hP hD hS rfl dX6_joint_76
        · replace h := iff_ hc h
          refine lv_aload_n hx hb dX6_joint_40 rfl (lv_at hl 0 rfl) ?_
          refine lv_iload_n hx hb dX6_joint_41 rfl (lv_at hl 3 rfl) ?_
          obtain ⟨r7, hr0, h⟩ := bn1_elim h
          refine mp_call1 (As := [.int p3]) (rest := []) X (c_X6_isMain l D y a hr0) (mp_cw (k := 1) hts mM_X6_101 mI_X6_isMain mS_X6_isMain mN_X6 mC_X6_isMain rfl rfl (by decide +kernel) ⟨Nat.le_of_ble_eq_true rfl, Nat.le_of_ble_eq_true rfl⟩) hK hP hD hS hA 0 mwC_0 rfl rfl hl.1 rfl (Nat.le_of_ble_eq_true rfl) dX6_joint_42 ⟨Nat.zero_le _, Nat.zero_le _⟩ (fun H locs hP hD hS => ?_)
          refine lv_if_eq (tgt := 75) hx hb dX6_joint_45 (by decide) (fun hc => ?_) (fun hc => ?_)
          · replace h := ift hc h
            refine lv_iconst (v := -1) hx hb dX6_joint_75 (by decide) ?_
            cases h
            exact mpr_i X hK hP hD hS rfl dX6_joint_76
          · replace h := iff_ hc h
            refine lv_iload_n hx hb dX6_joint_48 rfl (lv_at hl 2 rfl) ?_
            refine lv_iconst (v := 1) hx hb dX6_joint_49 (by decide) ?_
            refine lv_icmp_lt (tgt := 75) hx hb dX6_joint_50 (by decide) (fun hc => ?_) (fun hc => ?_)
            · replace h := ift hc h
              refine lv_iconst (v := -1) hx hb dX6_joint_75 (by decide) ?_
              cases h
              exact mpr_i X hK hP hD hS rfl dX6_joint_76
            · replace h := iff_ hc h
              refine lv_iload_n hx hb dX6_joint_53 rfl (lv_at hl 2 rfl) ?_
              refine lv_aload_n hx hb dX6_joint_54 rfl (lv_at hl 0 rfl) ?_
              refine mwG_0_4 X hK hP mF_X6_13 dX6_joint_55 ?_
              refine lv_iload_n hx hb dX6_joint_58 rfl (lv_at hl 1 rfl) ?_
              obtain ⟨hg, h⟩ := gd_elim h
              refine mwL_2 X hK hP hg dX6_joint_59 ?_
              refine lv_icmp_gt (tgt := 75) hx hb dX6_joint_60 (by decide) (fun hc => ?_) (fun hc => ?_)
              · replace h := ift hc h
                refine lv_iconst (v := -1) hx hb dX6_joint_75 (by decide) ?_
                cases h
                exact mpr_i X hK hP hD hS rfl dX6_joint_76
              · replace h := iff_ hc h
                refine lv_iload hx hb dX6_joint_63 (lv_at hl 4 rfl) ?_
                refine lv_if_lt (tgt := 75) hx hb dX6_joint_65 (by decide) (fun hc => ?_) (fun hc => ?_)
                · replace h := ift hc h
                  refine lv_iconst (v := -1) hx hb dX6_joint_75 (by decide) ?_
                  cases h
                  exact mpr_i X hK hP hD hS rfl dX6_joint_76
                · replace h := iff_ hc h
                  refine lv_iload hx hb dX6_joint_68 (lv_at hl 4 rfl) ?_
                  refine lv_bipush (v := 99) hx hb dX6_joint_70 (by decide) ?_
                  refine lv_icmp_le (tgt := 77) hx hb dX6_joint_72 (by decide) (fun hc => ?_) (fun hc => ?_)
                  · replace h := ift hc h
                    refine lv_iconst (v := 0) hx hb dX6_joint_77 (by decide) ?_
                    refine lv_istore (lv' := [(5, .int ((0 : Int32))), (0, .ref (a 0)), (1, .int p1), (2, .int p2), (3, .int p3), (4, .int p4)]) hx hb dX6_joint_78 hl (by decide) rfl (fun ls hl => ?_)
                    exact w_X6_joint_b80 X hK hA FU x5 p1 p2 p3 p4 ((0 : Int32)) _ _ _ hP hD hS (lv_sub hl [1, 2, 3, 4, 5, 0] rfl) h
                  · replace h := iff_ hc h
                    refine lv_iconst (v := -1) hx hb dX6_joint_75 (by decide) ?_
                    cases h
                    exact mpr_i X hK hP hD hS rfl dX6_joint_76
    · replace h := ift hc h
      refine lv_iconst (v := 0) hx hb dX6_joint_21 (by decide) ?_
      cases h
      exact mpr_i X hK hP hD hS rfl dX6_joint_22
def f_X6_price_b30 (x : PD) (v1 : Int32) (v2 : Int32) (t0 : Int32) : Option (Int32 × PD) :=
  bn2 (f_X6_right x t0 ((1 : Int32))) fun r2 x3 =>
  if r2 = 0 then
  some ((0 : Int32), x3)
  else
  gd (inR v1 2) (gd (inR v1 2) (letv (wA x3 10 (upd (rA x3 10) (Int32.toNatClampNeg v1) v2)) fun x4 =>
  bn1 (f_X6_finds x4) fun x5 =>
  some (rA x3 10 (Int32.toNatClampNeg v1), x5)))
set_option maxHeartbeats 4000000 in
set_option maxRecDepth 100000 in
theorem w_X6_price_b30 {p : Program} {l : Launch} {e : Env} {s : State} {m : MethodId} {args : Array Value} {below : List Frame} {meth : Method} {c : Code} {D : va_G} {y : CY} {a : Nat → Nat} {A : Nat → Prop} {x' : PD} {r : Int32} (X : mpX p s m args meth c cX6_price 4 (some .int) RX6) (hK : va_K D vwCl (mpT y) s) (hA : ∀ q, s.heap.size ≤ q → A q) : ∀ (x : PD) (v1 : Int32) (v2 : Int32) (t0 : Int32) (H : Heap) (locs : List Loc) (ls : Array Slot), va_P D vwCl (mw y a x) H → va_D A (mw y a x) → va_S A s.heap H locs → lv_has ls 4 [(0, .ref (a 0)), (1, .int v1), (2, .int v2)] → f_X6_price_b30 x v1 v2 t0 = some (r, x') → W p l e { frames := 3, cells := 0, slots := 0, locals := 82 } s m args below meth c H locs 0 0 (MQ below (mpC D y A (mw y a x') (some (.int r))) args s 0 0 A) (F0 m 30 ls [.int t0, .ref (a 0)]) := by
  obtain ⟨⟨hx, hb, hml, hown, hts⟩, hr, hlk⟩ := id X
  intro x v1 v2 t0 H locs ls hP hD hS hl h
  unfold f_X6_price_b30 at h
  refine lv_iconst (v := 1) hx hb dX6_price_30 (by decide) ?_
  obtain ⟨r2, x3, hr0, h⟩ := bn2_elim h
  refine mp_call1 (As := [.int t0, .int ((1 : Int32))]) (rest := []) X (c_X6_right l D y a hr0) (mp_cw (k := 2) hts mM_X6_87 mI_X6_right mS_X6_right mN_X6 mC_X6_right rfl rfl (by decide +kernel) ⟨Nat.le_of_ble_eq_true rfl, Nat.le_of_ble_eq_true rfl⟩) hK hP hD hS hA 0 mwC_0 rfl rfl hl.1 rfl (Nat.le_of_ble_eq_true rfl) dX6_price_31 ⟨Nat.zero_le _, Nat.zero_le _⟩ (fun H locs hP hD hS => ?_)
  refine lv_if_ne (tgt := 39) hx hb dX6_price_34 (by decide) (fun hc => ?_) (fun hc => ?_)
  · replace h := iff_ hc h
    refine lv_aload_n hx hb dX6_price_39 rfl (lv_at hl 0 rfl) ?_
    refine mwG_0_12 X hK hP mF_X6_37 dX6_price_40 ?_
    refine lv_iload_n hx hb dX6_price_43 rfl (lv_at hl 1 rfl) ?_
    obtain ⟨hg, h⟩ := gd_elim h
    refine mwL_10 X hK hP hg dX6_price_44 ?_
    refine lv_istore_n (lv' := [(3, .int (rA x3 10 (Int32.toNatClampNeg v1))), (0, .ref (a 0)), (1, .int v1), (2, .int v2)]) hx hb dX6_price_45 rfl hl (by decide) rfl (fun ls hl => ?_)
    refine lv_aload_n hx hb dX6_price_46 rfl (lv_at hl 1 rfl) ?_
    refine mwG_0_12 X hK hP mF_X6_37 dX6_price_47 ?_
    refine lv_iload_n hx hb dX6_price_50 rfl (lv_at hl 2 rfl) ?_
    refine lv_iload_n hx hb dX6_price_51 rfl (lv_at hl 3 rfl) ?_
    obtain ⟨hg, h⟩ := gd_elim h
    obtain ⟨x4, e1, h⟩ := letv_elim h
    refine mwS_10 X hK hP hD hS hg e1 dX6_price_52 (fun H locs hP hD hS => ?_)
    refine lv_aload_n hx hb dX6_price_53 rfl (lv_at hl 1 rfl) ?_
    obtain ⟨x5, hr0, h⟩ := bn1_elim h
    refine mp_callv (As := []) (rest := []) X (c_X6_finds l D y a hr0) (mp_cw (k := 0) hts mM_X6_91 mI_X6_finds mS_X6_finds mN_X6 mC_X6_finds rfl rfl (by decide +kernel) ⟨Nat.le_of_ble_eq_true rfl, Nat.le_of_ble_eq_true rfl⟩) hK hP hD hS hA 0 mwC_0 rfl rfl hl.1 rfl (Nat.le_of_ble_eq_true rfl) dX6_price_54 ⟨Nat.zero_le _, Nat.zero_le _⟩ (fun H locs hP hD hS => ?_)
    refine lv_iload_n hx hb dX6_price_57 rfl (lv_at hl 0 rfl) ?_
    cases h
    exact mpr_i X hK hP hD hS rfl dX6_price_58
  · replace h := ift hc h
    refine lv_iconst (v := 0) hx hb dX6_price_37 (by decide) ?_
    cases h
    exact mpr_i X hK hP hD hS rfl dX6_price_38
def f_X6_price_b15 (x : PD) (v1 : Int32) (v2 : Int32) : Option (Int32 × PD) :=
  if v2 < 0 then
  ((f_X6_price_b30 x v1 v2 ((0 : Int32))))
  else
  if ((99 : Int32)) < v2 then
  ((f_X6_price_b30 x v1 v2 ((0 : Int32))))
  else
  (f_X6_price_b30 x v1 v2 ((1 : Int32)))
set_option maxHeartbeats 4000000 in
set_option maxRecDepth 100000 in
theorem w_X6_price_b15 {p : Program} {l : Launch} {e : Env} {s : State} {m : MethodId} {args : Array Value} {below : List Frame} {meth : Method} {c : Code} {D : va_G} {y : CY} {a : Nat → Nat} {A : Nat → Prop} {x' : PD} {r : Int32} (X : mpX p s m args meth c cX6_price 4 (some .int) RX6) (hK : va_K D vwCl (mpT y) s) (hA : ∀ q, s.heap.size ≤ q → A q) : ∀ (x : PD) (v1 : Int32) (v2 : Int32) (H : Heap) (locs : List Loc) (ls : Array Slot), va_P D vwCl (mw y a x) H → va_D A (mw y a x) → va_S A s.heap H locs → lv_has ls 4 [(0, .ref (a 0)), (1, .int v1), (2, .int v2)] → f_X6_price_b15 x v1 v2 = some (r, x') → W p l e { frames := 3, cells := 0, slots := 0, locals := 82 } s m args below meth c H locs 0 0 (MQ below (mpC D y A (mw y a x') (some (.int r))) args s 0 0 A) (F0 m 15 ls [.ref (a 0)]) := by
  obtain ⟨⟨hx, hb, hml, hown, hts⟩, hr, hlk⟩ := id X
  intro x v1 v2 H locs ls hP hD hS hl h
  unfold f_X6_price_b15 at h
  refine lv_iload_n hx hb dX6_price_15 rfl (lv_at hl 2 rfl) ?_
  refine lv_if_lt (tgt := 29) hx hb dX6_price_16 (by decide) (fun hc => ?_) (fun hc => ?_)
  · replace h := ift hc h
    refine lv_iconst (v := 0) hx hb dX6_price_29 (by decide) ?_
    exact w_X6_price_b30 X hK hA x v1 v2 ((0 : Int32)) _ _ _ hP hD hS (lv_sub hl [0, 1, 2] rfl) h
  · replace h := iff_ hc h
    refine lv_iload_n hx hb dX6_price_19 rfl (lv_at hl 2 rfl) ?_
    refine lv_bipush (v := 99) hx hb dX6_price_20 (by decide) ?_
    refine lv_icmp_gt (tgt := 29) hx hb dX6_price_22 (by decide) (fun hc => ?_) (fun hc => ?_)
    · replace h := ift hc h
      refine lv_iconst (v := 0) hx hb dX6_price_29 (by decide) ?_
      exact w_X6_price_b30 X hK hA x v1 v2 ((0 : Int32)) _ _ _ hP hD hS (lv_sub hl [0, 1, 2] rfl) h
    · replace h := iff_ hc h
      refine lv_iconst (v := 1) hx hb dX6_price_25 (by decide) ?_
      refine lv_goto (tgt := 30) hx hb dX6_price_26 (by decide) ?_
      exact w_X6_price_b30 X hK hA x v1 v2 ((1 : Int32)) _ _ _ hP hD hS (lv_sub hl [0, 1, 2] rfl) h
def f_X6_price (x : PD) (p1 : Int32) (p2 : Int32) : Option (Int32 × PD) :=
  letv (wI x 0 ((0 : Int32))) fun x1 =>
  if p1 = 0 then
  ((f_X6_price_b15 x1 p1 p2))
  else
  if p1 = ((1 : Int32)) then
  (f_X6_price_b15 x1 p1 p2)
  else
  (f_X6_price_b30 x1 p1 p2 ((0 : Int32)))
set_option maxHeartbeats 4000000 in
set_option maxRecDepth 100000 in
theorem c_X6_price (l : Launch) (D : va_G) (y : CY) (a : Nat → Nat) {x : PD} {x' : PD} {r : Int32} {p1 : Int32} {p2 : Int32} (h : f_X6_price x p1 p2 = some (r, x')) : mpM l D y yX6_price cX6_price 4 (some .int) { frames := 3, cells := 0, slots := 0, locals := 82 } (mw y a x) (mw y a x') [.ref (a 0), .int p1, .int p2] (some (.int r)) := by
  refine mpM.mk (own := RX6) (by decide) rfl (Nat.le_of_ble_eq_true rfl) ?_
  intro p e s m below meth c A ls X hK hA hP hD hl
  have hS : va_S A s.heap s.heap [] := va_S.rf
  obtain ⟨⟨hx, hb, hml, hown, hts⟩, hr, hlk⟩ := id X
  have hl : lv_has ls 4 [(0, .ref (a 0)), (1, .int p1), (2, .int p2)] := hl
  unfold f_X6_price at h
  refine lv_aload_n hx hb dX6_price_0 rfl (lv_at hl 0 rfl) ?_
  refine lv_iconst (v := 0) hx hb dX6_price_1 (by decide) ?_
  obtain ⟨x1, e1, h⟩ := letv_elim h
  refine mwP_0_0 X hK hP hD hS mF_X6_80 e1 dX6_price_2 (fun H locs hP hD hS => ?_)
  refine lv_aload_n hx hb dX6_price_5 rfl (lv_at hl 0 rfl) ?_
  refine lv_iload_n hx hb dX6_price_6 rfl (lv_at hl 1 rfl) ?_
  refine lv_if_eq (tgt := 15) hx hb dX6_price_7 (by decide) (fun hc => ?_) (fun hc => ?_)
  · replace h := ift hc h
    exact w_X6_price_b15 X hK hA x1 p1 p2 _ _ _ hP hD hS (lv_sub hl [0, 1, 2] rfl) h
  · replace h := iff_ hc h
    refine lv_iload_n hx hb dX6_price_10 rfl (lv_at hl 1 rfl) ?_
    refine lv_iconst (v := 1) hx hb dX6_price_11 (by decide) ?_
    refine lv_icmp_ne (tgt := 29) hx hb dX6_price_12 (by decide) (fun hc => ?_) (fun hc => ?_)
    · replace h := iff_ hc h
      refine lv_iconst (v := 0) hx hb dX6_price_29 (by decide) ?_
      exact w_X6_price_b30 X hK hA x1 p1 p2 ((0 : Int32)) _ _ _ hP hD hS (lv_sub hl [0, 1, 2] rfl) h
    · replace h := ift hc h
      exact w_X6_price_b15 X hK hA x1 p1 p2 _ _ _ hP hD hS (lv_sub hl [0, 1, 2] rfl) h
def f_X6_logs (x : PD) (p1 : Int32) (p2 : Int32) : Option (PD) :=
  gd (inR ((rI x 27) - (rI x 27) / ((300 : Int32)) * ((300 : Int32))) 300) (letv (wB x 17 (vp_updL (rB x 17) (Int32.toNatClampNeg ((rI x 27) - (rI x 27) / ((300 : Int32)) * ((300 : Int32)))) (rL x 15))) fun x1 =>
  gd (inR ((rI x 27) - (rI x 27) / ((300 : Int32)) * ((300 : Int32))) 300) (letv (wA x1 18 (upd (rA x1 18) (Int32.toNatClampNeg ((rI x 27) - (rI x 27) / ((300 : Int32)) * ((300 : Int32)))) p1)) fun x2 =>
  gd (inR ((rI x 27) - (rI x 27) / ((300 : Int32)) * ((300 : Int32))) 300) (letv (wA x2 19 (upd (rA x2 19) (Int32.toNatClampNeg ((rI x 27) - (rI x 27) / ((300 : Int32)) * ((300 : Int32)))) p2)) fun x3 =>
  letv (wI x3 27 ((rI x3 27) + ((1 : Int32)))) fun x4 =>
  some x4)))
set_option maxHeartbeats 4000000 in
set_option maxRecDepth 100000 in
theorem c_X6_logs (l : Launch) (D : va_G) (y : CY) (a : Nat → Nat) {x : PD} {x' : PD} {p1 : Int32} {p2 : Int32} (h : f_X6_logs x p1 p2 = some x') : mpM l D y yX6_logs cX6_logs 4 none { frames := 0, cells := 0, slots := 0, locals := 0 } (mw y a x) (mw y a x') [.ref (a 0), .int p1, .int p2] none := by
  refine mpM.mk (own := RX6) (by decide) rfl (Nat.le_of_ble_eq_true rfl) ?_
  intro p e s m below meth c A ls X hK hA hP hD hl
  have hS : va_S A s.heap s.heap [] := va_S.rf
  obtain ⟨⟨hx, hb, hml, hown, hts⟩, hr, hlk⟩ := id X
  have hl : lv_has ls 4 [(0, .ref (a 0)), (1, .int p1), (2, .int p2)] := hl
  unfold f_X6_logs at h
  refine lv_aload_n hx hb dX6_logs_0 rfl (lv_at hl 0 rfl) ?_
  refine mwG_0_27 X hK hP mF_X6_151 dX6_logs_1 ?_
  refine lv_sipush (v := 300) hx hb dX6_logs_4 (by decide) ?_
  refine lv_irem hx hb dX6_logs_7 (by decide) ?_
  refine lv_istore_n (lv' := [(3, .int ((rI x 27) - (rI x 27) / ((300 : Int32)) * ((300 : Int32)))), (0, .ref (a 0)), (1, .int p1), (2, .int p2)]) hx hb dX6_logs_8 rfl hl (by decide) rfl (fun ls hl => ?_)
  refine lv_aload_n hx hb dX6_logs_9 rfl (lv_at hl 1 rfl) ?_
  refine mwG_0_24 X hK hP mF_X6_60 dX6_logs_10 ?_
  refine lv_iload_n hx hb dX6_logs_13 rfl (lv_at hl 0 rfl) ?_
  refine lv_aload_n hx hb dX6_logs_14 rfl (lv_at hl 1 rfl) ?_
  refine mwG_0_15 X hK hP mF_X6_154 dX6_logs_15 ?_
  obtain ⟨hg, h⟩ := gd_elim h
  obtain ⟨x1, e1, h⟩ := letv_elim h
  refine mwS_17 X hK hP hD hS hg e1 dX6_logs_18 (fun H locs hP hD hS => ?_)
  refine lv_aload_n hx hb dX6_logs_19 rfl (lv_at hl 1 rfl) ?_
  refine mwG_0_25 X hK hP mF_X6_63 dX6_logs_20 ?_
  refine lv_iload_n hx hb dX6_logs_23 rfl (lv_at hl 0 rfl) ?_
  refine lv_iload_n hx hb dX6_logs_24 rfl (lv_at hl 2 rfl) ?_
  obtain ⟨hg, h⟩ := gd_elim h
  obtain ⟨x2, e1, h⟩ := letv_elim h
  refine mwS_18 X hK hP hD hS hg e1 dX6_logs_25 (fun H locs hP hD hS => ?_)
  refine lv_aload_n hx hb dX6_logs_26 rfl (lv_at hl 1 rfl) ?_
  refine mwG_0_26 X hK hP mF_X6_66 dX6_logs_27 ?_
  refine lv_iload_n hx hb dX6_logs_30 rfl (lv_at hl 0 rfl) ?_
  refine lv_iload_n hx hb dX6_logs_31 rfl (lv_at hl 3 rfl) ?_
  obtain ⟨hg, h⟩ := gd_elim h
  obtain ⟨x3, e1, h⟩ := letv_elim h
  refine mwS_19 X hK hP hD hS hg e1 dX6_logs_32 (fun H locs hP hD hS => ?_)
  refine lv_aload_n hx hb dX6_logs_33 rfl (lv_at hl 1 rfl) ?_
  refine lv_dup hx hb dX6_logs_34 rfl ?_
  refine mwG_0_27 X hK hP mF_X6_151 dX6_logs_35 ?_
  refine lv_iconst (v := 1) hx hb dX6_logs_38 (by decide) ?_
  refine lv_iadd hx hb dX6_logs_39 ?_
  obtain ⟨x4, e1, h⟩ := letv_elim h
  refine mwP_0_27 X hK hP hD hS mF_X6_151 e1 dX6_logs_40 (fun H locs hP hD hS => ?_)
  cases h
  exact mpr_v X hK hP hD hS dX6_logs_43
def f_X6_met (x : PD) : Option (PD) :=
  bn1 (f_X6_get x ((4 : Int32))) fun r1 =>
  bn1 (f_X6_logs x ((4 : Int32)) r1) fun x2 =>
  letv (wB x2 11 (vp_updL (rB x2 11) (Int32.toNatClampNeg ((4 : Int32))) ((-1 : Int64)))) fun x3 =>
  bn1 (f_X6_finds x3) fun x4 =>
  some x4
set_option maxHeartbeats 4000000 in
set_option maxRecDepth 100000 in
theorem c_X6_met (l : Launch) (D : va_G) (y : CY) (a : Nat → Nat) {x : PD} {x' : PD} (h : f_X6_met x = some x') : mpM l D y yX6_met cX6_met 1 none { frames := 3, cells := 0, slots := 0, locals := 82 } (mw y a x) (mw y a x') [.ref (a 0)] none := by
  refine mpM.mk (own := RX6) (by decide) rfl (Nat.le_of_ble_eq_true rfl) ?_
  intro p e s m below meth c A ls X hK hA hP hD hl
  have hS : va_S A s.heap s.heap [] := va_S.rf
  obtain ⟨⟨hx, hb, hml, hown, hts⟩, hr, hlk⟩ := id X
  have hl : lv_has ls 1 [(0, .ref (a 0))] := hl
  unfold f_X6_met at h
  refine lv_aload_n hx hb dX6_met_0 rfl (lv_at hl 0 rfl) ?_
  refine lv_iconst (v := 4) hx hb dX6_met_1 (by decide) ?_
  refine lv_aload_n hx hb dX6_met_2 rfl (lv_at hl 0 rfl) ?_
  refine lv_iconst (v := 4) hx hb dX6_met_3 (by decide) ?_
  obtain ⟨r1, hr0, h⟩ := bn1_elim h
  refine mp_call1 (As := [.int ((4 : Int32))]) (rest := [.int ((4 : Int32)), .ref (a 0)]) X (c_X6_get l D y a hr0) (mp_cw (k := 1) hts mM_X6_126 mI_X6_get mS_X6_get mN_X6 mC_X6_get rfl rfl (by decide +kernel) ⟨Nat.le_of_ble_eq_true rfl, Nat.le_of_ble_eq_true rfl⟩) hK hP hD hS hA 0 mwC_0 rfl rfl hl.1 rfl (Nat.le_of_ble_eq_true rfl) dX6_met_4 ⟨Nat.zero_le _, Nat.zero_le _⟩ (fun H locs hP hD hS => ?_)
  obtain ⟨x2, hr0, h⟩ := bn1_elim h
  refine mp_callv (As := [.int ((4 : Int32)), .int r1]) (rest := []) X (c_X6_logs l D y a hr0) (mp_cw (k := 2) hts mM_X6_158 mI_X6_logs mS_X6_logs mN_X6 mC_X6_logs rfl rfl (by decide +kernel) ⟨Nat.le_of_ble_eq_true rfl, Nat.le_of_ble_eq_true rfl⟩) hK hP hD hS hA 0 mwC_0 rfl rfl hl.1 rfl (Nat.le_of_ble_eq_true rfl) dX6_met_7 ⟨Nat.zero_le _, Nat.zero_le _⟩ (fun H locs hP hD hS => ?_)
  refine lv_aload_n hx hb dX6_met_10 rfl (lv_at hl 0 rfl) ?_
  refine mwG_0_13 X hK hP mF_X6_40 dX6_met_11 ?_
  refine lv_iconst (v := 4) hx hb dX6_met_14 (by decide) ?_
  refine lv_ldc2 (v := (-1)) hx hb hown (hts _ mK_X6_78) dX6_met_15 ?_
  obtain ⟨x3, e1, h⟩ := letv_elim h
  refine mwS_11 X hK hP hD hS (by decide) e1 dX6_met_18 (fun H locs hP hD hS => ?_)
  refine lv_aload_n hx hb dX6_met_19 rfl (lv_at hl 0 rfl) ?_
  obtain ⟨x4, hr0, h⟩ := bn1_elim h
  refine mp_callv (As := []) (rest := []) X (c_X6_finds l D y a hr0) (mp_cw (k := 0) hts mM_X6_91 mI_X6_finds mS_X6_finds mN_X6 mC_X6_finds rfl rfl (by decide +kernel) ⟨Nat.le_of_ble_eq_true rfl, Nat.le_of_ble_eq_true rfl⟩) hK hP hD hS hA 0 mwC_0 rfl rfl hl.1 rfl (Nat.le_of_ble_eq_true rfl) dX6_met_20 ⟨Nat.zero_le _, Nat.zero_le _⟩ (fun H locs hP hD hS => ?_)
  cases h
  exact mpr_v X hK hP hD hS dX6_met_23
def f_X6_begins_b59 (x : PD) (v3 : Int32) : Option (PD) :=
  if v3 = 0 then
  bn1 (f_X6_finds x) fun x6 =>
  some x6
  else
  some x
set_option maxHeartbeats 4000000 in
set_option maxRecDepth 100000 in
theorem w_X6_begins_b59 {p : Program} {l : Launch} {e : Env} {s : State} {m : MethodId} {args : Array Value} {below : List Frame} {meth : Method} {c : Code} {D : va_G} {y : CY} {a : Nat → Nat} {A : Nat → Prop} {x' : PD} (X : mpX p s m args meth c cX6_begins 4 none RX6) (hK : va_K D vwCl (mpT y) s) (hA : ∀ q, s.heap.size ≤ q → A q) : ∀ (x : PD) (v3 : Int32) (H : Heap) (locs : List Loc) (ls : Array Slot), va_P D vwCl (mw y a x) H → va_D A (mw y a x) → va_S A s.heap H locs → lv_has ls 4 [(0, .ref (a 0)), (3, .int v3)] → f_X6_begins_b59 x v3 = some x' → W p l e { frames := 4, cells := 0, slots := 0, locals := 102 } s m args below meth c H locs 0 0 (MQ below (mpC D y A (mw y a x') none) args s 0 0 A) (F0 m 59 ls []) := by
  obtain ⟨⟨hx, hb, hml, hown, hts⟩, hr, hlk⟩ := id X
  intro x v3 H locs ls hP hD hS hl h
  unfold f_X6_begins_b59 at h
  refine lv_iload_n hx hb dX6_begins_59 rfl (lv_at hl 1 rfl) ?_
  refine lv_if_ne (tgt := 67) hx hb dX6_begins_60 (by decide) (fun hc => ?_) (fun hc => ?_)
  · replace h := iff_ hc h
    cases h
    exact mpr_v X hK hP hD hS dX6_begins_67
  · replace h := ift hc h
    refine lv_aload_n hx hb dX6_begins_63 rfl (lv_at hl 0 rfl) ?_
    obtain ⟨x6, hr0, h⟩ := bn1_elim h
    refine mp_callv (As := []) (rest := []) X (c_X6_finds l D y a hr0) (mp_cw (k := 0) hts mM_X6_91 mI_X6_finds mS_X6_finds mN_X6 mC_X6_finds rfl rfl (by decide +kernel) ⟨Nat.le_of_ble_eq_true rfl, Nat.le_of_ble_eq_true rfl⟩) hK hP hD hS hA 0 mwC_0 rfl rfl hl.1 rfl (Nat.le_of_ble_eq_true rfl) dX6_begins_64 ⟨Nat.zero_le _, Nat.zero_le _⟩ (fun H locs hP hD hS => ?_)
    cases h
    exact mpr_v X hK hP hD hS dX6_begins_67
def f_X6_begins (x : PD) (p1 : Int32) (p2 : Int32) (p3 : Int32) : Option (PD) :=
  letv (wB x 11 (vp_updL (rB x 11) (Int32.toNatClampNeg ((0 : Int32))) (Int32.toInt64 p1))) fun x1 =>
  letv (wB x1 11 (vp_updL (rB x1 11) (Int32.toNatClampNeg ((1 : Int32))) ((0 : Int64)))) fun x2 =>
  letv (wB x2 11 (vp_updL (rB x2 11) (Int32.toNatClampNeg ((3 : Int32))) ((0 : Int64)))) fun x3 =>
  letv (wB x3 11 (vp_updL (rB x3 11) (Int32.toNatClampNeg ((2 : Int32))) (Int32.toInt64 p2))) fun x4 =>
  bn1 (f_X6_get x4 ((4 : Int32))) fun r5 =>
  if r5 = ((-1 : Int32)) then
  ((f_X6_begins_b59 x4 p3))
  else
  bn1 (f_X6_get x4 ((4 : Int32))) fun r7 =>
  bn1 (f_X6_has x4 p1 r7) fun r8 =>
  if r8 = 0 then
  ((f_X6_begins_b59 x4 p3))
  else
  bn1 (f_X6_met x4) fun x9 =>
  some x9
set_option maxHeartbeats 4000000 in
set_option maxRecDepth 100000 in
theorem c_X6_begins (l : Launch) (D : va_G) (y : CY) (a : Nat → Nat) {x : PD} {x' : PD} {p1 : Int32} {p2 : Int32} {p3 : Int32} (h : f_X6_begins x p1 p2 p3 = some x') : mpM l D y yX6_begins cX6_begins 4 none { frames := 4, cells := 0, slots := 0, locals := 102 } (mw y a x) (mw y a x') [.ref (a 0), .int p1, .int p2, .int p3] none := by
  refine mpM.mk (own := RX6) (by decide) rfl (Nat.le_of_ble_eq_true rfl) ?_
  intro p e s m below meth c A ls X hK hA hP hD hl
  have hS : va_S A s.heap s.heap [] := va_S.rf
  obtain ⟨⟨hx, hb, hml, hown, hts⟩, hr, hlk⟩ := id X
  have hl : lv_has ls 4 [(0, .ref (a 0)), (1, .int p1), (2, .int p2), (3, .int p3)] := hl
  unfold f_X6_begins at h
  refine lv_aload_n hx hb dX6_begins_0 rfl (lv_at hl 0 rfl) ?_
  refine mwG_0_13 X hK hP mF_X6_40 dX6_begins_1 ?_
  refine lv_iconst (v := 0) hx hb dX6_begins_4 (by decide) ?_
  refine lv_iload_n hx hb dX6_begins_5 rfl (lv_at hl 1 rfl) ?_
  refine lv_i2l (v := Int32.toInt64 p1) hx hb dX6_begins_6 rfl ?_
  obtain ⟨x1, e1, h⟩ := letv_elim h
  refine mwS_11 X hK hP hD hS (by decide) e1 dX6_begins_7 (fun H locs hP hD hS => ?_)
  refine lv_aload_n hx hb dX6_begins_8 rfl (lv_at hl 0 rfl) ?_
  refine mwG_0_13 X hK hP mF_X6_40 dX6_begins_9 ?_
  refine lv_iconst (v := 1) hx hb dX6_begins_12 (by decide) ?_
  refine lv_lconst (v := 0) hx hb dX6_begins_13 (by decide) ?_
  obtain ⟨x2, e1, h⟩ := letv_elim h
  refine mwS_11 X hK hP hD hS (by decide) e1 dX6_begins_14 (fun H locs hP hD hS => ?_)
  refine lv_aload_n hx hb dX6_begins_15 rfl (lv_at hl 0 rfl) ?_
  refine mwG_0_13 X hK hP mF_X6_40 dX6_begins_16 ?_
  refine lv_iconst (v := 3) hx hb dX6_begins_19 (by decide) ?_
  refine lv_lconst (v := 0) hx hb dX6_begins_20 (by decide) ?_
  obtain ⟨x3, e1, h⟩ := letv_elim h
  refine mwS_11 X hK hP hD hS (by decide) e1 dX6_begins_21 (fun H locs hP hD hS => ?_)
  refine lv_aload_n hx hb dX6_begins_22 rfl (lv_at hl 0 rfl) ?_
  refine mwG_0_13 X hK hP mF_X6_40 dX6_begins_23 ?_
  refine lv_iconst (v := 2) hx hb dX6_begins_26 (by decide) ?_
  refine lv_iload_n hx hb dX6_begins_27 rfl (lv_at hl 2 rfl) ?_
  refine lv_i2l (v := Int32.toInt64 p2) hx hb dX6_begins_28 rfl ?_
  obtain ⟨x4, e1, h⟩ := letv_elim h
  refine mwS_11 X hK hP hD hS (by decide) e1 dX6_begins_29 (fun H locs hP hD hS => ?_)
  refine lv_aload_n hx hb dX6_begins_30 rfl (lv_at hl 0 rfl) ?_
  refine lv_iconst (v := 4) hx hb dX6_begins_31 (by decide) ?_
  obtain ⟨r5, hr0, h⟩ := bn1_elim h
  refine mp_call1 (As := [.int ((4 : Int32))]) (rest := []) X (c_X6_get l D y a hr0) (mp_cw (k := 1) hts mM_X6_126 mI_X6_get mS_X6_get mN_X6 mC_X6_get rfl rfl (by decide +kernel) ⟨Nat.le_of_ble_eq_true rfl, Nat.le_of_ble_eq_true rfl⟩) hK hP hD hS hA 0 mwC_0 rfl rfl hl.1 rfl (Nat.le_of_ble_eq_true rfl) dX6_begins_32 ⟨Nat.zero_le _, Nat.zero_le _⟩ (fun H locs hP hD hS => ?_)
  refine lv_iconst (v := -1) hx hb dX6_begins_35 (by decide) ?_
  refine lv_icmp_eq (tgt := 59) hx hb dX6_begins_36 (by decide) (fun hc => ?_) (fun hc => ?_)
  · replace h := ift hc h
    exact w_X6_begins_b59 X hK hA x4 p3 _ _ _ hP hD hS (lv_sub hl [0, 3] rfl) h
  · replace h := iff_ hc h
    refine lv_aload_n hx hb dX6_begins_39 rfl (lv_at hl 0 rfl) ?_
    refine lv_iload_n hx hb dX6_begins_40 rfl (lv_at hl 1 rfl) ?_
    refine lv_aload_n hx hb dX6_begins_41 rfl (lv_at hl 0 rfl) ?_
    refine lv_iconst (v := 4) hx hb dX6_begins_42 (by decide) ?_
    obtain ⟨r7, hr0, h⟩ := bn1_elim h
    refine mp_call1 (As := [.int ((4 : Int32))]) (rest := [.int p1, .ref (a 0)]) X (c_X6_get l D y a hr0) (mp_cw (k := 1) hts mM_X6_126 mI_X6_get mS_X6_get mN_X6 mC_X6_get rfl rfl (by decide +kernel) ⟨Nat.le_of_ble_eq_true rfl, Nat.le_of_ble_eq_true rfl⟩) hK hP hD hS hA 0 mwC_0 rfl rfl hl.1 rfl (Nat.le_of_ble_eq_true rfl) dX6_begins_43 ⟨Nat.zero_le _, Nat.zero_le _⟩ (fun H locs hP hD hS => ?_)
    obtain ⟨r8, hr0, h⟩ := bn1_elim h
    refine mp_call1 (As := [.int p1, .int r7]) (rest := []) X (c_X6_has l D y a hr0) (mp_cw (k := 2) hts mM_X6_104 mI_X6_has mS_X6_has mN_X6 mC_X6_has rfl rfl (by decide +kernel) ⟨Nat.le_of_ble_eq_true rfl, Nat.le_of_ble_eq_true rfl⟩) hK hP hD hS hA 0 mwC_0 rfl rfl hl.1 rfl (Nat.le_of_ble_eq_true rfl) dX6_begins_46 ⟨Nat.zero_le _, Nat.zero_le _⟩ (fun H locs hP hD hS => ?_)
    refine lv_if_eq (tgt := 59) hx hb dX6_begins_49 (by decide) (fun hc => ?_) (fun hc => ?_)
    · replace h := ift hc h
      exact w_X6_begins_b59 X hK hA x4 p3 _ _ _ hP hD hS (lv_sub hl [0, 3] rfl) h
    · replace h := iff_ hc h
      refine lv_aload_n hx hb dX6_begins_52 rfl (lv_at hl 0 rfl) ?_
      obtain ⟨x9, hr0, h⟩ := bn1_elim h
      refine mp_callv (As := []) (rest := []) X (c_X6_met l D y a hr0) (mp_cw (k := 0) hts mM_X6_145 mI_X6_met mS_X6_met mN_X6 mC_X6_met rfl rfl (by decide +kernel) ⟨Nat.le_of_ble_eq_true rfl, Nat.le_of_ble_eq_true rfl⟩) hK hP hD hS hA 0 mwC_0 rfl rfl hl.1 rfl (Nat.le_of_ble_eq_true rfl) dX6_begins_53 ⟨Nat.zero_le _, Nat.zero_le _⟩ (fun H locs hP hD hS => ?_)
      refine lv_goto (tgt := 67) hx hb dX6_begins_56 (by decide) ?_
      cases h
      exact mpr_v X hK hP hD hS dX6_begins_67
def f_X6_play (x : PD) (p1 : Int32) : Option (Int32 × PD) :=
  letv (wI x 0 ((0 : Int32))) fun x1 =>
  bn2 (f_X6_isPiece x1 p1) fun r2 x3 =>
  if r2 = 0 then
  (some ((0 : Int32), x3))
  else
  bn1 (f_X6_isMain x3 p1) fun r4 =>
  if r4 = 0 then
  some ((0 : Int32), x3)
  else
  bn1 (f_X6_logs x3 ((0 : Int32)) p1) fun x5 =>
  bn1 (f_X6_begins x5 p1 ((1 : Int32)) ((0 : Int32))) fun x6 =>
  some ((1 : Int32), x6)
set_option maxHeartbeats 4000000 in
set_option maxRecDepth 100000 in
theorem c_X6_play (l : Launch) (D : va_G) (y : CY) (a : Nat → Nat) {x : PD} {x' : PD} {r : Int32} {p1 : Int32} (h : f_X6_play x p1 = some (r, x')) : mpM l D y yX6_play cX6_play 2 (some .boolean) { frames := 5, cells := 0, slots := 0, locals := 125 } (mw y a x) (mw y a x') [.ref (a 0), .int p1] (some (.int r)) := by
  refine mpM.mk (own := RX6) (by decide) rfl (Nat.le_of_ble_eq_true rfl) ?_
  intro p e s m below meth c A ls X hK hA hP hD hl
  have hS : va_S A s.heap s.heap [] := va_S.rf
  obtain ⟨⟨hx, hb, hml, hown, hts⟩, hr, hlk⟩ := id X
  have hl : lv_has ls 2 [(0, .ref (a 0)), (1, .int p1)] := hl
  unfold f_X6_play at h
  refine lv_aload_n hx hb dX6_play_0 rfl (lv_at hl 0 rfl) ?_
  refine lv_iconst (v := 0) hx hb dX6_play_1 (by decide) ?_
  obtain ⟨x1, e1, h⟩ := letv_elim h
  refine mwP_0_0 X hK hP hD hS mF_X6_80 e1 dX6_play_2 (fun H locs hP hD hS => ?_)
  refine lv_aload_n hx hb dX6_play_5 rfl (lv_at hl 0 rfl) ?_
  refine lv_iload_n hx hb dX6_play_6 rfl (lv_at hl 1 rfl) ?_
  obtain ⟨r2, x3, hr0, h⟩ := bn2_elim h
  refine mp_call1 (As := [.int p1]) (rest := []) X (c_X6_isPiece l D y a hr0) (mp_cw (k := 1) hts mM_X6_94 mI_X6_isPiece mS_X6_isPiece mN_X6 mC_X6_isPiece rfl rfl (by decide +kernel) ⟨Nat.le_of_ble_eq_true rfl, Nat.le_of_ble_eq_true rfl⟩) hK hP hD hS hA 0 mwC_0 rfl rfl hl.1 rfl (Nat.le_of_ble_eq_true rfl) dX6_play_7 ⟨Nat.zero_le _, Nat.zero_le _⟩ (fun H locs hP hD hS => ?_)
  refine lv_if_eq (tgt := 21) hx hb dX6_play_10 (by decide) (fun hc => ?_) (fun hc => ?_)
  · replace h := ift hc h
    refine lv_iconst (v := 0) hx hb dX6_play_21 (by decide) ?_
    cases h
    exact mpr_z X hK hP hD hS rfl rfl dX6_play_22
  · replace h := iff_ hc h
    refine lv_aload_n hx hb dX6_play_13 rfl (lv_at hl 0 rfl) ?_
    refine lv_iload_n hx hb dX6_play_14 rfl (lv_at hl 1 rfl) ?_
    obtain ⟨r4, hr0, h⟩ := bn1_elim h
    refine mp_call1 (As := [.int p1]) (rest := []) X (c_X6_isMain l D y a hr0) (mp_cw (k := 1) hts mM_X6_101 mI_X6_isMain mS_X6_isMain mN_X6 mC_X6_isMain rfl rfl (by decide +kernel) ⟨Nat.le_of_ble_eq_true rfl, Nat.le_of_ble_eq_true rfl⟩) hK hP hD hS hA 0 mwC_0 rfl rfl hl.1 rfl (Nat.le_of_ble_eq_true rfl) dX6_play_15 ⟨Nat.zero_le _, Nat.zero_le _⟩ (fun H locs hP hD hS => ?_)
    refine lv_if_ne (tgt := 23) hx hb dX6_play_18 (by decide) (fun hc => ?_) (fun hc => ?_)
    · replace h := iff_ hc h
      refine lv_aload_n hx hb dX6_play_23 rfl (lv_at hl 0 rfl) ?_
      refine lv_iconst (v := 0) hx hb dX6_play_24 (by decide) ?_
      refine lv_iload_n hx hb dX6_play_25 rfl (lv_at hl 1 rfl) ?_
      obtain ⟨x5, hr0, h⟩ := bn1_elim h
      refine mp_callv (As := [.int ((0 : Int32)), .int p1]) (rest := []) X (c_X6_logs l D y a hr0) (mp_cw (k := 2) hts mM_X6_158 mI_X6_logs mS_X6_logs mN_X6 mC_X6_logs rfl rfl (by decide +kernel) ⟨Nat.le_of_ble_eq_true rfl, Nat.le_of_ble_eq_true rfl⟩) hK hP hD hS hA 0 mwC_0 rfl rfl hl.1 rfl (Nat.le_of_ble_eq_true rfl) dX6_play_26 ⟨Nat.zero_le _, Nat.zero_le _⟩ (fun H locs hP hD hS => ?_)
      refine lv_aload_n hx hb dX6_play_29 rfl (lv_at hl 0 rfl) ?_
      refine lv_iload_n hx hb dX6_play_30 rfl (lv_at hl 1 rfl) ?_
      refine lv_iconst (v := 1) hx hb dX6_play_31 (by decide) ?_
      refine lv_iconst (v := 0) hx hb dX6_play_32 (by decide) ?_
      obtain ⟨x6, hr0, h⟩ := bn1_elim h
      refine mp_callv (As := [.int p1, .int ((1 : Int32)), .int ((0 : Int32))]) (rest := []) X (c_X6_begins l D y a hr0) (mp_cw (k := 3) hts mM_X6_161 mI_X6_begins mS_X6_begins mN_X6 mC_X6_begins rfl rfl (by decide +kernel) ⟨Nat.le_of_ble_eq_true rfl, Nat.le_of_ble_eq_true rfl⟩) hK hP hD hS hA 0 mwC_0 rfl rfl hl.1 rfl (Nat.le_of_ble_eq_true rfl) dX6_play_33 ⟨Nat.zero_le _, Nat.zero_le _⟩ (fun H locs hP hD hS => ?_)
      refine lv_iconst (v := 1) hx hb dX6_play_36 (by decide) ?_
      cases h
      exact mpr_z X hK hP hD hS rfl rfl dX6_play_37
    · replace h := ift hc h
      refine lv_iconst (v := 0) hx hb dX6_play_21 (by decide) ?_
      cases h
      exact mpr_z X hK hP hD hS rfl rfl dX6_play_22
