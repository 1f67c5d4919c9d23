def f_X6_go_b175 (k42 : PD → Int64 → Int32 → Option (Int64 × PD)) (x : PD) (v2 : Int64) (v4 : Int32) (v8 : Int64) (v10 : Int64) (v12 : Int64) : Option (Int64 × PD) :=
  letv (wL x 15 v12) fun x7 =>
  if v4 = 0 then
  (k42 x7 v2 v4)
  else
  if (lg_cmp v8 v10) = 0 then
  bn1 (f_X6_get x7 ((5 : Int32))) fun r9 =>
  bn1 (f_X6_logs x7 ((6 : Int32)) r9) fun x10 =>
  letv (wB x10 11 (vp_updL (rB x10 11) (Int32.toNatClampNeg ((5 : Int32))) ((-1 : Int64)))) fun x11 =>
  (k42 x11 v2 v4)
  else
  bn1 (f_X6_isDone x7) fun x8 =>
  (k42 x8 v2 v4)
set_option maxHeartbeats 4000000 in
set_option maxRecDepth 100000 in
theorem w_X6_go_b175 {p : Program} {l : Launch} {e : Env} {s : State} {m : MethodId} {args : Array Value} {below : List Frame} {meth : Method} {c : Code} {D : va_G} {y : CY} {a : Nat → Nat} {A : Nat → Prop} {x' : PD} {r : Int64} {k42 : PD → Int64 → Int32 → Option (Int64 × PD)} (X : mpX p s m args meth c cX6_go 14 (some .long) RX6) (hK : va_K D vwCl (mpT y) s) (hA : ∀ q, s.heap.size ≤ q → A q) (hk42 : ∀ (x : PD) (v2 : Int64) (v4 : Int32) (H : Heap) (locs : List Loc) (ls : Array Slot), va_P D vwCl (mw y a x) H → va_D A (mw y a x) → va_S A s.heap H locs → lv_has ls 14 [(0, .ref (a 0)), (2, .long v2), (4, .int v4)] → k42 x v2 v4 = some (r, x') → W p l e { frames := 7, cells := 0, slots := 0, locals := 172 } s m args below meth c H locs 0 0 (MQ below (mpC D y A (mw y a x') (some (.long r))) args s 0 0 A) (F0 m 42 ls [])) : ∀ (x : PD) (v2 : Int64) (v4 : Int32) (v8 : Int64) (v10 : Int64) (v12 : Int64) (H : Heap) (locs : List Loc) (ls : Array Slot), va_P D vwCl (mw y a x) H → va_D A (mw y a x) → va_S A s.heap H locs → lv_has ls 14 [(0, .ref (a 0)), (2, .long v2), (4, .int v4), (8, .long v8), (10, .long v10), (12, .long v12)] → f_X6_go_b175 k42 x v2 v4 v8 v10 v12 = some (r, x') → W p l e { frames := 7, cells := 0, slots := 0, locals := 172 } s m args below meth c H locs 0 0 (MQ below (mpC D y A (mw y a x') (some (.long r))) args s 0 0 A) (F0 m 175 ls []) := by
  obtain ⟨⟨hx, hb, hml, hown, hts⟩, hr, hlk⟩ := id X
  intro x v2 v4 v8 v10 v12 H locs ls hP hD hS hl h
  unfold f_X6_go_b175 at h
  refine lv_aload_n hx hb dX6_go_175 rfl (lv_at hl 0 rfl) ?_
  refine lv_lload hx hb dX6_go_176 (lv_at hl 5 rfl) ?_
  obtain ⟨x7, e1, h⟩ := letv_elim h
  refine mwP_0_15 X hK hP hD hS mF_X6_154 e1 dX6_go_178 (fun H locs hP hD hS => ?_)
  refine lv_iload hx hb dX6_go_181 (lv_at hl 2 rfl) ?_
  refine lv_if_ne (tgt := 189) hx hb dX6_go_183 (by decide) (fun hc => ?_) (fun hc => ?_)
  · replace h := iff_ hc h
    refine lv_lload hx hb dX6_go_189 (lv_at hl 3 rfl) ?_
    refine lv_lload hx hb dX6_go_191 (lv_at hl 4 rfl) ?_
    refine W.lcmp hx hb dX6_go_193 ?_
    refine lv_if_ne (tgt := 220) hx hb dX6_go_194 (by decide) (fun hc => ?_) (fun hc => ?_)
    · replace h := iff_ hc h
      refine lv_aload_n hx hb dX6_go_220 rfl (lv_at hl 0 rfl) ?_
      obtain ⟨x8, hr0, h⟩ := bn1_elim h
      refine mp_callv (As := []) (rest := []) X (c_X6_isDone l D y a hr0) (mp_cw (k := 0) hts mM_X6_191 mI_X6_isDone mS_X6_isDone mN_X6 mC_X6_isDone rfl rfl (by decide +kernel) ⟨Nat.le_of_ble_eq_true rfl, Nat.le_of_ble_eq_true rfl⟩) hK hP hD hS hA 0 mwC_0 rfl rfl hl.1 rfl (Nat.le_of_ble_eq_true rfl) dX6_go_221 ⟨Nat.zero_le _, Nat.zero_le _⟩ (fun H locs hP hD hS => ?_)
      refine lv_goto (tgt := 42) hx hb dX6_go_224 (by decide) ?_
      exact hk42 x8 v2 v4 _ _ _ hP hD hS (lv_sub hl [0, 1, 2] rfl) h
    · replace h := ift hc h
      refine lv_aload_n hx hb dX6_go_197 rfl (lv_at hl 0 rfl) ?_
      refine lv_bipush (v := 6) hx hb dX6_go_198 (by decide) ?_
      refine lv_aload_n hx hb dX6_go_200 rfl (lv_at hl 0 rfl) ?_
      refine lv_iconst (v := 5) hx hb dX6_go_201 (by decide) ?_
      obtain ⟨r9, hr0, h⟩ := bn1_elim h
      refine mp_call1 (As := [.int ((5 : Int32))]) (rest := [.int ((6 : Int32)), .ref (a 0)]) X (c_X6_get l D y a hr0) (mp_cw (k := 1) hts mM_X6_126 mI_X6_get mS_X6_get mN_X6 mC_X6_get rfl rfl (by decide +kernel) ⟨Nat.le_of_ble_eq_true rfl, Nat.le_of_ble_eq_true rfl⟩) hK hP hD hS hA 0 mwC_0 rfl rfl hl.1 rfl (Nat.le_of_ble_eq_true rfl) dX6_go_202 ⟨Nat.zero_le _, Nat.zero_le _⟩ (fun H locs hP hD hS => ?_)
      obtain ⟨x10, hr0, h⟩ := bn1_elim h
      refine mp_callv (As := [.int ((6 : Int32)), .int r9]) (rest := []) X (c_X6_logs l D y a hr0) (mp_cw (k := 2) hts mM_X6_158 mI_X6_logs mS_X6_logs mN_X6 mC_X6_logs rfl rfl (by decide +kernel) ⟨Nat.le_of_ble_eq_true rfl, Nat.le_of_ble_eq_true rfl⟩) hK hP hD hS hA 0 mwC_0 rfl rfl hl.1 rfl (Nat.le_of_ble_eq_true rfl) dX6_go_205 ⟨Nat.zero_le _, Nat.zero_le _⟩ (fun H locs hP hD hS => ?_)
      refine lv_aload_n hx hb dX6_go_208 rfl (lv_at hl 0 rfl) ?_
      refine mwG_0_13 X hK hP mF_X6_40 dX6_go_209 ?_
      refine lv_iconst (v := 5) hx hb dX6_go_212 (by decide) ?_
      refine lv_ldc2 (v := (-1)) hx hb hown (hts _ mK_X6_78) dX6_go_213 ?_
      obtain ⟨x11, e1, h⟩ := letv_elim h
      refine mwS_11 X hK hP hD hS (by decide) e1 dX6_go_216 (fun H locs hP hD hS => ?_)
      refine lv_goto (tgt := 224) hx hb dX6_go_217 (by decide) ?_
      refine lv_goto (tgt := 42) hx hb dX6_go_224 (by decide) ?_
      exact hk42 x11 v2 v4 _ _ _ hP hD hS (lv_sub hl [0, 1, 2] rfl) h
  · replace h := ift hc h
    refine lv_goto (tgt := 42) hx hb dX6_go_186 (by decide) ?_
    exact hk42 x7 v2 v4 _ _ _ hP hD hS (lv_sub hl [0, 1, 2] rfl) h
def f_X6_go_b151 (k42 : PD → Int64 → Int32 → Option (Int64 × PD)) (x : PD) (v2 : Int64) (v4 : Int32) (v5 : Int32) (v8 : Int64) (v10 : Int64) (t0 : Int64) : Option (Int64 × PD) :=
  if v5 = ((-1 : Int32)) then
  ((f_X6_go_b175 k42 x v2 v4 v8 v10 t0))
  else
  letv (wB x 11 (vp_updL (rB x 11) (Int32.toNatClampNeg ((3 : Int32))) ((rB x 11 (Int32.toNatClampNeg ((3 : Int32)))) + (t0 - (rL x 15))))) fun x12 =>
  (f_X6_go_b175 k42 x12 v2 v4 v8 v10 t0)
set_option maxHeartbeats 4000000 in
set_option maxRecDepth 100000 in
theorem w_X6_go_b151 {p : Program} {l : Launch} {e : Env} {s : State} {m : MethodId} {args : Array Value} {below : List Frame} {meth : Method} {c : Code} {D : va_G} {y : CY} {a : Nat → Nat} {A : Nat → Prop} {x' : PD} {r : Int64} {k42 : PD → Int64 → Int32 → Option (Int64 × PD)} (X : mpX p s m args meth c cX6_go 14 (some .long) RX6) (hK : va_K D vwCl (mpT y) s) (hA : ∀ q, s.heap.size ≤ q → A q) (hk42 : ∀ (x : PD) (v2 : Int64) (v4 : Int32) (H : Heap) (locs : List Loc) (ls : Array Slot), va_P D vwCl (mw y a x) H → va_D A (mw y a x) → va_S A s.heap H locs → lv_has ls 14 [(0, .ref (a 0)), (2, .long v2), (4, .int v4)] → k42 x v2 v4 = some (r, x') → W p l e { frames := 7, cells := 0, slots := 0, locals := 172 } s m args below meth c H locs 0 0 (MQ below (mpC D y A (mw y a x') (some (.long r))) args s 0 0 A) (F0 m 42 ls [])) : ∀ (x : PD) (v2 : Int64) (v4 : Int32) (v5 : Int32) (v8 : Int64) (v10 : Int64) (t0 : Int64) (H : Heap) (locs : List Loc) (ls : Array Slot), va_P D vwCl (mw y a x) H → va_D A (mw y a x) → va_S A s.heap H locs → lv_has ls 14 [(0, .ref (a 0)), (2, .long v2), (4, .int v4), (5, .int v5), (8, .long v8), (10, .long v10)] → f_X6_go_b151 k42 x v2 v4 v5 v8 v10 t0 = some (r, x') → W p l e { frames := 7, cells := 0, slots := 0, locals := 172 } s m args below meth c H locs 0 0 (MQ below (mpC D y A (mw y a x') (some (.long r))) args s 0 0 A) (F0 m 151 ls [.long t0]) := by
  obtain ⟨⟨hx, hb, hml, hown, hts⟩, hr, hlk⟩ := id X
  intro x v2 v4 v5 v8 v10 t0 H locs ls hP hD hS hl h
  unfold f_X6_go_b151 at h
  refine lv_lstore (lv' := [(12, .long t0), (0, .ref (a 0)), (2, .long v2), (4, .int v4), (5, .int v5), (8, .long v8), (10, .long v10)]) hx hb dX6_go_151 hl (by decide) rfl (fun ls hl => ?_)
  refine lv_iload hx hb dX6_go_153 (lv_at hl 4 rfl) ?_
  refine lv_iconst (v := -1) hx hb dX6_go_155 (by decide) ?_
  refine lv_icmp_eq (tgt := 175) hx hb dX6_go_156 (by decide) (fun hc => ?_) (fun hc => ?_)
  · replace h := ift hc h
    exact w_X6_go_b175 X hK hA hk42 x v2 v4 v8 v10 t0 _ _ _ hP hD hS (lv_sub hl [1, 2, 3, 5, 6, 0] rfl) h
  · replace h := iff_ hc h
    refine lv_aload_n hx hb dX6_go_159 rfl (lv_at hl 1 rfl) ?_
    refine mwG_0_13 X hK hP mF_X6_40 dX6_go_160 ?_
    refine lv_iconst (v := 3) hx hb dX6_go_163 (by decide) ?_
    refine lv_dup2_11 hx hb dX6_go_164 rfl rfl ?_
    refine mwL_11 X hK hP (by decide) dX6_go_165 ?_
    refine lv_lload hx hb dX6_go_166 (lv_at hl 0 rfl) ?_
    refine lv_aload_n hx hb dX6_go_168 rfl (lv_at hl 1 rfl) ?_
    refine mwG_0_15 X hK hP mF_X6_154 dX6_go_169 ?_
    refine lv_lsub hx hb dX6_go_172 ?_
    refine lv_ladd hx hb dX6_go_173 ?_
    obtain ⟨x12, e1, h⟩ := letv_elim h
    refine mwS_11 X hK hP hD hS (by decide) e1 dX6_go_174 (fun H locs hP hD hS => ?_)
    exact w_X6_go_b175 X hK hA hk42 x12 v2 v4 v8 v10 t0 _ _ _ hP hD hS (lv_sub hl [1, 2, 3, 5, 6, 0] rfl) h
def f_X6_go_b138 (k42 : PD → Int64 → Int32 → Option (Int64 × PD)) (x : PD) (v2 : Int64) (v5 : Int32) (v8 : Int64) (v10 : Int64) (t0 : Int32) : Option (Int64 × PD) :=
  if t0 = 0 then
  ((f_X6_go_b151 k42 x v2 t0 v5 v8 v10 v2))
  else
  (f_X6_go_b151 k42 x v2 t0 v5 v8 v10 v10)
set_option maxHeartbeats 4000000 in
set_option maxRecDepth 100000 in
theorem w_X6_go_b138 {p : Program} {l : Launch} {e : Env} {s : State} {m : MethodId} {args : Array Value} {below : List Frame} {meth : Method} {c : Code} {D : va_G} {y : CY} {a : Nat → Nat} {A : Nat → Prop} {x' : PD} {r : Int64} {k42 : PD → Int64 → Int32 → Option (Int64 × PD)} (X : mpX p s m args meth c cX6_go 14 (some .long) RX6) (hK : va_K D vwCl (mpT y) s) (hA : ∀ q, s.heap.size ≤ q → A q) (hk42 : ∀ (x : PD) (v2 : Int64) (v4 : Int32) (H : Heap) (locs : List Loc) (ls : Array Slot), va_P D vwCl (mw y a x) H → va_D A (mw y a x) → va_S A s.heap H locs → lv_has ls 14 [(0, .ref (a 0)), (2, .long v2), (4, .int v4)] → k42 x v2 v4 = some (r, x') → W p l e { frames := 7, cells := 0, slots := 0, locals := 172 } s m args below meth c H locs 0 0 (MQ below (mpC D y A (mw y a x') (some (.long r))) args s 0 0 A) (F0 m 42 ls [])) : ∀ (x : PD) (v2 : Int64) (v5 : Int32) (v8 : Int64) (v10 : Int64) (t0 : Int32) (H : Heap) (locs : List Loc) (ls : Array Slot), va_P D vwCl (mw y a x) H → va_D A (mw y a x) → va_S A s.heap H locs → lv_has ls 14 [(0, .ref (a 0)), (2, .long v2), (5, .int v5), (8, .long v8), (10, .long v10)] → f_X6_go_b138 k42 x v2 v5 v8 v10 t0 = some (r, x') → W p l e { frames := 7, cells := 0, slots := 0, locals := 172 } s m args below meth c H locs 0 0 (MQ below (mpC D y A (mw y a x') (some (.long r))) args s 0 0 A) (F0 m 138 ls [.int t0]) := by
  obtain ⟨⟨hx, hb, hml, hown, hts⟩, hr, hlk⟩ := id X
  intro x v2 v5 v8 v10 t0 H locs ls hP hD hS hl h
  unfold f_X6_go_b138 at h
  refine lv_istore (lv' := [(4, .int t0), (0, .ref (a 0)), (2, .long v2), (5, .int v5), (8, .long v8), (10, .long v10)]) hx hb dX6_go_138 hl (by decide) rfl (fun ls hl => ?_)
  refine lv_iload hx hb dX6_go_140 (lv_at hl 0 rfl) ?_
  refine lv_if_eq (tgt := 150) hx hb dX6_go_142 (by decide) (fun hc => ?_) (fun hc => ?_)
  · replace h := ift hc h
    refine lv_lload_n hx hb dX6_go_150 rfl (lv_at hl 2 rfl) ?_
    exact w_X6_go_b151 X hK hA hk42 x v2 t0 v5 v8 v10 v2 _ _ _ hP hD hS (lv_sub hl [1, 2, 0, 3, 4, 5] rfl) h
  · replace h := iff_ hc h
    refine lv_lload hx hb dX6_go_145 (lv_at hl 5 rfl) ?_
    refine lv_goto (tgt := 151) hx hb dX6_go_147 (by decide) ?_
    exact w_X6_go_b151 X hK hA hk42 x v2 t0 v5 v8 v10 v10 _ _ _ hP hD hS (lv_sub hl [1, 2, 0, 3, 4, 5] rfl) h
def f_X6_go_b124 (k42 : PD → Int64 → Int32 → Option (Int64 × PD)) (x : PD) (v2 : Int64) (v5 : Int32) (v8 : Int64) (t0 : Int64) : Option (Int64 × PD) :=
  if 0 < (lg_cmp t0 v2) then
  ((f_X6_go_b138 k42 x v2 v5 v8 t0 ((0 : Int32))))
  else
  (f_X6_go_b138 k42 x v2 v5 v8 t0 ((1 : Int32)))
set_option maxHeartbeats 4000000 in
set_option maxRecDepth 100000 in
theorem w_X6_go_b124 {p : Program} {l : Launch} {e : Env} {s : State} {m : MethodId} {args : Array Value} {below : List Frame} {meth : Method} {c : Code} {D : va_G} {y : CY} {a : Nat → Nat} {A : Nat → Prop} {x' : PD} {r : Int64} {k42 : PD → Int64 → Int32 → Option (Int64 × PD)} (X : mpX p s m args meth c cX6_go 14 (some .long) RX6) (hK : va_K D vwCl (mpT y) s) (hA : ∀ q, s.heap.size ≤ q → A q) (hk42 : ∀ (x : PD) (v2 : Int64) (v4 : Int32) (H : Heap) (locs : List Loc) (ls : Array Slot), va_P D vwCl (mw y a x) H → va_D A (mw y a x) → va_S A s.heap H locs → lv_has ls 14 [(0, .ref (a 0)), (2, .long v2), (4, .int v4)] → k42 x v2 v4 = some (r, x') → W p l e { frames := 7, cells := 0, slots := 0, locals := 172 } s m args below meth c H locs 0 0 (MQ below (mpC D y A (mw y a x') (some (.long r))) args s 0 0 A) (F0 m 42 ls [])) : ∀ (x : PD) (v2 : Int64) (v5 : Int32) (v8 : Int64) (t0 : Int64) (H : Heap) (locs : List Loc) (ls : Array Slot), va_P D vwCl (mw y a x) H → va_D A (mw y a x) → va_S A s.heap H locs → lv_has ls 14 [(0, .ref (a 0)), (2, .long v2), (5, .int v5), (8, .long v8)] → f_X6_go_b124 k42 x v2 v5 v8 t0 = some (r, x') → W p l e { frames := 7, cells := 0, slots := 0, locals := 172 } s m args below meth c H locs 0 0 (MQ below (mpC D y A (mw y a x') (some (.long r))) args s 0 0 A) (F0 m 124 ls [.long t0]) := by
  obtain ⟨⟨hx, hb, hml, hown, hts⟩, hr, hlk⟩ := id X
  intro x v2 v5 v8 t0 H locs ls hP hD hS hl h
  unfold f_X6_go_b124 at h
  refine lv_lstore (lv' := [(10, .long t0), (0, .ref (a 0)), (2, .long v2), (5, .int v5), (8, .long v8)]) hx hb dX6_go_124 hl (by decide) rfl (fun ls hl => ?_)
  refine lv_lload hx hb dX6_go_126 (lv_at hl 0 rfl) ?_
  refine lv_lload_n hx hb dX6_go_128 rfl (lv_at hl 2 rfl) ?_
  refine W.lcmp hx hb dX6_go_129 ?_
  refine lv_if_gt (tgt := 137) hx hb dX6_go_130 (by decide) (fun hc => ?_) (fun hc => ?_)
  · replace h := ift hc h
    refine lv_iconst (v := 0) hx hb dX6_go_137 (by decide) ?_
    exact w_X6_go_b138 X hK hA hk42 x v2 v5 v8 t0 ((0 : Int32)) _ _ _ hP hD hS (lv_sub hl [1, 2, 3, 4, 0] rfl) h
  · replace h := iff_ hc h
    refine lv_iconst (v := 1) hx hb dX6_go_133 (by decide) ?_
    refine lv_goto (tgt := 138) hx hb dX6_go_134 (by decide) ?_
    exact w_X6_go_b138 X hK hA hk42 x v2 v5 v8 t0 ((1 : Int32)) _ _ _ hP hD hS (lv_sub hl [1, 2, 3, 4, 0] rfl) h
def f_X6_go_b107 (k42 : PD → Int64 → Int32 → Option (Int64 × PD)) (x : PD) (v2 : Int64) (v5 : Int32) (v6 : Int64) (t0 : Int64) : Option (Int64 × PD) :=
  if 0 ≤ (lg_cmp v6 t0) then
  ((f_X6_go_b124 k42 x v2 v5 t0 t0))
  else
  (f_X6_go_b124 k42 x v2 v5 t0 v6)
set_option maxHeartbeats 4000000 in
set_option maxRecDepth 100000 in
theorem w_X6_go_b107 {p : Program} {l : Launch} {e : Env} {s : State} {m : MethodId} {args : Array Value} {below : List Frame} {meth : Method} {c : Code} {D : va_G} {y : CY} {a : Nat → Nat} {A : Nat → Prop} {x' : PD} {r : Int64} {k42 : PD → Int64 → Int32 → Option (Int64 × PD)} (X : mpX p s m args meth c cX6_go 14 (some .long) RX6) (hK : va_K D vwCl (mpT y) s) (hA : ∀ q, s.heap.size ≤ q → A q) (hk42 : ∀ (x : PD) (v2 : Int64) (v4 : Int32) (H : Heap) (locs : List Loc) (ls : Array Slot), va_P D vwCl (mw y a x) H → va_D A (mw y a x) → va_S A s.heap H locs → lv_has ls 14 [(0, .ref (a 0)), (2, .long v2), (4, .int v4)] → k42 x v2 v4 = some (r, x') → W p l e { frames := 7, cells := 0, slots := 0, locals := 172 } s m args below meth c H locs 0 0 (MQ below (mpC D y A (mw y a x') (some (.long r))) args s 0 0 A) (F0 m 42 ls [])) : ∀ (x : PD) (v2 : Int64) (v5 : Int32) (v6 : Int64) (t0 : Int64) (H : Heap) (locs : List Loc) (ls : Array Slot), va_P D vwCl (mw y a x) H → va_D A (mw y a x) → va_S A s.heap H locs → lv_has ls 14 [(0, .ref (a 0)), (2, .long v2), (5, .int v5), (6, .long v6)] → f_X6_go_b107 k42 x v2 v5 v6 t0 = some (r, x') → W p l e { frames := 7, cells := 0, slots := 0, locals := 172 } s m args below meth c H locs 0 0 (MQ below (mpC D y A (mw y a x') (some (.long r))) args s 0 0 A) (F0 m 107 ls [.long t0]) := by
  obtain ⟨⟨hx, hb, hml, hown, hts⟩, hr, hlk⟩ := id X
  intro x v2 v5 v6 t0 H locs ls hP hD hS hl h
  unfold f_X6_go_b107 at h
  refine lv_lstore (lv' := [(8, .long t0), (0, .ref (a 0)), (2, .long v2), (5, .int v5), (6, .long v6)]) hx hb dX6_go_107 hl (by decide) rfl (fun ls hl => ?_)
  refine lv_lload hx hb dX6_go_109 (lv_at hl 4 rfl) ?_
  refine lv_lload hx hb dX6_go_111 (lv_at hl 0 rfl) ?_
  refine W.lcmp hx hb dX6_go_113 ?_
  refine lv_if_ge (tgt := 122) hx hb dX6_go_114 (by decide) (fun hc => ?_) (fun hc => ?_)
  · replace h := ift hc h
    refine lv_lload hx hb dX6_go_122 (lv_at hl 0 rfl) ?_
    exact w_X6_go_b124 X hK hA hk42 x v2 v5 t0 t0 _ _ _ hP hD hS (lv_sub hl [1, 2, 3, 0] rfl) h
  · replace h := iff_ hc h
    refine lv_lload hx hb dX6_go_117 (lv_at hl 4 rfl) ?_
    refine lv_goto (tgt := 124) hx hb dX6_go_119 (by decide) ?_
    exact w_X6_go_b124 X hK hA hk42 x v2 v5 t0 v6 _ _ _ hP hD hS (lv_sub hl [1, 2, 3, 0] rfl) h
def f_X6_go_b86 (k42 : PD → Int64 → Int32 → Option (Int64 × PD)) (x : PD) (v2 : Int64) (v5 : Int32) (t0 : Int64) : Option (Int64 × PD) :=
  bn1 (f_X6_get x ((5 : Int32))) fun r6 =>
  if r6 = ((-1 : Int32)) then
  (f_X6_go_b107 k42 x v2 v5 t0 ((1000000000000 : Int64)))
  else
  (f_X6_go_b107 k42 x v2 v5 t0 (rL x 16))
set_option maxHeartbeats 4000000 in
set_option maxRecDepth 100000 in
theorem w_X6_go_b86 {p : Program} {l : Launch} {e : Env} {s : State} {m : MethodId} {args : Array Value} {below : List Frame} {meth : Method} {c : Code} {D : va_G} {y : CY} {a : Nat → Nat} {A : Nat → Prop} {x' : PD} {r : Int64} {k42 : PD → Int64 → Int32 → Option (Int64 × PD)} (X : mpX p s m args meth c cX6_go 14 (some .long) RX6) (hK : va_K D vwCl (mpT y) s) (hA : ∀ q, s.heap.size ≤ q → A q) (hk42 : ∀ (x : PD) (v2 : Int64) (v4 : Int32) (H : Heap) (locs : List Loc) (ls : Array Slot), va_P D vwCl (mw y a x) H → va_D A (mw y a x) → va_S A s.heap H locs → lv_has ls 14 [(0, .ref (a 0)), (2, .long v2), (4, .int v4)] → k42 x v2 v4 = some (r, x') → W p l e { frames := 7, cells := 0, slots := 0, locals := 172 } s m args below meth c H locs 0 0 (MQ below (mpC D y A (mw y a x') (some (.long r))) args s 0 0 A) (F0 m 42 ls [])) : ∀ (x : PD) (v2 : Int64) (v5 : Int32) (t0 : Int64) (H : Heap) (locs : List Loc) (ls : Array Slot), va_P D vwCl (mw y a x) H → va_D A (mw y a x) → va_S A s.heap H locs → lv_has ls 14 [(0, .ref (a 0)), (2, .long v2), (5, .int v5)] → f_X6_go_b86 k42 x v2 v5 t0 = some (r, x') → W p l e { frames := 7, cells := 0, slots := 0, locals := 172 } s m args below meth c H locs 0 0 (MQ below (mpC D y A (mw y a x') (some (.long r))) args s 0 0 A) (F0 m 86 ls [.long t0]) := by
  obtain ⟨⟨hx, hb, hml, hown, hts⟩, hr, hlk⟩ := id X
  intro x v2 v5 t0 H locs ls hP hD hS hl h
  unfold f_X6_go_b86 at h
  refine lv_lstore (lv' := [(6, .long t0), (0, .ref (a 0)), (2, .long v2), (5, .int v5)]) hx hb dX6_go_86 hl (by decide) rfl (fun ls hl => ?_)
  refine lv_aload_n hx hb dX6_go_88 rfl (lv_at hl 1 rfl) ?_
  refine lv_iconst (v := 5) hx hb dX6_go_89 (by decide) ?_
  obtain ⟨r6, hr0, h⟩ := bn1_elim h
  refine mp_call1 (As := [.int ((5 : Int32))]) (rest := []) X (c_X6_get l D y a hr0) (mp_cw (k := 1) hts mM_X6_126 mI_X6_get mS_X6_get mN_X6 mC_X6_get rfl rfl (by decide +kernel) ⟨Nat.le_of_ble_eq_true rfl, Nat.le_of_ble_eq_true rfl⟩) hK hP hD hS hA 0 mwC_0 rfl rfl hl.1 rfl (Nat.le_of_ble_eq_true rfl) dX6_go_90 ⟨Nat.zero_le _, Nat.zero_le _⟩ (fun H locs hP hD hS => ?_)
  refine lv_iconst (v := -1) hx hb dX6_go_93 (by decide) ?_
  refine lv_icmp_ne (tgt := 103) hx hb dX6_go_94 (by decide) (fun hc => ?_) (fun hc => ?_)
  · replace h := iff_ hc h
    refine lv_aload_n hx hb dX6_go_103 rfl (lv_at hl 1 rfl) ?_
    refine mwG_0_16 X hK hP mF_X6_188 dX6_go_104 ?_
    exact w_X6_go_b107 X hK hA hk42 x v2 v5 t0 (rL x 16) _ _ _ hP hD hS (lv_sub hl [1, 2, 3, 0] rfl) h
  · replace h := ift hc h
    refine lv_ldc2 (v := 1000000000000) hx hb hown (hts _ mK_X6_108) dX6_go_97 ?_
    refine lv_goto (tgt := 107) hx hb dX6_go_100 (by decide) ?_
    exact w_X6_go_b107 X hK hA hk42 x v2 v5 t0 ((1000000000000 : Int64)) _ _ _ hP hD hS (lv_sub hl [1, 2, 3, 0] rfl) h
def f_X6_go_b42 : Nat → PD → Int64 → Int32 → Option (Int64 × PD)
  | 0, _, _, _ => none
  | n + 1, x, v2, v4 =>
    if v4 = 0 then
  (some (rL x 15, x))
  else
  bn1 (f_X6_get x ((0 : Int32))) fun r4 =>
  if r4 = ((-1 : Int32)) then
  (f_X6_go_b86 (f_X6_go_b42 n) x v2 r4 ((1000000000000 : Int64)))
  else
  gd (inR r4 20) (bn1 (f_X6_get x ((3 : Int32))) fun r5 =>
  (f_X6_go_b86 (f_X6_go_b42 n) x v2 r4 (((rL x 15) + (Int32.toInt64 (rA x 3 (Int32.toNatClampNeg r4)))) - (Int32.toInt64 r5))))
set_option maxHeartbeats 4000000 in
set_option maxRecDepth 100000 in
theorem w_X6_go_b42 {p : Program} {l : Launch} {e : Env} {s : State} {m : MethodId} {args : Array Value} {below : List Frame} {meth : Method} {c : Code} {D : va_G} {y : CY} {a : Nat → Nat} {A : Nat → Prop} {x' : PD} {r : Int64} (X : mpX p s m args meth c cX6_go 14 (some .long) RX6) (hK : va_K D vwCl (mpT y) s) (hA : ∀ q, s.heap.size ≤ q → A q) : ∀ (n : Nat), ∀ (x : PD) (v2 : Int64) (v4 : Int32) (H : Heap) (locs : List Loc) (ls : Array Slot), va_P D vwCl (mw y a x) H → va_D A (mw y a x) → va_S A s.heap H locs → lv_has ls 14 [(0, .ref (a 0)), (2, .long v2), (4, .int v4)] → f_X6_go_b42 n x v2 v4 = some (r, x') → W p l e { frames := 7, cells := 0, slots := 0, locals := 172 } s m args below meth c H locs 0 0 (MQ below (mpC D y A (mw y a x') (some (.long r))) args s 0 0 A) (F0 m 42 ls []) := by
  obtain ⟨⟨hx, hb, hml, hown, hts⟩, hr, hlk⟩ := id X
  intro n
  induction n with
  | zero =>
    intro x v2 v4 H locs ls hP hD hS hl h
    rw [f_X6_go_b42] at h
    exact nons h
  | succ n ih =>
    intro x v2 v4 H locs ls hP hD hS hl h
    rw [f_X6_go_b42] at h
    refine lv_iload hx hb dX6_go_42 (lv_at hl 2 rfl) ?_
    refine lv_if_eq (tgt := 227) hx hb dX6_go_44 (by decide) (fun hc => ?_) (fun hc => ?_)
    · replace h := ift hc h
      refine lv_aload_n hx hb dX6_go_227 rfl (lv_at hl 0 rfl) ?_
      refine mwG_0_15 X hK hP mF_X6_154 dX6_go_228 ?_
      cases h
      exact mpr_l X hK hP hD hS rfl dX6_go_231
    · replace h := iff_ hc h
      refine lv_aload_n hx hb dX6_go_47 rfl (lv_at hl 0 rfl) ?_
      refine lv_iconst (v := 0) hx hb dX6_go_48 (by decide) ?_
      obtain ⟨r4, hr0, h⟩ := bn1_elim h
      refine mp_call1 (As := [.int ((0 : Int32))]) (rest := []) X (c_X6_get l D y a hr0) (mp_cw (k := 1) hts mM_X6_126 mI_X6_get mS_X6_get mN_X6 mC_X6_get rfl rfl (by decide +kernel) ⟨Nat.le_of_ble_eq_true rfl, Nat.le_of_ble_eq_true rfl⟩) hK hP hD hS hA 0 mwC_0 rfl rfl hl.1 rfl (Nat.le_of_ble_eq_true rfl) dX6_go_49 ⟨Nat.zero_le _, Nat.zero_le _⟩ (fun H locs hP hD hS => ?_)
      refine lv_istore (lv' := [(5, .int r4), (0, .ref (a 0)), (2, .long v2), (4, .int v4)]) hx hb dX6_go_52 hl (by decide) rfl (fun ls hl => ?_)
      refine lv_iload hx hb dX6_go_54 (lv_at hl 0 rfl) ?_
      refine lv_iconst (v := -1) hx hb dX6_go_56 (by decide) ?_
      refine lv_icmp_ne (tgt := 66) hx hb dX6_go_57 (by decide) (fun hc => ?_) (fun hc => ?_)
      · replace h := iff_ hc h
        refine lv_aload_n hx hb dX6_go_66 rfl (lv_at hl 1 rfl) ?_
        refine mwG_0_15 X hK hP mF_X6_154 dX6_go_67 ?_
        refine lv_aload_n hx hb dX6_go_70 rfl (lv_at hl 1 rfl) ?_
        refine mwG_0_5 X hK hP mF_X6_16 dX6_go_71 ?_
        refine lv_iload hx hb dX6_go_74 (lv_at hl 0 rfl) ?_
        obtain ⟨hg, h⟩ := gd_elim h
        refine mwL_3 X hK hP hg dX6_go_76 ?_
        refine lv_i2l (v := Int32.toInt64 (rA x 3 (Int32.toNatClampNeg r4))) hx hb dX6_go_77 rfl ?_
        refine lv_ladd hx hb dX6_go_78 ?_
        refine lv_aload_n hx hb dX6_go_79 rfl (lv_at hl 1 rfl) ?_
        refine lv_iconst (v := 3) hx hb dX6_go_80 (by decide) ?_
        obtain ⟨r5, hr0, h⟩ := bn1_elim h
        refine mp_call1 (As := [.int ((3 : Int32))]) (rest := [.long ((rL x 15) + (Int32.toInt64 (rA x 3 (Int32.toNatClampNeg r4))))]) X (c_X6_get l D y a hr0) (mp_cw (k := 1) hts mM_X6_126 mI_X6_get mS_X6_get mN_X6 mC_X6_get rfl rfl (by decide +kernel) ⟨Nat.le_of_ble_eq_true rfl, Nat.le_of_ble_eq_true rfl⟩) hK hP hD hS hA 0 mwC_0 rfl rfl hl.1 rfl (Nat.le_of_ble_eq_true rfl) dX6_go_81 ⟨Nat.zero_le _, Nat.zero_le _⟩ (fun H locs hP hD hS => ?_)
        refine lv_i2l (v := Int32.toInt64 r5) hx hb dX6_go_84 rfl ?_
        refine lv_lsub hx hb dX6_go_85 ?_
        exact w_X6_go_b86 X hK hA ih x v2 r4 (((rL x 15) + (Int32.toInt64 (rA x 3 (Int32.toNatClampNeg r4)))) - (Int32.toInt64 r5)) _ _ _ hP hD hS (lv_sub hl [1, 2, 0] rfl) h
      · replace h := ift hc h
        refine lv_ldc2 (v := 1000000000000) hx hb hown (hts _ mK_X6_108) dX6_go_60 ?_
        refine lv_goto (tgt := 86) hx hb dX6_go_63 (by decide) ?_
        exact w_X6_go_b86 X hK hA ih x v2 r4 ((1000000000000 : Int64)) _ _ _ hP hD hS (lv_sub hl [1, 2, 0] rfl) h
def f_X6_go_b22 (x : PD) (v1 : Int32) (t0 : Int32) : Option (Int64 × PD) :=
  bn2 (f_X6_right x t0 ((1 : Int32))) fun r2 x3 =>
  if r2 = 0 then
  some ((0 : Int64), x3)
  else
  (f_X6_go_b42 FU x3 ((rL x3 15) + (Int32.toInt64 v1)) ((1 : Int32)))
set_option maxHeartbeats 4000000 in
set_option maxRecDepth 100000 in
theorem w_X6_go_b22 {p : Program} {l : Launch} {e : Env} {s : State} {m : MethodId} {args : Array Value} {below : List Frame} {meth : Method} {c : Code} {D : va_G} {y : CY} {a : Nat → Nat} {A : Nat → Prop} {x' : PD} {r : Int64} (X : mpX p s m args meth c cX6_go 14 (some .long) RX6) (hK : va_K D vwCl (mpT y) s) (hA : ∀ q, s.heap.size ≤ q → A q) : ∀ (x : PD) (v1 : Int32) (t0 : Int32) (H : Heap) (locs : List Loc) (ls : Array Slot), va_P D vwCl (mw y a x) H → va_D A (mw y a x) → va_S A s.heap H locs → lv_has ls 14 [(0, .ref (a 0)), (1, .int v1)] → f_X6_go_b22 x v1 t0 = some (r, x') → W p l e { frames := 7, cells := 0, slots := 0, locals := 172 } s m args below meth c H locs 0 0 (MQ below (mpC D y A (mw y a x') (some (.long r))) args s 0 0 A) (F0 m 22 ls [.int t0, .ref (a 0)]) := by
  obtain ⟨⟨hx, hb, hml, hown, hts⟩, hr, hlk⟩ := id X
  intro x v1 t0 H locs ls hP hD hS hl h
  unfold f_X6_go_b22 at h
  refine lv_iconst (v := 1) hx hb dX6_go_22 (by decide) ?_
  obtain ⟨r2, x3, hr0, h⟩ := bn2_elim h
  refine mp_call1 (As := [.int t0, .int ((1 : Int32))]) (rest := []) X (c_X6_right l D y a hr0) (mp_cw (k := 2) hts mM_X6_87 mI_X6_right mS_X6_right mN_X6 mC_X6_right rfl rfl (by decide +kernel) ⟨Nat.le_of_ble_eq_true rfl, Nat.le_of_ble_eq_true rfl⟩) hK hP hD hS hA 0 mwC_0 rfl rfl hl.1 rfl (Nat.le_of_ble_eq_true rfl) dX6_go_23 ⟨Nat.zero_le _, Nat.zero_le _⟩ (fun H locs hP hD hS => ?_)
  refine lv_if_ne (tgt := 31) hx hb dX6_go_26 (by decide) (fun hc => ?_) (fun hc => ?_)
  · replace h := iff_ hc h
    refine lv_aload_n hx hb dX6_go_31 rfl (lv_at hl 0 rfl) ?_
    refine mwG_0_15 X hK hP mF_X6_154 dX6_go_32 ?_
    refine lv_iload_n hx hb dX6_go_35 rfl (lv_at hl 1 rfl) ?_
    refine lv_i2l (v := Int32.toInt64 v1) hx hb dX6_go_36 rfl ?_
    refine lv_ladd hx hb dX6_go_37 ?_
    refine lv_lstore_n (lv' := [(2, .long ((rL x3 15) + (Int32.toInt64 v1))), (0, .ref (a 0)), (1, .int v1)]) hx hb dX6_go_38 rfl hl (by decide) rfl (fun ls hl => ?_)
    refine lv_iconst (v := 1) hx hb dX6_go_39 (by decide) ?_
    refine lv_istore (lv' := [(4, .int ((1 : Int32))), (2, .long ((rL x3 15) + (Int32.toInt64 v1))), (0, .ref (a 0)), (1, .int v1)]) hx hb dX6_go_40 hl (by decide) rfl (fun ls hl => ?_)
    exact w_X6_go_b42 X hK hA FU x3 ((rL x3 15) + (Int32.toInt64 v1)) ((1 : Int32)) _ _ _ hP hD hS (lv_sub hl [2, 1, 0] rfl) h
  · replace h := ift hc h
    refine lv_lconst (v := 0) hx hb dX6_go_29 (by decide) ?_
    cases h
    exact mpr_l X hK hP hD hS rfl dX6_go_30
def f_X6_go (x : PD) (p1 : Int32) : Option (Int64 × PD) :=
  letv (wI x 0 ((0 : Int32))) fun x1 =>
  if p1 < 0 then
  ((f_X6_go_b22 x1 p1 ((0 : Int32))))
  else
  if ((20000 : Int32)) < p1 then
  ((f_X6_go_b22 x1 p1 ((0 : Int32))))
  else
  (f_X6_go_b22 x1 p1 ((1 : Int32)))
set_option maxHeartbeats 4000000 in
set_option maxRecDepth 100000 in
theorem c_X6_go (l : Launch) (D : va_G) (y : CY) (a : Nat → Nat) {x : PD} {x' : PD} {r : Int64} {p1 : Int32} (h : f_X6_go x p1 = some (r, x')) : mpM l D y yX6_go cX6_go 14 (some .long) { frames := 7, cells := 0, slots := 0, locals := 172 } (mw y a x) (mw y a x') [.ref (a 0), .int p1] (some (.long r)) := by
  refine mpM.mk (own := RX6) (by decide) rfl (Nat.le_of_ble_eq_true rfl) ?_
  intro p e s m below meth c A ls X hK hA hP hD hl
  have hS : va_S A s.heap s.heap [] := va_S.rf
  obtain ⟨⟨hx, hb, hml, hown, hts⟩, hr, hlk⟩ := id X
  have hl : lv_has ls 14 [(0, .ref (a 0)), (1, .int p1)] := hl
  unfold f_X6_go at h
  refine lv_aload_n hx hb dX6_go_0 rfl (lv_at hl 0 rfl) ?_
  refine lv_iconst (v := 0) hx hb dX6_go_1 (by decide) ?_
  obtain ⟨x1, e1, h⟩ := letv_elim h
  refine mwP_0_0 X hK hP hD hS mF_X6_80 e1 dX6_go_2 (fun H locs hP hD hS => ?_)
  refine lv_aload_n hx hb dX6_go_5 rfl (lv_at hl 0 rfl) ?_
  refine lv_iload_n hx hb dX6_go_6 rfl (lv_at hl 1 rfl) ?_
  refine lv_if_lt (tgt := 21) hx hb dX6_go_7 (by decide) (fun hc => ?_) (fun hc => ?_)
  · replace h := ift hc h
    refine lv_iconst (v := 0) hx hb dX6_go_21 (by decide) ?_
    exact w_X6_go_b22 X hK hA x1 p1 ((0 : Int32)) _ _ _ hP hD hS (lv_sub hl [0, 1] rfl) h
  · replace h := iff_ hc h
    refine lv_iload_n hx hb dX6_go_10 rfl (lv_at hl 1 rfl) ?_
    refine lv_sipush (v := 20000) hx hb dX6_go_11 (by decide) ?_
    refine lv_icmp_gt (tgt := 21) hx hb dX6_go_14 (by decide) (fun hc => ?_) (fun hc => ?_)
    · replace h := ift hc h
      refine lv_iconst (v := 0) hx hb dX6_go_21 (by decide) ?_
      exact w_X6_go_b22 X hK hA x1 p1 ((0 : Int32)) _ _ _ hP hD hS (lv_sub hl [0, 1] rfl) h
    · replace h := iff_ hc h
      refine lv_iconst (v := 1) hx hb dX6_go_17 (by decide) ?_
      refine lv_goto (tgt := 22) hx hb dX6_go_18 (by decide) ?_
      exact w_X6_go_b22 X hK hA x1 p1 ((1 : Int32)) _ _ _ hP hD hS (lv_sub hl [0, 1] rfl) h
def f_X6_now_b21 (x : PD) (v1 : Int32) (t0 : Int32) : Option (Int32 × PD) :=
  bn2 (f_X6_right x t0 ((1 : Int32))) fun r2 x3 =>
  if r2 = 0 then
  some ((0 : Int32), x3)
  else
  if v1 = 0 then
  (bn1 (f_X6_get x3 ((0 : Int32))) fun r4 =>
  some (r4, x3))
  else if v1 = 1 then
  (bn1 (f_X6_get x3 ((1 : Int32))) fun r5 =>
  some (r5, x3))
  else if v1 = 2 then
  (bn1 (f_X6_get x3 ((2 : Int32))) fun r6 =>
  some (r6, x3))
  else if v1 = 3 then
  (bn1 (f_X6_get x3 ((3 : Int32))) fun r7 =>
  some (r7, x3))
  else if v1 = 4 then
  (bn1 (f_X6_get x3 ((4 : Int32))) fun r8 =>
  some (r8, x3))
  else if v1 = 5 then
  (bn1 (f_X6_get x3 ((5 : Int32))) fun r9 =>
  some (r9, x3))
  else if v1 = 6 then
  (bn1 (f_X6_get x3 ((6 : Int32))) fun r10 =>
  some (r10, x3))
  else if v1 = 7 then
  (bn1 (f_X6_levels x3) fun r11 =>
  some (r11, x3))
  else if v1 = 8 then
  (if ((300 : Int32)) ≤ (rI x3 27) then
  (some ((300 : Int32), x3))
  else
  some (rI x3 27, x3))
  else if v1 = 9 then
  (some (rI x3 1, x3))
  else (some (rI x3 2, x3))
set_option maxHeartbeats 4000000 in
set_option maxRecDepth 100000 in
theorem w_X6_now_b21 {p : Program} {l : Launch} {e : Env} {s : State} {m : MethodId} {args : Array Value} {below : List Frame} {meth : Method} {c : Code} {D : va_G} {y : CY} {a : Nat → Nat} {A : Nat → Prop} {x' : PD} {r : Int32} (X : mpX p s m args meth c cX6_now 2 (some .int) RX6) (hK : va_K D vwCl (mpT y) s) (hA : ∀ q, s.heap.size ≤ q → A q) : ∀ (x : PD) (v1 : Int32) (t0 : Int32) (H : Heap) (locs : List Loc) (ls : Array Slot), va_P D vwCl (mw y a x) H → va_D A (mw y a x) → va_S A s.heap H locs → lv_has ls 2 [(0, .ref (a 0)), (1, .int v1)] → f_X6_now_b21 x v1 t0 = some (r, x') → W p l e { frames := 2, cells := 0, slots := 0, locals := 43 } s m args below meth c H locs 0 0 (MQ below (mpC D y A (mw y a x') (some (.int r))) args s 0 0 A) (F0 m 21 ls [.int t0, .ref (a 0)]) := by
  obtain ⟨⟨hx, hb, hml, hown, hts⟩, hr, hlk⟩ := id X
  intro x v1 t0 H locs ls hP hD hS hl h
  unfold f_X6_now_b21 at h
  refine lv_iconst (v := 1) hx hb dX6_now_21 (by decide) ?_
  obtain ⟨r2, x3, hr0, h⟩ := bn2_elim h
  refine mp_call1 (As := [.int t0, .int ((1 : Int32))]) (rest := []) X (c_X6_right l D y a hr0) (mp_cw (k := 2) hts mM_X6_87 mI_X6_right mS_X6_right mN_X6 mC_X6_right rfl rfl (by decide +kernel) ⟨Nat.le_of_ble_eq_true rfl, Nat.le_of_ble_eq_true rfl⟩) hK hP hD hS hA 0 mwC_0 rfl rfl hl.1 rfl (Nat.le_of_ble_eq_true rfl) dX6_now_22 ⟨Nat.zero_le _, Nat.zero_le _⟩ (fun H locs hP hD hS => ?_)
  refine lv_if_ne (tgt := 30) hx hb dX6_now_25 (by decide) (fun hc => ?_) (fun hc => ?_)
  · replace h := iff_ hc h
    refine lv_iload_n hx hb dX6_now_30 rfl (lv_at hl 1 rfl) ?_
    by_cases hc0 : v1 = 0
    · replace h := ift hc0 h
      refine lv_tableIn (off := 53) (tgt := 84) hx hb dX6_now_31 (by rw [hc0]; decide) (by rw [hc0]; decide) (by rw [hc0]; rfl) (by decide) ?_
      refine lv_aload_n hx hb dX6_now_84 rfl (lv_at hl 0 rfl) ?_
      refine lv_iconst (v := 0) hx hb dX6_now_85 (by decide) ?_
      obtain ⟨r4, hr0, h⟩ := bn1_elim h
      refine mp_call1 (As := [.int ((0 : Int32))]) (rest := []) X (c_X6_get l D y a hr0) (mp_cw (k := 1) hts mM_X6_126 mI_X6_get mS_X6_get mN_X6 mC_X6_get rfl rfl (by decide +kernel) ⟨Nat.le_of_ble_eq_true rfl, Nat.le_of_ble_eq_true rfl⟩) hK hP hD hS hA 0 mwC_0 rfl rfl hl.1 rfl (Nat.le_of_ble_eq_true rfl) dX6_now_86 ⟨Nat.zero_le _, Nat.zero_le _⟩ (fun H locs hP hD hS => ?_)
      cases h
      exact mpr_i X hK hP hD hS rfl dX6_now_89
    replace h := iff_ hc0 h
    by_cases hc1 : v1 = 1
    · replace h := ift hc1 h
      refine lv_tableIn (off := 59) (tgt := 90) hx hb dX6_now_31 (by rw [hc1]; decide) (by rw [hc1]; decide) (by rw [hc1]; rfl) (by decide) ?_
      refine lv_aload_n hx hb dX6_now_90 rfl (lv_at hl 0 rfl) ?_
      refine lv_iconst (v := 1) hx hb dX6_now_91 (by decide) ?_
      obtain ⟨r5, hr0, h⟩ := bn1_elim h
      refine mp_call1 (As := [.int ((1 : Int32))]) (rest := []) X (c_X6_get l D y a hr0) (mp_cw (k := 1) hts mM_X6_126 mI_X6_get mS_X6_get mN_X6 mC_X6_get rfl rfl (by decide +kernel) ⟨Nat.le_of_ble_eq_true rfl, Nat.le_of_ble_eq_true rfl⟩) hK hP hD hS hA 0 mwC_0 rfl rfl hl.1 rfl (Nat.le_of_ble_eq_true rfl) dX6_now_92 ⟨Nat.zero_le _, Nat.zero_le _⟩ (fun H locs hP hD hS => ?_)
      cases h
      exact mpr_i X hK hP hD hS rfl dX6_now_95
    replace h := iff_ hc1 h
    by_cases hc2 : v1 = 2
    · replace h := ift hc2 h
      refine lv_tableIn (off := 65) (tgt := 96) hx hb dX6_now_31 (by rw [hc2]; decide) (by rw [hc2]; decide) (by rw [hc2]; rfl) (by decide) ?_
      refine lv_aload_n hx hb dX6_now_96 rfl (lv_at hl 0 rfl) ?_
      refine lv_iconst (v := 2) hx hb dX6_now_97 (by decide) ?_
      obtain ⟨r6, hr0, h⟩ := bn1_elim h
      refine mp_call1 (As := [.int ((2 : Int32))]) (rest := []) X (c_X6_get l D y a hr0) (mp_cw (k := 1) hts mM_X6_126 mI_X6_get mS_X6_get mN_X6 mC_X6_get rfl rfl (by decide +kernel) ⟨Nat.le_of_ble_eq_true rfl, Nat.le_of_ble_eq_true rfl⟩) hK hP hD hS hA 0 mwC_0 rfl rfl hl.1 rfl (Nat.le_of_ble_eq_true rfl) dX6_now_98 ⟨Nat.zero_le _, Nat.zero_le _⟩ (fun H locs hP hD hS => ?_)
      cases h
      exact mpr_i X hK hP hD hS rfl dX6_now_101
    replace h := iff_ hc2 h
    by_cases hc3 : v1 = 3
    · replace h := ift hc3 h
      refine lv_tableIn (off := 71) (tgt := 102) hx hb dX6_now_31 (by rw [hc3]; decide) (by rw [hc3]; decide) (by rw [hc3]; rfl) (by decide) ?_
      refine lv_aload_n hx hb dX6_now_102 rfl (lv_at hl 0 rfl) ?_
      refine lv_iconst (v := 3) hx hb dX6_now_103 (by decide) ?_
      obtain ⟨r7, hr0, h⟩ := bn1_elim h
      refine mp_call1 (As := [.int ((3 : Int32))]) (rest := []) X (c_X6_get l D y a hr0) (mp_cw (k := 1) hts mM_X6_126 mI_X6_get mS_X6_get mN_X6 mC_X6_get rfl rfl (by decide +kernel) ⟨Nat.le_of_ble_eq_true rfl, Nat.le_of_ble_eq_true rfl⟩) hK hP hD hS hA 0 mwC_0 rfl rfl hl.1 rfl (Nat.le_of_ble_eq_true rfl) dX6_now_104 ⟨Nat.zero_le _, Nat.zero_le _⟩ (fun H locs hP hD hS => ?_)
      cases h
      exact mpr_i X hK hP hD hS rfl dX6_now_107
    replace h := iff_ hc3 h
    by_cases hc4 : v1 = 4
    · replace h := ift hc4 h
      refine lv_tableIn (off := 77) (tgt := 108) hx hb dX6_now_31 (by rw [hc4]; decide) (by rw [hc4]; decide) (by rw [hc4]; rfl) (by decide) ?_
      refine lv_aload_n hx hb dX6_now_108 rfl (lv_at hl 0 rfl) ?_
      refine lv_iconst (v := 4) hx hb dX6_now_109 (by decide) ?_
      obtain ⟨r8, hr0, h⟩ := bn1_elim h
      refine mp_call1 (As := [.int ((4 : Int32))]) (rest := []) X (c_X6_get l D y a hr0) (mp_cw (k := 1) hts mM_X6_126 mI_X6_get mS_X6_get mN_X6 mC_X6_get rfl rfl (by decide +kernel) ⟨Nat.le_of_ble_eq_true rfl, Nat.le_of_ble_eq_true rfl⟩) hK hP hD hS hA 0 mwC_0 rfl rfl hl.1 rfl (Nat.le_of_ble_eq_true rfl) dX6_now_110 ⟨Nat.zero_le _, Nat.zero_le _⟩ (fun H locs hP hD hS => ?_)
      cases h
      exact mpr_i X hK hP hD hS rfl dX6_now_113
    replace h := iff_ hc4 h
    by_cases hc5 : v1 = 5
    · replace h := ift hc5 h
      refine lv_tableIn (off := 83) (tgt := 114) hx hb dX6_now_31 (by rw [hc5]; decide) (by rw [hc5]; decide) (by rw [hc5]; rfl) (by decide) ?_
      refine lv_aload_n hx hb dX6_now_114 rfl (lv_at hl 0 rfl) ?_
      refine lv_iconst (v := 5) hx hb dX6_now_115 (by decide) ?_
      obtain ⟨r9, hr0, h⟩ := bn1_elim h
      refine mp_call1 (As := [.int ((5 : Int32))]) (rest := []) X (c_X6_get l D y a hr0) (mp_cw (k := 1) hts mM_X6_126 mI_X6_get mS_X6_get mN_X6 mC_X6_get rfl rfl (by decide +kernel) ⟨Nat.le_of_ble_eq_true rfl, Nat.le_of_ble_eq_true rfl⟩) hK hP hD hS hA 0 mwC_0 rfl rfl hl.1 rfl (Nat.le_of_ble_eq_true rfl) dX6_now_116 ⟨Nat.zero_le _, Nat.zero_le _⟩ (fun H locs hP hD hS => ?_)
      cases h
      exact mpr_i X hK hP hD hS rfl dX6_now_119
    replace h := iff_ hc5 h
    by_cases hc6 : v1 = 6
    · replace h := ift hc6 h
      refine lv_tableIn (off := 89) (tgt := 120) hx hb dX6_now_31 (by rw [hc6]; decide) (by rw [hc6]; decide) (by rw [hc6]; rfl) (by decide) ?_
      refine lv_aload_n hx hb dX6_now_120 rfl (lv_at hl 0 rfl) ?_
      refine lv_bipush (v := 6) hx hb dX6_now_121 (by decide) ?_
      obtain ⟨r10, hr0, h⟩ := bn1_elim h
      refine mp_call1 (As := [.int ((6 : Int32))]) (rest := []) X (c_X6_get l D y a hr0) (mp_cw (k := 1) hts mM_X6_126 mI_X6_get mS_X6_get mN_X6 mC_X6_get rfl rfl (by decide +kernel) ⟨Nat.le_of_ble_eq_true rfl, Nat.le_of_ble_eq_true rfl⟩) hK hP hD hS hA 0 mwC_0 rfl rfl hl.1 rfl (Nat.le_of_ble_eq_true rfl) dX6_now_123 ⟨Nat.zero_le _, Nat.zero_le _⟩ (fun H locs hP hD hS => ?_)
      cases h
      exact mpr_i X hK hP hD hS rfl dX6_now_126
    replace h := iff_ hc6 h
    by_cases hc7 : v1 = 7
    · replace h := ift hc7 h
      refine lv_tableIn (off := 96) (tgt := 127) hx hb dX6_now_31 (by rw [hc7]; decide) (by rw [hc7]; decide) (by rw [hc7]; rfl) (by decide) ?_
      refine lv_aload_n hx hb dX6_now_127 rfl (lv_at hl 0 rfl) ?_
      obtain ⟨r11, hr0, h⟩ := bn1_elim h
      refine mp_call1 (As := []) (rest := []) X (c_X6_levels l D y a hr0) (mp_cw (k := 0) hts mM_X6_184 mI_X6_levels mS_X6_levels mN_X6 mC_X6_levels rfl rfl (by decide +kernel) ⟨Nat.le_of_ble_eq_true rfl, Nat.le_of_ble_eq_true rfl⟩) hK hP hD hS hA 0 mwC_0 rfl rfl hl.1 rfl (Nat.le_of_ble_eq_true rfl) dX6_now_128 ⟨Nat.zero_le _, Nat.zero_le _⟩ (fun H locs hP hD hS => ?_)
      cases h
      exact mpr_i X hK hP hD hS rfl dX6_now_131
    replace h := iff_ hc7 h
    by_cases hc8 : v1 = 8
    · replace h := ift hc8 h
      refine lv_tableIn (off := 101) (tgt := 132) hx hb dX6_now_31 (by rw [hc8]; decide) (by rw [hc8]; decide) (by rw [hc8]; rfl) (by decide) ?_
      refine lv_aload_n hx hb dX6_now_132 rfl (lv_at hl 0 rfl) ?_
      refine mwG_0_27 X hK hP mF_X6_151 dX6_now_133 ?_
      refine lv_sipush (v := 300) hx hb dX6_now_136 (by decide) ?_
      refine lv_icmp_ge (tgt := 149) hx hb dX6_now_139 (by decide) (fun hc => ?_) (fun hc => ?_)
      · replace h := ift hc h
        refine lv_sipush (v := 300) hx hb dX6_now_149 (by decide) ?_
        cases h
        exact mpr_i X hK hP hD hS rfl dX6_now_152
      · replace h := iff_ hc h
        refine lv_aload_n hx hb dX6_now_142 rfl (lv_at hl 0 rfl) ?_
        refine mwG_0_27 X hK hP mF_X6_151 dX6_now_143 ?_
        refine lv_goto (tgt := 152) hx hb dX6_now_146 (by decide) ?_
        cases h
        exact mpr_i X hK hP hD hS rfl dX6_now_152
    replace h := iff_ hc8 h
    by_cases hc9 : v1 = 9
    · replace h := ift hc9 h
      refine lv_tableIn (off := 122) (tgt := 153) hx hb dX6_now_31 (by rw [hc9]; decide) (by rw [hc9]; decide) (by rw [hc9]; rfl) (by decide) ?_
      refine lv_aload_n hx hb dX6_now_153 rfl (lv_at hl 0 rfl) ?_
      refine mwG_0_1 X hK hP mF_X6_84 dX6_now_154 ?_
      cases h
      exact mpr_i X hK hP hD hS rfl dX6_now_157
    replace h := iff_ hc9 h
    refine lv_tableOut (tgt := 158) hx hb dX6_now_31 (by have q0 := lv_neT (a := 0) hc0 rfl; have q1 := lv_neT (a := 1) hc1 rfl; have q2 := lv_neT (a := 2) hc2 rfl; have q3 := lv_neT (a := 3) hc3 rfl; have q4 := lv_neT (a := 4) hc4 rfl; have q5 := lv_neT (a := 5) hc5 rfl; have q6 := lv_neT (a := 6) hc6 rfl; have q7 := lv_neT (a := 7) hc7 rfl; have q8 := lv_neT (a := 8) hc8 rfl; have q9 := lv_neT (a := 9) hc9 rfl; omega) (by decide) ?_
    refine lv_aload_n hx hb dX6_now_158 rfl (lv_at hl 0 rfl) ?_
    refine mwG_0_2 X hK hP mF_X6_98 dX6_now_159 ?_
    cases h
    exact mpr_i X hK hP hD hS rfl dX6_now_162
  · replace h := ift hc h
    refine lv_iconst (v := 0) hx hb dX6_now_28 (by decide) ?_
    cases h
    exact mpr_i X hK hP hD hS rfl dX6_now_29
def f_X6_now (x : PD) (p1 : Int32) : Option (Int32 × PD) :=
  letv (wI x 0 ((0 : Int32))) fun x1 =>
  if p1 < 0 then
  ((f_X6_now_b21 x1 p1 ((0 : Int32))))
  else
  if ((10 : Int32)) < p1 then
  ((f_X6_now_b21 x1 p1 ((0 : Int32))))
  else
  (f_X6_now_b21 x1 p1 ((1 : Int32)))
set_option maxHeartbeats 4000000 in
set_option maxRecDepth 100000 in
theorem c_X6_now (l : Launch) (D : va_G) (y : CY) (a : Nat → Nat) {x : PD} {x' : PD} {r : Int32} {p1 : Int32} (h : f_X6_now x p1 = some (r, x')) : mpM l D y yX6_now cX6_now 2 (some .int) { frames := 2, cells := 0, slots := 0, locals := 43 } (mw y a x) (mw y a x') [.ref (a 0), .int p1] (some (.int r)) := by
  refine mpM.mk (own := RX6) (by decide) rfl (Nat.le_of_ble_eq_true rfl) ?_
  intro p e s m below meth c A ls X hK hA hP hD hl
  have hS : va_S A s.heap s.heap [] := va_S.rf
  obtain ⟨⟨hx, hb, hml, hown, hts⟩, hr, hlk⟩ := id X
  have hl : lv_has ls 2 [(0, .ref (a 0)), (1, .int p1)] := hl
  unfold f_X6_now at h
  refine lv_aload_n hx hb dX6_now_0 rfl (lv_at hl 0 rfl) ?_
  refine lv_iconst (v := 0) hx hb dX6_now_1 (by decide) ?_
  obtain ⟨x1, e1, h⟩ := letv_elim h
  refine mwP_0_0 X hK hP hD hS mF_X6_80 e1 dX6_now_2 (fun H locs hP hD hS => ?_)
  refine lv_aload_n hx hb dX6_now_5 rfl (lv_at hl 0 rfl) ?_
  refine lv_iload_n hx hb dX6_now_6 rfl (lv_at hl 1 rfl) ?_
  refine lv_if_lt (tgt := 20) hx hb dX6_now_7 (by decide) (fun hc => ?_) (fun hc => ?_)
  · replace h := ift hc h
    refine lv_iconst (v := 0) hx hb dX6_now_20 (by decide) ?_
    exact w_X6_now_b21 X hK hA x1 p1 ((0 : Int32)) _ _ _ hP hD hS (lv_sub hl [0, 1] rfl) h
  · replace h := iff_ hc h
    refine lv_iload_n hx hb dX6_now_10 rfl (lv_at hl 1 rfl) ?_
    refine lv_bipush (v := 10) hx hb dX6_now_11 (by decide) ?_
    refine lv_icmp_gt (tgt := 20) hx hb dX6_now_13 (by decide) (fun hc => ?_) (fun hc => ?_)
    · replace h := ift hc h
      refine lv_iconst (v := 0) hx hb dX6_now_20 (by decide) ?_
      exact w_X6_now_b21 X hK hA x1 p1 ((0 : Int32)) _ _ _ hP hD hS (lv_sub hl [0, 1] rfl) h
    · replace h := iff_ hc h
      refine lv_iconst (v := 1) hx hb dX6_now_16 (by decide) ?_
      refine lv_goto (tgt := 21) hx hb dX6_now_17 (by decide) ?_
      exact w_X6_now_b21 X hK hA x1 p1 ((1 : Int32)) _ _ _ hP hD hS (lv_sub hl [0, 1] rfl) h
def f_X6_level (x : PD) (p1 : Int32) : Option (Int32 × PD) :=
  letv (wI x 0 ((0 : Int32))) fun x1 =>
  bn2 (f_X6_isPiece x1 p1) fun r2 x3 =>
  if r2 = 0 then
  (some ((0 : Int32), x3))
  else
  bn1 (f_X6_get x3 (((36 : Int32)) + p1)) fun r4 =>
  some (r4, x3)
set_option maxHeartbeats 4000000 in
set_option maxRecDepth 100000 in
theorem c_X6_level (l : Launch) (D : va_G) (y : CY) (a : Nat → Nat) {x : PD} {x' : PD} {r : Int32} {p1 : Int32} (h : f_X6_level x p1 = some (r, x')) : mpM l D y yX6_level cX6_level 2 (some .int) { frames := 2, cells := 0, slots := 0, locals := 43 } (mw y a x) (mw y a x') [.ref (a 0), .int p1] (some (.int r)) := by
  refine mpM.mk (own := RX6) (by decide) rfl (Nat.le_of_ble_eq_true rfl) ?_
  intro p e s m below meth c A ls X hK hA hP hD hl
  have hS : va_S A s.heap s.heap [] := va_S.rf
  obtain ⟨⟨hx, hb, hml, hown, hts⟩, hr, hlk⟩ := id X
  have hl : lv_has ls 2 [(0, .ref (a 0)), (1, .int p1)] := hl
  unfold f_X6_level at h
  refine lv_aload_n hx hb dX6_level_0 rfl (lv_at hl 0 rfl) ?_
  refine lv_iconst (v := 0) hx hb dX6_level_1 (by decide) ?_
  obtain ⟨x1, e1, h⟩ := letv_elim h
  refine mwP_0_0 X hK hP hD hS mF_X6_80 e1 dX6_level_2 (fun H locs hP hD hS => ?_)
  refine lv_aload_n hx hb dX6_level_5 rfl (lv_at hl 0 rfl) ?_
  refine lv_iload_n hx hb dX6_level_6 rfl (lv_at hl 1 rfl) ?_
  obtain ⟨r2, x3, hr0, h⟩ := bn2_elim h
  refine mp_call1 (As := [.int p1]) (rest := []) X (c_X6_isPiece l D y a hr0) (mp_cw (k := 1) hts mM_X6_94 mI_X6_isPiece mS_X6_isPiece mN_X6 mC_X6_isPiece rfl rfl (by decide +kernel) ⟨Nat.le_of_ble_eq_true rfl, Nat.le_of_ble_eq_true rfl⟩) hK hP hD hS hA 0 mwC_0 rfl rfl hl.1 rfl (Nat.le_of_ble_eq_true rfl) dX6_level_7 ⟨Nat.zero_le _, Nat.zero_le _⟩ (fun H locs hP hD hS => ?_)
  refine lv_if_eq (tgt := 24) hx hb dX6_level_10 (by decide) (fun hc => ?_) (fun hc => ?_)
  · replace h := ift hc h
    refine lv_iconst (v := 0) hx hb dX6_level_24 (by decide) ?_
    cases h
    exact mpr_i X hK hP hD hS rfl dX6_level_25
  · replace h := iff_ hc h
    refine lv_aload_n hx hb dX6_level_13 rfl (lv_at hl 0 rfl) ?_
    refine lv_bipush (v := 36) hx hb dX6_level_14 (by decide) ?_
    refine lv_iload_n hx hb dX6_level_16 rfl (lv_at hl 1 rfl) ?_
    refine lv_iadd hx hb dX6_level_17 ?_
    obtain ⟨r4, hr0, h⟩ := bn1_elim h
    refine mp_call1 (As := [.int (((36 : Int32)) + p1)]) (rest := []) X (c_X6_get l D y a hr0) (mp_cw (k := 1) hts mM_X6_126 mI_X6_get mS_X6_get mN_X6 mC_X6_get rfl rfl (by decide +kernel) ⟨Nat.le_of_ble_eq_true rfl, Nat.le_of_ble_eq_true rfl⟩) hK hP hD hS hA 0 mwC_0 rfl rfl hl.1 rfl (Nat.le_of_ble_eq_true rfl) dX6_level_18 ⟨Nat.zero_le _, Nat.zero_le _⟩ (fun H locs hP hD hS => ?_)
    refine lv_goto (tgt := 25) hx hb dX6_level_21 (by decide) ?_
    cases h
    exact mpr_i X hK hP hD hS rfl dX6_level_25
def f_X6_log_b50 (x : PD) (v1 : Int32) (v2 : Int32) (v3 : Int32) (t0 : Int32) : Option (Int64 × PD) :=
  bn2 (f_X6_right x t0 ((1 : Int32))) fun r2 x3 =>
  if r2 = 0 then
  some ((0 : Int64), x3)
  else
  if v2 = 0 then
  gd (inR ((((rI x3 27) - v3) + v1) - (((rI x3 27) - v3) + v1) / ((300 : Int32)) * ((300 : Int32))) 300) (some (rB x3 17 (Int32.toNatClampNeg ((((rI x3 27) - v3) + v1) - (((rI x3 27) - v3) + v1) / ((300 : Int32)) * ((300 : Int32)))), x3))
  else
  if v2 = ((1 : Int32)) then
  gd (inR ((((rI x3 27) - v3) + v1) - (((rI x3 27) - v3) + v1) / ((300 : Int32)) * ((300 : Int32))) 300) (some (Int32.toInt64 (rA x3 18 (Int32.toNatClampNeg ((((rI x3 27) - v3) + v1) - (((rI x3 27) - v3) + v1) / ((300 : Int32)) * ((300 : Int32))))), x3))
  else
  gd (inR ((((rI x3 27) - v3) + v1) - (((rI x3 27) - v3) + v1) / ((300 : Int32)) * ((300 : Int32))) 300) (some (Int32.toInt64 (rA x3 19 (Int32.toNatClampNeg ((((rI x3 27) - v3) + v1) - (((rI x3 27) - v3) + v1) / ((300 : Int32)) * ((300 : Int32))))), x3))
set_option maxHeartbeats 4000000 in
set_option maxRecDepth 100000 in
theorem w_X6_log_b50 {p : Program} {l : Launch} {e : Env} {s : State} {m : MethodId} {args : Array Value} {below : List Frame} {meth : Method} {c : Code} {D : va_G} {y : CY} {a : Nat → Nat} {A : Nat → Prop} {x' : PD} {r : Int64} (X : mpX p s m args meth c cX6_log 5 (some .long) RX6) (hK : va_K D vwCl (mpT y) s) (hA : ∀ q, s.heap.size ≤ q → A q) : ∀ (x : PD) (v1 : Int32) (v2 : Int32) (v3 : Int32) (t0 : Int32) (H : Heap) (locs : List Loc) (ls : Array Slot), va_P D vwCl (mw y a x) H → va_D A (mw y a x) → va_S A s.heap H locs → lv_has ls 5 [(0, .ref (a 0)), (1, .int v1), (2, .int v2), (3, .int v3)] → f_X6_log_b50 x v1 v2 v3 t0 = some (r, x') → W p l e { frames := 1, cells := 0, slots := 0, locals := 22 } s m args below meth c H locs 0 0 (MQ below (mpC D y A (mw y a x') (some (.long r))) args s 0 0 A) (F0 m 50 ls [.int t0, .ref (a 0)]) := by
  obtain ⟨⟨hx, hb, hml, hown, hts⟩, hr, hlk⟩ := id X
  intro x v1 v2 v3 t0 H locs ls hP hD hS hl h
  unfold f_X6_log_b50 at h
  refine lv_iconst (v := 1) hx hb dX6_log_50 (by decide) ?_
  obtain ⟨r2, x3, hr0, h⟩ := bn2_elim h
  refine mp_call1 (As := [.int t0, .int ((1 : Int32))]) (rest := []) X (c_X6_right l D y a hr0) (mp_cw (k := 2) hts mM_X6_87 mI_X6_right mS_X6_right mN_X6 mC_X6_right rfl rfl (by decide +kernel) ⟨Nat.le_of_ble_eq_true rfl, Nat.le_of_ble_eq_true rfl⟩) hK hP hD hS hA 0 mwC_0 rfl rfl hl.1 rfl (Nat.le_of_ble_eq_true rfl) dX6_log_51 ⟨Nat.zero_le _, Nat.zero_le _⟩ (fun H locs hP hD hS => ?_)
  refine lv_if_ne (tgt := 59) hx hb dX6_log_54 (by decide) (fun hc => ?_) (fun hc => ?_)
  · replace h := iff_ hc h
    refine lv_aload_n hx hb dX6_log_59 rfl (lv_at hl 0 rfl) ?_
    refine mwG_0_27 X hK hP mF_X6_151 dX6_log_60 ?_
    refine lv_iload_n hx hb dX6_log_63 rfl (lv_at hl 3 rfl) ?_
    refine lv_isub hx hb dX6_log_64 ?_
    refine lv_iload_n hx hb dX6_log_65 rfl (lv_at hl 1 rfl) ?_
    refine lv_iadd hx hb dX6_log_66 ?_
    refine lv_sipush (v := 300) hx hb dX6_log_67 (by decide) ?_
    refine lv_irem hx hb dX6_log_70 (by decide) ?_
    refine lv_istore (lv' := [(4, .int ((((rI x3 27) - v3) + v1) - (((rI x3 27) - v3) + v1) / ((300 : Int32)) * ((300 : Int32)))), (0, .ref (a 0)), (1, .int v1), (2, .int v2), (3, .int v3)]) hx hb dX6_log_71 hl (by decide) rfl (fun ls hl => ?_)
    refine lv_iload_n hx hb dX6_log_73 rfl (lv_at hl 3 rfl) ?_
    refine lv_if_ne (tgt := 87) hx hb dX6_log_74 (by decide) (fun hc => ?_) (fun hc => ?_)
    · replace h := iff_ hc h
      refine lv_iload_n hx hb dX6_log_87 rfl (lv_at hl 3 rfl) ?_
      refine lv_iconst (v := 1) hx hb dX6_log_88 (by decide) ?_
      refine lv_icmp_ne (tgt := 103) hx hb dX6_log_89 (by decide) (fun hc => ?_) (fun hc => ?_)
      · replace h := iff_ hc h
        refine lv_aload_n hx hb dX6_log_103 rfl (lv_at hl 1 rfl) ?_
        refine mwG_0_26 X hK hP mF_X6_66 dX6_log_104 ?_
        refine lv_iload hx hb dX6_log_107 (lv_at hl 0 rfl) ?_
        obtain ⟨hg, h⟩ := gd_elim h
        refine mwL_19 X hK hP hg dX6_log_109 ?_
        refine lv_i2l (v := Int32.toInt64 (rA x3 19 (Int32.toNatClampNeg ((((rI x3 27) - v3) + v1) - (((rI x3 27) - v3) + v1) / ((300 : Int32)) * ((300 : Int32)))))) hx hb dX6_log_110 rfl ?_
        cases h
        exact mpr_l X hK hP hD hS rfl dX6_log_111
      · replace h := ift hc h
        refine lv_aload_n hx hb dX6_log_92 rfl (lv_at hl 1 rfl) ?_
        refine mwG_0_25 X hK hP mF_X6_63 dX6_log_93 ?_
        refine lv_iload hx hb dX6_log_96 (lv_at hl 0 rfl) ?_
        obtain ⟨hg, h⟩ := gd_elim h
        refine mwL_18 X hK hP hg dX6_log_98 ?_
        refine lv_i2l (v := Int32.toInt64 (rA x3 18 (Int32.toNatClampNeg ((((rI x3 27) - v3) + v1) - (((rI x3 27) - v3) + v1) / ((300 : Int32)) * ((300 : Int32)))))) hx hb dX6_log_99 rfl ?_
        refine lv_goto (tgt := 111) hx hb dX6_log_100 (by decide) ?_
        cases h
        exact mpr_l X hK hP hD hS rfl dX6_log_111
    · replace h := ift hc h
      refine lv_aload_n hx hb dX6_log_77 rfl (lv_at hl 1 rfl) ?_
      refine mwG_0_24 X hK hP mF_X6_60 dX6_log_78 ?_
      refine lv_iload hx hb dX6_log_81 (lv_at hl 0 rfl) ?_
      obtain ⟨hg, h⟩ := gd_elim h
      refine mwL_17 X hK hP hg dX6_log_83 ?_
      refine lv_goto (tgt := 111) hx hb dX6_log_84 (by decide) ?_
      cases h
      exact mpr_l X hK hP hD hS rfl dX6_log_111
  · replace h := ift hc h
    refine lv_lconst (v := 0) hx hb dX6_log_57 (by decide) ?_
    cases h
    exact mpr_l X hK hP hD hS rfl dX6_log_58
def f_X6_log_b25 (x : PD) (v1 : Int32) (v2 : Int32) (t0 : Int32) : Option (Int64 × PD) :=
  if v1 < 0 then
  ((f_X6_log_b50 x v1 v2 t0 ((0 : Int32))))
  else
  if t0 ≤ v1 then
  ((f_X6_log_b50 x v1 v2 t0 ((0 : Int32))))
  else
  if v2 < 0 then
  ((f_X6_log_b50 x v1 v2 t0 ((0 : Int32))))
  else
  if ((2 : Int32)) < v2 then
  ((f_X6_log_b50 x v1 v2 t0 ((0 : Int32))))
  else
  (f_X6_log_b50 x v1 v2 t0 ((1 : Int32)))
set_option maxHeartbeats 4000000 in
set_option maxRecDepth 100000 in
theorem w_X6_log_b25 {p : Program} {l : Launch} {e : Env} {s : State} {m : MethodId} {args : Array Value} {below : List Frame} {meth : Method} {c : Code} {D : va_G} {y : CY} {a : Nat → Nat} {A : Nat → Prop} {x' : PD} {r : Int64} (X : mpX p s m args meth c cX6_log 5 (some .long) RX6) (hK : va_K D vwCl (mpT y) s) (hA : ∀ q, s.heap.size ≤ q → A q) : ∀ (x : PD) (v1 : Int32) (v2 : Int32) (t0 : Int32) (H : Heap) (locs : List Loc) (ls : Array Slot), va_P D vwCl (mw y a x) H → va_D A (mw y a x) → va_S A s.heap H locs → lv_has ls 5 [(0, .ref (a 0)), (1, .int v1), (2, .int v2)] → f_X6_log_b25 x v1 v2 t0 = some (r, x') → W p l e { frames := 1, cells := 0, slots := 0, locals := 22 } s m args below meth c H locs 0 0 (MQ below (mpC D y A (mw y a x') (some (.long r))) args s 0 0 A) (F0 m 25 ls [.int t0]) := by
  obtain ⟨⟨hx, hb, hml, hown, hts⟩, hr, hlk⟩ := id X
  intro x v1 v2 t0 H locs ls hP hD hS hl h
  unfold f_X6_log_b25 at h
  refine lv_istore_n (lv' := [(3, .int t0), (0, .ref (a 0)), (1, .int v1), (2, .int v2)]) hx hb dX6_log_25 rfl hl (by decide) rfl (fun ls hl => ?_)
  refine lv_aload_n hx hb dX6_log_26 rfl (lv_at hl 1 rfl) ?_
  refine lv_iload_n hx hb dX6_log_27 rfl (lv_at hl 2 rfl) ?_
  refine lv_if_lt (tgt := 49) hx hb dX6_log_28 (by decide) (fun hc => ?_) (fun hc => ?_)
  · replace h := ift hc h
    refine lv_iconst (v := 0) hx hb dX6_log_49 (by decide) ?_
    exact w_X6_log_b50 X hK hA x v1 v2 t0 ((0 : Int32)) _ _ _ hP hD hS (lv_sub hl [1, 2, 3, 0] rfl) h
  · replace h := iff_ hc h
    refine lv_iload_n hx hb dX6_log_31 rfl (lv_at hl 2 rfl) ?_
    refine lv_iload_n hx hb dX6_log_32 rfl (lv_at hl 0 rfl) ?_
    refine lv_icmp_ge (tgt := 49) hx hb dX6_log_33 (by decide) (fun hc => ?_) (fun hc => ?_)
    · replace h := ift hc h
      refine lv_iconst (v := 0) hx hb dX6_log_49 (by decide) ?_
      exact w_X6_log_b50 X hK hA x v1 v2 t0 ((0 : Int32)) _ _ _ hP hD hS (lv_sub hl [1, 2, 3, 0] rfl) h
    · replace h := iff_ hc h
      refine lv_iload_n hx hb dX6_log_36 rfl (lv_at hl 3 rfl) ?_
      refine lv_if_lt (tgt := 49) hx hb dX6_log_37 (by decide) (fun hc => ?_) (fun hc => ?_)
      · replace h := ift hc h
        refine lv_iconst (v := 0) hx hb dX6_log_49 (by decide) ?_
        exact w_X6_log_b50 X hK hA x v1 v2 t0 ((0 : Int32)) _ _ _ hP hD hS (lv_sub hl [1, 2, 3, 0] rfl) h
      · replace h := iff_ hc h
        refine lv_iload_n hx hb dX6_log_40 rfl (lv_at hl 3 rfl) ?_
        refine lv_iconst (v := 2) hx hb dX6_log_41 (by decide) ?_
        refine lv_icmp_gt (tgt := 49) hx hb dX6_log_42 (by decide) (fun hc => ?_) (fun hc => ?_)
        · replace h := ift hc h
          refine lv_iconst (v := 0) hx hb dX6_log_49 (by decide) ?_
          exact w_X6_log_b50 X hK hA x v1 v2 t0 ((0 : Int32)) _ _ _ hP hD hS (lv_sub hl [1, 2, 3, 0] rfl) h
        · replace h := iff_ hc h
          refine lv_iconst (v := 1) hx hb dX6_log_45 (by decide) ?_
          refine lv_goto (tgt := 50) hx hb dX6_log_46 (by decide) ?_
          exact w_X6_log_b50 X hK hA x v1 v2 t0 ((1 : Int32)) _ _ _ hP hD hS (lv_sub hl [1, 2, 3, 0] rfl) h
def f_X6_log (x : PD) (p1 : Int32) (p2 : Int32) : Option (Int64 × PD) :=
  letv (wI x 0 ((0 : Int32))) fun x1 =>
  if ((300 : Int32)) ≤ (rI x1 27) then
  ((f_X6_log_b25 x1 p1 p2 ((300 : Int32))))
  else
  (f_X6_log_b25 x1 p1 p2 (rI x1 27))
set_option maxHeartbeats 4000000 in
set_option maxRecDepth 100000 in
theorem c_X6_log (l : Launch) (D : va_G) (y : CY) (a : Nat → Nat) {x : PD} {x' : PD} {r : Int64} {p1 : Int32} {p2 : Int32} (h : f_X6_log x p1 p2 = some (r, x')) : mpM l D y yX6_log cX6_log 5 (some .long) { frames := 1, cells := 0, slots := 0, locals := 22 } (mw y a x) (mw y a x') [.ref (a 0), .int p1, .int p2] (some (.long r)) := by
  refine mpM.mk (own := RX6) (by decide) rfl (Nat.le_of_ble_eq_true rfl) ?_
  intro p e s m below meth c A ls X hK hA hP hD hl
  have hS : va_S A s.heap s.heap [] := va_S.rf
  obtain ⟨⟨hx, hb, hml, hown, hts⟩, hr, hlk⟩ := id X
  have hl : lv_has ls 5 [(0, .ref (a 0)), (1, .int p1), (2, .int p2)] := hl
  unfold f_X6_log at h
  refine lv_aload_n hx hb dX6_log_0 rfl (lv_at hl 0 rfl) ?_
  refine lv_iconst (v := 0) hx hb dX6_log_1 (by decide) ?_
  obtain ⟨x1, e1, h⟩ := letv_elim h
  refine mwP_0_0 X hK hP hD hS mF_X6_80 e1 dX6_log_2 (fun H locs hP hD hS => ?_)
  refine lv_aload_n hx hb dX6_log_5 rfl (lv_at hl 0 rfl) ?_
  refine mwG_0_27 X hK hP mF_X6_151 dX6_log_6 ?_
  refine lv_sipush (v := 300) hx hb dX6_log_9 (by decide) ?_
  refine lv_icmp_ge (tgt := 22) hx hb dX6_log_12 (by decide) (fun hc => ?_) (fun hc => ?_)
  · replace h := ift hc h
    refine lv_sipush (v := 300) hx hb dX6_log_22 (by decide) ?_
    exact w_X6_log_b25 X hK hA x1 p1 p2 ((300 : Int32)) _ _ _ hP hD hS (lv_sub hl [0, 1, 2] rfl) h
  · replace h := iff_ hc h
    refine lv_aload_n hx hb dX6_log_15 rfl (lv_at hl 0 rfl) ?_
    refine mwG_0_27 X hK hP mF_X6_151 dX6_log_16 ?_
    refine lv_goto (tgt := 25) hx hb dX6_log_19 (by decide) ?_
    exact w_X6_log_b25 X hK hA x1 p1 p2 (rI x1 27) _ _ _ hP hD hS (lv_sub hl [0, 1, 2] rfl) h
def f_X6_isSlot_b20 (x : PD) (t0 : Int32) : Option (Int32 × PD) :=
  bn2 (f_X6_right x t0 ((1 : Int32))) fun r2 x3 =>
  gd (isB r2) (some (r2, x3))
set_option maxHeartbeats 4000000 in
set_option maxRecDepth 100000 in
theorem w_X6_isSlot_b20 {p : Program} {l : Launch} {e : Env} {s : State} {m : MethodId} {args : Array Value} {below : List Frame} {meth : Method} {c : Code} {D : va_G} {y : CY} {a : Nat → Nat} {A : Nat → Prop} {x' : PD} {r : Int32} (X : mpX p s m args meth c cX6_isSlot 2 (some .boolean) RX6) (hK : va_K D vwCl (mpT y) s) (hA : ∀ q, s.heap.size ≤ q → A q) : ∀ (x : PD) (t0 : Int32) (H : Heap) (locs : List Loc) (ls : Array Slot), va_P D vwCl (mw y a x) H → va_D A (mw y a x) → va_S A s.heap H locs → lv_has ls 2 [] → f_X6_isSlot_b20 x t0 = some (r, x') → W p l e { frames := 1, cells := 0, slots := 0, locals := 22 } s m args below meth c H locs 0 0 (MQ below (mpC D y A (mw y a x') (some (.int r))) args s 0 0 A) (F0 m 20 ls [.int t0, .ref (a 0)]) := by
  obtain ⟨⟨hx, hb, hml, hown, hts⟩, hr, hlk⟩ := id X
  intro x t0 H locs ls hP hD hS hl h
  unfold f_X6_isSlot_b20 at h
  refine lv_iconst (v := 1) hx hb dX6_isSlot_20 (by decide) ?_
  obtain ⟨r2, x3, hr0, h⟩ := bn2_elim h
  refine mp_call1 (As := [.int t0, .int ((1 : Int32))]) (rest := []) X (c_X6_right l D y a hr0) (mp_cw (k := 2) hts mM_X6_87 mI_X6_right mS_X6_right mN_X6 mC_X6_right rfl rfl (by decide +kernel) ⟨Nat.le_of_ble_eq_true rfl, Nat.le_of_ble_eq_true rfl⟩) hK hP hD hS hA 0 mwC_0 rfl rfl hl.1 rfl (Nat.le_of_ble_eq_true rfl) dX6_isSlot_21 ⟨Nat.zero_le _, Nat.zero_le _⟩ (fun H locs hP hD hS => ?_)
  obtain ⟨hg, h⟩ := gd_elim h
  cases h
  exact mpr_z X hK hP hD hS (isB_nar hg) rfl dX6_isSlot_24
def f_X6_isSlot (x : PD) (p1 : Int32) : Option (Int32 × PD) :=
  letv (wI x 0 ((0 : Int32))) fun x1 =>
  if p1 < 0 then
  ((f_X6_isSlot_b20 x1 ((0 : Int32))))
  else
  if ((3 : Int32)) < p1 then
  ((f_X6_isSlot_b20 x1 ((0 : Int32))))
  else
  (f_X6_isSlot_b20 x1 ((1 : Int32)))
set_option maxHeartbeats 4000000 in
set_option maxRecDepth 100000 in
theorem c_X6_isSlot (l : Launch) (D : va_G) (y : CY) (a : Nat → Nat) {x : PD} {x' : PD} {r : Int32} {p1 : Int32} (h : f_X6_isSlot x p1 = some (r, x')) : mpM l D y yX6_isSlot cX6_isSlot 2 (some .boolean) { frames := 1, cells := 0, slots := 0, locals := 22 } (mw y a x) (mw y a x') [.ref (a 0), .int p1] (some (.int r)) := by
  refine mpM.mk (own := RX6) (by decide) rfl (Nat.le_of_ble_eq_true rfl) ?_
  intro p e s m below meth c A ls X hK hA hP hD hl
  have hS : va_S A s.heap s.heap [] := va_S.rf
  obtain ⟨⟨hx, hb, hml, hown, hts⟩, hr, hlk⟩ := id X
  have hl : lv_has ls 2 [(0, .ref (a 0)), (1, .int p1)] := hl
  unfold f_X6_isSlot at h
  refine lv_aload_n hx hb dX6_isSlot_0 rfl (lv_at hl 0 rfl) ?_
  refine lv_iconst (v := 0) hx hb dX6_isSlot_1 (by decide) ?_
  obtain ⟨x1, e1, h⟩ := letv_elim h
  refine mwP_0_0 X hK hP hD hS mF_X6_80 e1 dX6_isSlot_2 (fun H locs hP hD hS => ?_)
  refine lv_aload_n hx hb dX6_isSlot_5 rfl (lv_at hl 0 rfl) ?_
  refine lv_iload_n hx hb dX6_isSlot_6 rfl (lv_at hl 1 rfl) ?_
  refine lv_if_lt (tgt := 19) hx hb dX6_isSlot_7 (by decide) (fun hc => ?_) (fun hc => ?_)
  · replace h := ift hc h
    refine lv_iconst (v := 0) hx hb dX6_isSlot_19 (by decide) ?_
    exact w_X6_isSlot_b20 X hK hA x1 ((0 : Int32)) _ _ _ hP hD hS (lv_sub hl [] rfl) h
  · replace h := iff_ hc h
    refine lv_iload_n hx hb dX6_isSlot_10 rfl (lv_at hl 1 rfl) ?_
    refine lv_iconst (v := 3) hx hb dX6_isSlot_11 (by decide) ?_
    refine lv_icmp_gt (tgt := 19) hx hb dX6_isSlot_12 (by decide) (fun hc => ?_) (fun hc => ?_)
    · replace h := ift hc h
      refine lv_iconst (v := 0) hx hb dX6_isSlot_19 (by decide) ?_
      exact w_X6_isSlot_b20 X hK hA x1 ((0 : Int32)) _ _ _ hP hD hS (lv_sub hl [] rfl) h
    · replace h := iff_ hc h
      refine lv_iconst (v := 1) hx hb dX6_isSlot_15 (by decide) ?_
      refine lv_goto (tgt := 20) hx hb dX6_isSlot_16 (by decide) ?_
      exact w_X6_isSlot_b20 X hK hA x1 ((1 : Int32)) _ _ _ hP hD hS (lv_sub hl [] rfl) h
def f_X6_keep_b26 : Nat → PD → Int32 → Int32 → Int32 → Option (Int32 × PD)
  | 0, _, _, _, _ => none
  | n + 1, x, v1, v2, v3 =>
    if ((56 : Int32)) ≤ v3 then
  (gd (inR v1 4) (letv (wB x 13 (vp_updL (rB x 13) (Int32.toNatClampNeg v1) (rL x 15))) fun x4 =>
  gd (inR v1 4) (letv (wB x4 14 (vp_updL (rB x4 14) (Int32.toNatClampNeg v1) (rL x4 16))) fun x5 =>
  gd (isB v2) (some (v2, x5)))))
  else
  gd (inR v3 56) (gd (inR ((((56 : Int32)) * v1) + v3) 224) (letv (wB x 12 (vp_updL (rB x 12) (Int32.toNatClampNeg ((((56 : Int32)) * v1) + v3)) (rB x 11 (Int32.toNatClampNeg v3)))) fun x6 =>
  ((f_X6_keep_b26 n) x6 v1 v2 (v3 + 1))))
set_option maxHeartbeats 4000000 in
set_option maxRecDepth 100000 in
theorem w_X6_keep_b26 {p : Program} {l : Launch} {e : Env} {s : State} {m : MethodId} {args : Array Value} {below : List Frame} {meth : Method} {c : Code} {D : va_G} {y : CY} {a : Nat → Nat} {A : Nat → Prop} {x' : PD} {r : Int32} (X : mpX p s m args meth c cX6_keep 4 (some .boolean) RX6) (hK : va_K D vwCl (mpT y) s) (hA : ∀ q, s.heap.size ≤ q → A q) : ∀ (n : Nat), ∀ (x : PD) (v1 : Int32) (v2 : Int32) (v3 : Int32) (H : Heap) (locs : List Loc) (ls : Array Slot), va_P D vwCl (mw y a x) H → va_D A (mw y a x) → va_S A s.heap H locs → lv_has ls 4 [(0, .ref (a 0)), (1, .int v1), (2, .int v2), (3, .int v3)] → f_X6_keep_b26 n x v1 v2 v3 = some (r, x') → W p l e { frames := 2, cells := 0, slots := 0, locals := 43 } s m args below meth c H locs 0 0 (MQ below (mpC D y A (mw y a x') (some (.int r))) args s 0 0 A) (F0 m 26 ls []) := by
  obtain ⟨⟨hx, hb, hml, hown, hts⟩, hr, hlk⟩ := id X
  intro n
  induction n with
  | zero =>
    intro x v1 v2 v3 H locs ls hP hD hS hl h
    rw [f_X6_keep_b26] at h
    exact nons h
  | succ n ih =>
    intro x v1 v2 v3 H locs ls hP hD hS hl h
    rw [f_X6_keep_b26] at h
    refine lv_iload_n hx hb dX6_keep_26 rfl (lv_at hl 3 rfl) ?_
    refine lv_bipush (v := 56) hx hb dX6_keep_27 (by decide) ?_
    refine lv_icmp_ge (tgt := 55) hx hb dX6_keep_29 (by decide) (fun hc => ?_) (fun hc => ?_)
    · replace h := ift hc h
      refine lv_aload_n hx hb dX6_keep_55 rfl (lv_at hl 0 rfl) ?_
      refine mwG_0_17 X hK hP mF_X6_47 dX6_keep_56 ?_
      refine lv_iload_n hx hb dX6_keep_59 rfl (lv_at hl 1 rfl) ?_
      refine lv_aload_n hx hb dX6_keep_60 rfl (lv_at hl 0 rfl) ?_
      refine mwG_0_15 X hK hP mF_X6_154 dX6_keep_61 ?_
      obtain ⟨hg, h⟩ := gd_elim h
      obtain ⟨x4, e1, h⟩ := letv_elim h
      refine mwS_13 X hK hP hD hS hg e1 dX6_keep_64 (fun H locs hP hD hS => ?_)
      refine lv_aload_n hx hb dX6_keep_65 rfl (lv_at hl 0 rfl) ?_
      refine mwG_0_18 X hK hP mF_X6_50 dX6_keep_66 ?_
      refine lv_iload_n hx hb dX6_keep_69 rfl (lv_at hl 1 rfl) ?_
      refine lv_aload_n hx hb dX6_keep_70 rfl (lv_at hl 0 rfl) ?_
      refine mwG_0_16 X hK hP mF_X6_188 dX6_keep_71 ?_
      obtain ⟨hg, h⟩ := gd_elim h
      obtain ⟨x5, e1, h⟩ := letv_elim h
      refine mwS_14 X hK hP hD hS hg e1 dX6_keep_74 (fun H locs hP hD hS => ?_)
      refine lv_iload_n hx hb dX6_keep_75 rfl (lv_at hl 2 rfl) ?_
      obtain ⟨hg, h⟩ := gd_elim h
      cases h
      exact mpr_z X hK hP hD hS (isB_nar hg) rfl dX6_keep_76
    · replace h := iff_ hc h
      refine lv_aload_n hx hb dX6_keep_32 rfl (lv_at hl 0 rfl) ?_
      refine mwG_0_14 X hK hP mF_X6_44 dX6_keep_33 ?_
      refine lv_bipush (v := 56) hx hb dX6_keep_36 (by decide) ?_
      refine lv_iload_n hx hb dX6_keep_38 rfl (lv_at hl 1 rfl) ?_
      refine lv_imul hx hb dX6_keep_39 ?_
      refine lv_iload_n hx hb dX6_keep_40 rfl (lv_at hl 3 rfl) ?_
      refine lv_iadd hx hb dX6_keep_41 ?_
      refine lv_aload_n hx hb dX6_keep_42 rfl (lv_at hl 0 rfl) ?_
      refine mwG_0_13 X hK hP mF_X6_40 dX6_keep_43 ?_
      refine lv_iload_n hx hb dX6_keep_46 rfl (lv_at hl 3 rfl) ?_
      obtain ⟨hg, h⟩ := gd_elim h
      refine mwL_11 X hK hP hg dX6_keep_47 ?_
      obtain ⟨hg, h⟩ := gd_elim h
      obtain ⟨x6, e1, h⟩ := letv_elim h
      refine mwS_12 X hK hP hD hS hg e1 dX6_keep_48 (fun H locs hP hD hS => ?_)
      refine lv_iinc (v := v3 + 1) (lv' := [(3, .int (v3 + 1)), (0, .ref (a 0)), (1, .int v1), (2, .int v2)]) hx hb dX6_keep_49 hl (k := 3) rfl rfl (by decide) rfl (fun ls hl => ?_)
      refine lv_goto (tgt := 26) hx hb dX6_keep_52 (by decide) ?_
      exact ih x6 v1 v2 (v3 + 1) _ _ _ hP hD hS (lv_sub hl [1, 2, 3, 0] rfl) h
def f_X6_keep (x : PD) (p1 : Int32) : Option (Int32 × PD) :=
  bn2 (f_X6_isSlot x p1) fun r1 x2 =>
  if r1 = 0 then
  some ((0 : Int32), x2)
  else
  gd (inR p1 4) (gd (inR p1 4) (letv (wA x2 15 (upd (rA x2 15) (Int32.toNatClampNeg p1) (vp_nar .boolean ((1 : Int32))))) fun x3 =>
  (f_X6_keep_b26 FU x3 p1 (rA x2 15 (Int32.toNatClampNeg p1)) ((0 : Int32)))))
set_option maxHeartbeats 4000000 in
set_option maxRecDepth 100000 in
theorem c_X6_keep (l : Launch) (D : va_G) (y : CY) (a : Nat → Nat) {x : PD} {x' : PD} {r : Int32} {p1 : Int32} (h : f_X6_keep x p1 = some (r, x')) : mpM l D y yX6_keep cX6_keep 4 (some .boolean) { frames := 2, cells := 0, slots := 0, locals := 43 } (mw y a x) (mw y a x') [.ref (a 0), .int p1] (some (.int r)) := by
  refine mpM.mk (own := RX6) (by decide) rfl (Nat.le_of_ble_eq_true rfl) ?_
  intro p e s m below meth c A ls X hK hA hP hD hl
  have hS : va_S A s.heap s.heap [] := va_S.rf
  obtain ⟨⟨hx, hb, hml, hown, hts⟩, hr, hlk⟩ := id X
  have hl : lv_has ls 4 [(0, .ref (a 0)), (1, .int p1)] := hl
  unfold f_X6_keep at h
  refine lv_aload_n hx hb dX6_keep_0 rfl (lv_at hl 0 rfl) ?_
  refine lv_iload_n hx hb dX6_keep_1 rfl (lv_at hl 1 rfl) ?_
  obtain ⟨r1, x2, hr0, h⟩ := bn2_elim h
  refine mp_call1 (As := [.int p1]) (rest := []) X (c_X6_isSlot l D y a hr0) (mp_cw (k := 1) hts mM_X6_194 mI_X6_isSlot mS_X6_isSlot mN_X6 mC_X6_isSlot rfl rfl (by decide +kernel) ⟨Nat.le_of_ble_eq_true rfl, Nat.le_of_ble_eq_true rfl⟩) hK hP hD hS hA 0 mwC_0 rfl rfl hl.1 rfl (Nat.le_of_ble_eq_true rfl) dX6_keep_2 ⟨Nat.zero_le _, Nat.zero_le _⟩ (fun H locs hP hD hS => ?_)
  refine lv_if_ne (tgt := 10) hx hb dX6_keep_5 (by decide) (fun hc => ?_) (fun hc => ?_)
  · replace h := iff_ hc h
    refine lv_aload_n hx hb dX6_keep_10 rfl (lv_at hl 0 rfl) ?_
    refine mwG_0_19 X hK hP mF_X6_53 dX6_keep_11 ?_
    refine lv_iload_n hx hb dX6_keep_14 rfl (lv_at hl 1 rfl) ?_
    obtain ⟨hg, h⟩ := gd_elim h
    refine mwL_15 X hK hP hg dX6_keep_15 ?_
    refine lv_istore_n (lv' := [(2, .int (rA x2 15 (Int32.toNatClampNeg p1))), (0, .ref (a 0)), (1, .int p1)]) hx hb dX6_keep_16 rfl hl (by decide) rfl (fun ls hl => ?_)
    refine lv_aload_n hx hb dX6_keep_17 rfl (lv_at hl 1 rfl) ?_
    refine mwG_0_19 X hK hP mF_X6_53 dX6_keep_18 ?_
    refine lv_iload_n hx hb dX6_keep_21 rfl (lv_at hl 2 rfl) ?_
    refine lv_iconst (v := 1) hx hb dX6_keep_22 (by decide) ?_
    obtain ⟨hg, h⟩ := gd_elim h
    obtain ⟨x3, e1, h⟩ := letv_elim h
    refine mwS_15 X hK hP hD hS hg e1 dX6_keep_23 (fun H locs hP hD hS => ?_)
    refine lv_iconst (v := 0) hx hb dX6_keep_24 (by decide) ?_
    refine lv_istore_n (lv' := [(3, .int ((0 : Int32))), (2, .int (rA x2 15 (Int32.toNatClampNeg p1))), (0, .ref (a 0)), (1, .int p1)]) hx hb dX6_keep_25 rfl hl (by decide) rfl (fun ls hl => ?_)
    exact w_X6_keep_b26 X hK hA FU x3 p1 (rA x2 15 (Int32.toNatClampNeg p1)) ((0 : Int32)) _ _ _ hP hD hS (lv_sub hl [2, 3, 1, 0] rfl) h
  · replace h := ift hc h
    refine lv_iconst (v := 0) hx hb dX6_keep_8 (by decide) ?_
    cases h
    exact mpr_z X hK hP hD hS rfl rfl dX6_keep_9
def f_X6_goOn_b21 : Nat → PD → Int32 → Int32 → Option (Int32 × PD)
  | 0, _, _, _ => none
  | n + 1, x, v1, v2 =>
    if ((56 : Int32)) ≤ v2 then
  (gd (inR v1 4) (letv (wL x 15 (rB x 13 (Int32.toNatClampNeg v1))) fun x3 =>
  gd (inR v1 4) (letv (wL x3 16 (rB x3 14 (Int32.toNatClampNeg v1))) fun x4 =>
  bn1 (f_X6_finds x4) fun x5 =>
  some ((1 : Int32), x5))))
  else
  gd (inR ((((56 : Int32)) * v1) + v2) 224) (gd (inR v2 56) (letv (wB x 11 (vp_updL (rB x 11) (Int32.toNatClampNeg v2) (rB x 12 (Int32.toNatClampNeg ((((56 : Int32)) * v1) + v2))))) fun x6 =>
  ((f_X6_goOn_b21 n) x6 v1 (v2 + 1))))
set_option maxHeartbeats 4000000 in
set_option maxRecDepth 100000 in
theorem w_X6_goOn_b21 {p : Program} {l : Launch} {e : Env} {s : State} {m : MethodId} {args : Array Value} {below : List Frame} {meth : Method} {c : Code} {D : va_G} {y : CY} {a : Nat → Nat} {A : Nat → Prop} {x' : PD} {r : Int32} (X : mpX p s m args meth c cX6_goOn 3 (some .boolean) RX6) (hK : va_K D vwCl (mpT y) s) (hA : ∀ q, s.heap.size ≤ q → A q) : ∀ (n : Nat), ∀ (x : PD) (v1 : Int32) (v2 : Int32) (H : Heap) (locs : List Loc) (ls : Array Slot), va_P D vwCl (mw y a x) H → va_D A (mw y a x) → va_S A s.heap H locs → lv_has ls 3 [(0, .ref (a 0)), (1, .int v1), (2, .int v2)] → f_X6_goOn_b21 n x v1 v2 = some (r, x') → W p l e { frames := 3, cells := 0, slots := 0, locals := 82 } s m args below meth c H locs 0 0 (MQ below (mpC D y A (mw y a x') (some (.int r))) args s 0 0 A) (F0 m 21 ls []) := by
  obtain ⟨⟨hx, hb, hml, hown, hts⟩, hr, hlk⟩ := id X
  intro n
  induction n with
  | zero =>
    intro x v1 v2 H locs ls hP hD hS hl h
    rw [f_X6_goOn_b21] at h
    exact nons h
  | succ n ih =>
    intro x v1 v2 H locs ls hP hD hS hl h
    rw [f_X6_goOn_b21] at h
    refine lv_iload_n hx hb dX6_goOn_21 rfl (lv_at hl 2 rfl) ?_
    refine lv_bipush (v := 56) hx hb dX6_goOn_22 (by decide) ?_
    refine lv_icmp_ge (tgt := 50) hx hb dX6_goOn_24 (by decide) (fun hc => ?_) (fun hc => ?_)
    · replace h := ift hc h
      refine lv_aload_n hx hb dX6_goOn_50 rfl (lv_at hl 0 rfl) ?_
      refine lv_aload_n hx hb dX6_goOn_51 rfl (lv_at hl 0 rfl) ?_
      refine mwG_0_17 X hK hP mF_X6_47 dX6_goOn_52 ?_
      refine lv_iload_n hx hb dX6_goOn_55 rfl (lv_at hl 1 rfl) ?_
      obtain ⟨hg, h⟩ := gd_elim h
      refine mwL_13 X hK hP hg dX6_goOn_56 ?_
      obtain ⟨x3, e1, h⟩ := letv_elim h
      refine mwP_0_15 X hK hP hD hS mF_X6_154 e1 dX6_goOn_57 (fun H locs hP hD hS => ?_)
      refine lv_aload_n hx hb dX6_goOn_60 rfl (lv_at hl 0 rfl) ?_
      refine lv_aload_n hx hb dX6_goOn_61 rfl (lv_at hl 0 rfl) ?_
      refine mwG_0_18 X hK hP mF_X6_50 dX6_goOn_62 ?_
      refine lv_iload_n hx hb dX6_goOn_65 rfl (lv_at hl 1 rfl) ?_
      obtain ⟨hg, h⟩ := gd_elim h
      refine mwL_14 X hK hP hg dX6_goOn_66 ?_
      obtain ⟨x4, e1, h⟩ := letv_elim h
      refine mwP_0_16 X hK hP hD hS mF_X6_188 e1 dX6_goOn_67 (fun H locs hP hD hS => ?_)
      refine lv_aload_n hx hb dX6_goOn_70 rfl (lv_at hl 0 rfl) ?_
      obtain ⟨x5, hr0, h⟩ := bn1_elim h
      refine mp_callv (As := []) (rest := []) X (c_X6_finds l D y a hr0) (mp_cw (k := 0) hts mM_X6_91 mI_X6_finds mS_X6_finds mN_X6 mC_X6_finds rfl rfl (by decide +kernel) ⟨Nat.le_of_ble_eq_true rfl, Nat.le_of_ble_eq_true rfl⟩) hK hP hD hS hA 0 mwC_0 rfl rfl hl.1 rfl (Nat.le_of_ble_eq_true rfl) dX6_goOn_71 ⟨Nat.zero_le _, Nat.zero_le _⟩ (fun H locs hP hD hS => ?_)
      refine lv_iconst (v := 1) hx hb dX6_goOn_74 (by decide) ?_
      cases h
      exact mpr_z X hK hP hD hS rfl rfl dX6_goOn_75
    · replace h := iff_ hc h
      refine lv_aload_n hx hb dX6_goOn_27 rfl (lv_at hl 0 rfl) ?_
      refine mwG_0_13 X hK hP mF_X6_40 dX6_goOn_28 ?_
      refine lv_iload_n hx hb dX6_goOn_31 rfl (lv_at hl 2 rfl) ?_
      refine lv_aload_n hx hb dX6_goOn_32 rfl (lv_at hl 0 rfl) ?_
      refine mwG_0_14 X hK hP mF_X6_44 dX6_goOn_33 ?_
      refine lv_bipush (v := 56) hx hb dX6_goOn_36 (by decide) ?_
      refine lv_iload_n hx hb dX6_goOn_38 rfl (lv_at hl 1 rfl) ?_
      refine lv_imul hx hb dX6_goOn_39 ?_
      refine lv_iload_n hx hb dX6_goOn_40 rfl (lv_at hl 2 rfl) ?_
      refine lv_iadd hx hb dX6_goOn_41 ?_
      obtain ⟨hg, h⟩ := gd_elim h
      refine mwL_12 X hK hP hg dX6_goOn_42 ?_
      obtain ⟨hg, h⟩ := gd_elim h
      obtain ⟨x6, e1, h⟩ := letv_elim h
      refine mwS_11 X hK hP hD hS hg e1 dX6_goOn_43 (fun H locs hP hD hS => ?_)
      refine lv_iinc (v := v2 + 1) (lv' := [(2, .int (v2 + 1)), (0, .ref (a 0)), (1, .int v1)]) hx hb dX6_goOn_44 hl (k := 2) rfl rfl (by decide) rfl (fun ls hl => ?_)
      refine lv_goto (tgt := 21) hx hb dX6_goOn_47 (by decide) ?_
      exact ih x6 v1 (v2 + 1) _ _ _ hP hD hS (lv_sub hl [1, 2, 0] rfl) h
def f_X6_goOn (x : PD) (p1 : Int32) : Option (Int32 × PD) :=
  bn2 (f_X6_isSlot x p1) fun r1 x2 =>
  if r1 = 0 then
  (some ((0 : Int32), x2))
  else
  gd (inR p1 4) (if (rA x2 15 (Int32.toNatClampNeg p1)) = 0 then
  some ((0 : Int32), x2)
  else
  (f_X6_goOn_b21 FU x2 p1 ((0 : Int32))))
set_option maxHeartbeats 4000000 in
set_option maxRecDepth 100000 in
theorem c_X6_goOn (l : Launch) (D : va_G) (y : CY) (a : Nat → Nat) {x : PD} {x' : PD} {r : Int32} {p1 : Int32} (h : f_X6_goOn x p1 = some (r, x')) : mpM l D y yX6_goOn cX6_goOn 3 (some .boolean) { frames := 3, cells := 0, slots := 0, locals := 82 } (mw y a x) (mw y a x') [.ref (a 0), .int p1] (some (.int r)) := by
  refine mpM.mk (own := RX6) (by decide) rfl (Nat.le_of_ble_eq_true rfl) ?_
  intro p e s m below meth c A ls X hK hA hP hD hl
  have hS : va_S A s.heap s.heap [] := va_S.rf
  obtain ⟨⟨hx, hb, hml, hown, hts⟩, hr, hlk⟩ := id X
  have hl : lv_has ls 3 [(0, .ref (a 0)), (1, .int p1)] := hl
  unfold f_X6_goOn at h
  refine lv_aload_n hx hb dX6_goOn_0 rfl (lv_at hl 0 rfl) ?_
  refine lv_iload_n hx hb dX6_goOn_1 rfl (lv_at hl 1 rfl) ?_
  obtain ⟨r1, x2, hr0, h⟩ := bn2_elim h
  refine mp_call1 (As := [.int p1]) (rest := []) X (c_X6_isSlot l D y a hr0) (mp_cw (k := 1) hts mM_X6_194 mI_X6_isSlot mS_X6_isSlot mN_X6 mC_X6_isSlot rfl rfl (by decide +kernel) ⟨Nat.le_of_ble_eq_true rfl, Nat.le_of_ble_eq_true rfl⟩) hK hP hD hS hA 0 mwC_0 rfl rfl hl.1 rfl (Nat.le_of_ble_eq_true rfl) dX6_goOn_2 ⟨Nat.zero_le _, Nat.zero_le _⟩ (fun H locs hP hD hS => ?_)
  refine lv_if_eq (tgt := 17) hx hb dX6_goOn_5 (by decide) (fun hc => ?_) (fun hc => ?_)
  · replace h := ift hc h
    refine lv_iconst (v := 0) hx hb dX6_goOn_17 (by decide) ?_
    cases h
    exact mpr_z X hK hP hD hS rfl rfl dX6_goOn_18
  · replace h := iff_ hc h
    refine lv_aload_n hx hb dX6_goOn_8 rfl (lv_at hl 0 rfl) ?_
    refine mwG_0_19 X hK hP mF_X6_53 dX6_goOn_9 ?_
    refine lv_iload_n hx hb dX6_goOn_12 rfl (lv_at hl 1 rfl) ?_
    obtain ⟨hg, h⟩ := gd_elim h
    refine mwL_15 X hK hP hg dX6_goOn_13 ?_
    refine lv_if_ne (tgt := 19) hx hb dX6_goOn_14 (by decide) (fun hc => ?_) (fun hc => ?_)
    · replace h := iff_ hc h
      refine lv_iconst (v := 0) hx hb dX6_goOn_19 (by decide) ?_
      refine lv_istore_n (lv' := [(2, .int ((0 : Int32))), (0, .ref (a 0)), (1, .int p1)]) hx hb dX6_goOn_20 rfl hl (by decide) rfl (fun ls hl => ?_)
      exact w_X6_goOn_b21 X hK hA FU x2 p1 ((0 : Int32)) _ _ _ hP hD hS (lv_sub hl [1, 2, 0] rfl) h
    · replace h := ift hc h
      refine lv_iconst (v := 0) hx hb dX6_goOn_17 (by decide) ?_
      cases h
      exact mpr_z X hK hP hD hS rfl rfl dX6_goOn_18
