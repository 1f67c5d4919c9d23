def f_X2_addPiece_b81 (x : PD) (v1 : Int32) (v2 : Int32) (v3 : Int32) (v4 : Int32) (v5 : Int32) (t0 : Int32) : Option (Int32 × PD) :=
  if t0 = 0 then
  (some ((-1 : Int32), x))
  else
  if (rI x 37) < ((20 : Int32)) then
  (gd (inR (rI x 37) 20) (letv (wA x 2 (upd (rA x 2) (Int32.toNatClampNeg (rI x 37)) v1)) fun x1 =>
  gd (inR (rI x1 37) 20) (letv (wA x1 3 (upd (rA x1 3) (Int32.toNatClampNeg (rI x1 37)) v2)) fun x2 =>
  gd (inR (rI x2 37) 20) (letv (wA x2 4 (upd (rA x2 4) (Int32.toNatClampNeg (rI x2 37)) v3)) fun x3 =>
  gd (inR (rI x3 37) 20) (letv (wA x3 5 (upd (rA x3 5) (Int32.toNatClampNeg (rI x3 37)) v4)) fun x4 =>
  gd (inR (rI x4 37) 20) (letv (wA x4 6 (upd (rA x4 6) (Int32.toNatClampNeg (rI x4 37)) v5)) fun x5 =>
  letv (wI x5 37 ((rI x5 37) + ((1 : Int32)))) fun x6 =>
  some ((rI x6 37) - ((1 : Int32)), x6)))))))
  else
  some ((-1 : Int32), x)
set_option maxHeartbeats 4000000 in
set_option maxRecDepth 100000 in
theorem w_X2_addPiece_b81 {p : Program} {l : Launch} {e : Env} {s : State} {m : MethodId} {args : Array Value} {below : List Frame} {meth : Method} {c : Code} {D : va_G} {y : CY} {a : Nat → Nat} {A : Nat → Prop} {x' : PD} {r : Int32} (X : mpX p s m args meth c cX2_addPiece 8 (some .int) RX2) (hK : va_K D vwCl (mpT y) s) (hA : ∀ q, s.heap.size ≤ q → A q) : ∀ (x : PD) (v1 : Int32) (v2 : Int32) (v3 : Int32) (v4 : Int32) (v5 : Int32) (t0 : Int32) (H : Heap) (locs : List Loc) (ls : Array Slot), va_P D vwCl (pw y a x) H → va_D A (pw y a x) → va_S A s.heap H locs → lv_has ls 8 [(0, .ref (a 1)), (1, .int v1), (2, .int v2), (3, .int v3), (4, .int v4), (5, .int v5)] → f_X2_addPiece_b81 x v1 v2 v3 v4 v5 t0 = some (r, x') → W p l e { frames := 0, cells := 0, slots := 0, locals := 0 } s m args below meth c H locs 0 0 (MQ below (mpC D y A (pw y a x') (some (.int r))) args s 0 0 A) (F0 m 81 ls [.int t0]) := by
  obtain ⟨⟨hx, hb, hml, hown, hts⟩, hr, hlk⟩ := id X
  intro x v1 v2 v3 v4 v5 t0 H locs ls hP hD hS hl h
  unfold f_X2_addPiece_b81 at h
  refine lv_istore (lv' := [(7, .int t0), (0, .ref (a 1)), (1, .int v1), (2, .int v2), (3, .int v3), (4, .int v4), (5, .int v5)]) hx hb dX2_addPiece_81 hl (by decide) rfl (fun ls hl => ?_)
  refine lv_iload hx hb dX2_addPiece_83 (lv_at hl 0 rfl) ?_
  refine lv_if_eq (tgt := 97) hx hb dX2_addPiece_85 (by decide) (fun hc => ?_) (fun hc => ?_)
  · replace h := ift hc h
    refine lv_iconst (v := -1) hx hb dX2_addPiece_97 (by decide) ?_
    cases h
    exact mpr_i X hK hP hD hS rfl dX2_addPiece_98
  · replace h := iff_ hc h
    refine lv_aload_n hx hb dX2_addPiece_88 rfl (lv_at hl 1 rfl) ?_
    refine pwG_1_5 X hK hP mF_X2_42 dX2_addPiece_89 ?_
    refine lv_bipush (v := 20) hx hb dX2_addPiece_92 (by decide) ?_
    refine lv_icmp_lt (tgt := 99) hx hb dX2_addPiece_94 (by decide) (fun hc => ?_) (fun hc => ?_)
    · replace h := ift hc h
      refine lv_aload_n hx hb dX2_addPiece_99 rfl (lv_at hl 1 rfl) ?_
      refine pwG_1_0 X hK hP mF_X2_9 dX2_addPiece_100 ?_
      refine lv_aload_n hx hb dX2_addPiece_103 rfl (lv_at hl 1 rfl) ?_
      refine pwG_1_5 X hK hP mF_X2_42 dX2_addPiece_104 ?_
      refine lv_iload_n hx hb dX2_addPiece_107 rfl (lv_at hl 2 rfl) ?_
      obtain ⟨hg, h⟩ := gd_elim h
      obtain ⟨x1, e1, h⟩ := letv_elim h
      refine pwS_2 X hK hP hD hS hg e1 dX2_addPiece_108 (fun H locs hP hD hS => ?_)
      refine lv_aload_n hx hb dX2_addPiece_109 rfl (lv_at hl 1 rfl) ?_
      refine pwG_1_1 X hK hP mF_X2_15 dX2_addPiece_110 ?_
      refine lv_aload_n hx hb dX2_addPiece_113 rfl (lv_at hl 1 rfl) ?_
      refine pwG_1_5 X hK hP mF_X2_42 dX2_addPiece_114 ?_
      refine lv_iload_n hx hb dX2_addPiece_117 rfl (lv_at hl 3 rfl) ?_
      obtain ⟨hg, h⟩ := gd_elim h
      obtain ⟨x2, e1, h⟩ := letv_elim h
      refine pwS_3 X hK hP hD hS hg e1 dX2_addPiece_118 (fun H locs hP hD hS => ?_)
      refine lv_aload_n hx hb dX2_addPiece_119 rfl (lv_at hl 1 rfl) ?_
      refine pwG_1_2 X hK hP mF_X2_18 dX2_addPiece_120 ?_
      refine lv_aload_n hx hb dX2_addPiece_123 rfl (lv_at hl 1 rfl) ?_
      refine pwG_1_5 X hK hP mF_X2_42 dX2_addPiece_124 ?_
      refine lv_iload_n hx hb dX2_addPiece_127 rfl (lv_at hl 4 rfl) ?_
      obtain ⟨hg, h⟩ := gd_elim h
      obtain ⟨x3, e1, h⟩ := letv_elim h
      refine pwS_4 X hK hP hD hS hg e1 dX2_addPiece_128 (fun H locs hP hD hS => ?_)
      refine lv_aload_n hx hb dX2_addPiece_129 rfl (lv_at hl 1 rfl) ?_
      refine pwG_1_3 X hK hP mF_X2_21 dX2_addPiece_130 ?_
      refine lv_aload_n hx hb dX2_addPiece_133 rfl (lv_at hl 1 rfl) ?_
      refine pwG_1_5 X hK hP mF_X2_42 dX2_addPiece_134 ?_
      refine lv_iload hx hb dX2_addPiece_137 (lv_at hl 5 rfl) ?_
      obtain ⟨hg, h⟩ := gd_elim h
      obtain ⟨x4, e1, h⟩ := letv_elim h
      refine pwS_5 X hK hP hD hS hg e1 dX2_addPiece_139 (fun H locs hP hD hS => ?_)
      refine lv_aload_n hx hb dX2_addPiece_140 rfl (lv_at hl 1 rfl) ?_
      refine pwG_1_4 X hK hP mF_X2_24 dX2_addPiece_141 ?_
      refine lv_aload_n hx hb dX2_addPiece_144 rfl (lv_at hl 1 rfl) ?_
      refine pwG_1_5 X hK hP mF_X2_42 dX2_addPiece_145 ?_
      refine lv_iload hx hb dX2_addPiece_148 (lv_at hl 6 rfl) ?_
      obtain ⟨hg, h⟩ := gd_elim h
      obtain ⟨x5, e1, h⟩ := letv_elim h
      refine pwS_6 X hK hP hD hS hg e1 dX2_addPiece_150 (fun H locs hP hD hS => ?_)
      refine lv_aload_n hx hb dX2_addPiece_151 rfl (lv_at hl 1 rfl) ?_
      refine lv_dup hx hb dX2_addPiece_152 rfl ?_
      refine pwG_1_5 X hK hP mF_X2_42 dX2_addPiece_153 ?_
      refine lv_iconst (v := 1) hx hb dX2_addPiece_156 (by decide) ?_
      refine lv_iadd hx hb dX2_addPiece_157 ?_
      obtain ⟨x6, e1, h⟩ := letv_elim h
      refine pwP_1_5 X hK hP hD hS mF_X2_42 e1 dX2_addPiece_158 (fun H locs hP hD hS => ?_)
      refine lv_aload_n hx hb dX2_addPiece_161 rfl (lv_at hl 1 rfl) ?_
      refine pwG_1_5 X hK hP mF_X2_42 dX2_addPiece_162 ?_
      refine lv_iconst (v := 1) hx hb dX2_addPiece_165 (by decide) ?_
      refine lv_isub hx hb dX2_addPiece_166 ?_
      cases h
      exact mpr_i X hK hP hD hS rfl dX2_addPiece_167
    · replace h := iff_ hc h
      refine lv_iconst (v := -1) hx hb dX2_addPiece_97 (by decide) ?_
      cases h
      exact mpr_i X hK hP hD hS rfl dX2_addPiece_98
def f_X2_addPiece_b16 (x : PD) (v1 : Int32) (v2 : Int32) (v3 : Int32) (v4 : Int32) (v5 : Int32) (t0 : Int32) : Option (Int32 × PD) :=
  if v1 < 0 then
  ((f_X2_addPiece_b81 x v1 v2 v3 v4 v5 ((0 : Int32))))
  else
  if ((3 : Int32)) < v1 then
  ((f_X2_addPiece_b81 x v1 v2 v3 v4 v5 ((0 : Int32))))
  else
  if v2 < ((1 : Int32)) then
  ((f_X2_addPiece_b81 x v1 v2 v3 v4 v5 ((0 : Int32))))
  else
  if ((64 : Int32)) < v2 then
  ((f_X2_addPiece_b81 x v1 v2 v3 v4 v5 ((0 : Int32))))
  else
  if v3 < ((24 : Int32)) then
  ((f_X2_addPiece_b81 x v1 v2 v3 v4 v5 ((0 : Int32))))
  else
  if ((2400 : Int32)) < v3 then
  ((f_X2_addPiece_b81 x v1 v2 v3 v4 v5 ((0 : Int32))))
  else
  if v4 < 0 then
  ((f_X2_addPiece_b81 x v1 v2 v3 v4 v5 ((0 : Int32))))
  else
  if t0 < v4 then
  ((f_X2_addPiece_b81 x v1 v2 v3 v4 v5 ((0 : Int32))))
  else
  if v5 < ((1 : Int32)) then
  ((f_X2_addPiece_b81 x v1 v2 v3 v4 v5 ((0 : Int32))))
  else
  if ((9 : Int32)) < v5 then
  ((f_X2_addPiece_b81 x v1 v2 v3 v4 v5 ((0 : Int32))))
  else
  (f_X2_addPiece_b81 x v1 v2 v3 v4 v5 ((1 : Int32)))
set_option maxHeartbeats 4000000 in
set_option maxRecDepth 100000 in
theorem w_X2_addPiece_b16 {p : Program} {l : Launch} {e : Env} {s : State} {m : MethodId} {args : Array Value} {below : List Frame} {meth : Method} {c : Code} {D : va_G} {y : CY} {a : Nat → Nat} {A : Nat → Prop} {x' : PD} {r : Int32} (X : mpX p s m args meth c cX2_addPiece 8 (some .int) RX2) (hK : va_K D vwCl (mpT y) s) (hA : ∀ q, s.heap.size ≤ q → A q) : ∀ (x : PD) (v1 : Int32) (v2 : Int32) (v3 : Int32) (v4 : Int32) (v5 : Int32) (t0 : Int32) (H : Heap) (locs : List Loc) (ls : Array Slot), va_P D vwCl (pw y a x) H → va_D A (pw y a x) → va_S A s.heap H locs → lv_has ls 8 [(0, .ref (a 1)), (1, .int v1), (2, .int v2), (3, .int v3), (4, .int v4), (5, .int v5)] → f_X2_addPiece_b16 x v1 v2 v3 v4 v5 t0 = some (r, x') → W p l e { frames := 0, cells := 0, slots := 0, locals := 0 } s m args below meth c H locs 0 0 (MQ below (mpC D y A (pw y a x') (some (.int r))) args s 0 0 A) (F0 m 16 ls [.int t0]) := by
  obtain ⟨⟨hx, hb, hml, hown, hts⟩, hr, hlk⟩ := id X
  intro x v1 v2 v3 v4 v5 t0 H locs ls hP hD hS hl h
  unfold f_X2_addPiece_b16 at h
  refine lv_istore (lv' := [(6, .int t0), (0, .ref (a 1)), (1, .int v1), (2, .int v2), (3, .int v3), (4, .int v4), (5, .int v5)]) hx hb dX2_addPiece_16 hl (by decide) rfl (fun ls hl => ?_)
  refine lv_iload_n hx hb dX2_addPiece_18 rfl (lv_at hl 2 rfl) ?_
  refine lv_if_lt (tgt := 80) hx hb dX2_addPiece_19 (by decide) (fun hc => ?_) (fun hc => ?_)
  · replace h := ift hc h
    refine lv_iconst (v := 0) hx hb dX2_addPiece_80 (by decide) ?_
    exact w_X2_addPiece_b81 X hK hA x v1 v2 v3 v4 v5 ((0 : Int32)) _ _ _ hP hD hS (lv_sub hl [1, 2, 3, 4, 5, 6] rfl) h
  · replace h := iff_ hc h
    refine lv_iload_n hx hb dX2_addPiece_22 rfl (lv_at hl 2 rfl) ?_
    refine lv_iconst (v := 3) hx hb dX2_addPiece_23 (by decide) ?_
    refine lv_icmp_gt (tgt := 80) hx hb dX2_addPiece_24 (by decide) (fun hc => ?_) (fun hc => ?_)
    · replace h := ift hc h
      refine lv_iconst (v := 0) hx hb dX2_addPiece_80 (by decide) ?_
      exact w_X2_addPiece_b81 X hK hA x v1 v2 v3 v4 v5 ((0 : Int32)) _ _ _ hP hD hS (lv_sub hl [1, 2, 3, 4, 5, 6] rfl) h
    · replace h := iff_ hc h
      refine lv_iload_n hx hb dX2_addPiece_27 rfl (lv_at hl 3 rfl) ?_
      refine lv_iconst (v := 1) hx hb dX2_addPiece_28 (by decide) ?_
      refine lv_icmp_lt (tgt := 80) hx hb dX2_addPiece_29 (by decide) (fun hc => ?_) (fun hc => ?_)
      · replace h := ift hc h
        refine lv_iconst (v := 0) hx hb dX2_addPiece_80 (by decide) ?_
        exact w_X2_addPiece_b81 X hK hA x v1 v2 v3 v4 v5 ((0 : Int32)) _ _ _ hP hD hS (lv_sub hl [1, 2, 3, 4, 5, 6] rfl) h
      · replace h := iff_ hc h
        refine lv_iload_n hx hb dX2_addPiece_32 rfl (lv_at hl 3 rfl) ?_
        refine lv_bipush (v := 64) hx hb dX2_addPiece_33 (by decide) ?_
        refine lv_icmp_gt (tgt := 80) hx hb dX2_addPiece_35 (by decide) (fun hc => ?_) (fun hc => ?_)
        · replace h := ift hc h
          refine lv_iconst (v := 0) hx hb dX2_addPiece_80 (by decide) ?_
          exact w_X2_addPiece_b81 X hK hA x v1 v2 v3 v4 v5 ((0 : Int32)) _ _ _ hP hD hS (lv_sub hl [1, 2, 3, 4, 5, 6] rfl) h
        · replace h := iff_ hc h
          refine lv_iload_n hx hb dX2_addPiece_38 rfl (lv_at hl 4 rfl) ?_
          refine lv_bipush (v := 24) hx hb dX2_addPiece_39 (by decide) ?_
          refine lv_icmp_lt (tgt := 80) hx hb dX2_addPiece_41 (by decide) (fun hc => ?_) (fun hc => ?_)
          · replace h := ift hc h
            refine lv_iconst (v := 0) hx hb dX2_addPiece_80 (by decide) ?_
            exact w_X2_addPiece_b81 X hK hA x v1 v2 v3 v4 v5 ((0 : Int32)) _ _ _ hP hD hS (lv_sub hl [1, 2, 3, 4, 5, 6] rfl) h
          · replace h := iff_ hc h
            refine lv_iload_n hx hb dX2_addPiece_44 rfl (lv_at hl 4 rfl) ?_
            refine lv_sipush (v := 2400) hx hb dX2_addPiece_45 (by decide) ?_
            refine lv_icmp_gt (tgt := 80) hx hb dX2_addPiece_48 (by decide) (fun hc => ?_) (fun hc => ?_)
            · replace h := ift hc h
              refine lv_iconst (v := 0) hx hb dX2_addPiece_80 (by decide) ?_
              exact w_X2_addPiece_b81 X hK hA x v1 v2 v3 v4 v5 ((0 : Int32)) _ _ _ hP hD hS (lv_sub hl [1, 2, 3, 4, 5, 6] rfl) h
            · replace h := iff_ hc h
              refine lv_iload hx hb dX2_addPiece_51 (lv_at hl 5 rfl) ?_
              refine lv_if_lt (tgt := 80) hx hb dX2_addPiece_53 (by decide) (fun hc => ?_) (fun hc => ?_)
              · replace h := ift hc h
                refine lv_iconst (v := 0) hx hb dX2_addPiece_80 (by decide) ?_
                exact w_X2_addPiece_b81 X hK hA x v1 v2 v3 v4 v5 ((0 : Int32)) _ _ _ hP hD hS (lv_sub hl [1, 2, 3, 4, 5, 6] rfl) h
              · replace h := iff_ hc h
                refine lv_iload hx hb dX2_addPiece_56 (lv_at hl 5 rfl) ?_
                refine lv_iload hx hb dX2_addPiece_58 (lv_at hl 0 rfl) ?_
                refine lv_icmp_gt (tgt := 80) hx hb dX2_addPiece_60 (by decide) (fun hc => ?_) (fun hc => ?_)
                · replace h := ift hc h
                  refine lv_iconst (v := 0) hx hb dX2_addPiece_80 (by decide) ?_
                  exact w_X2_addPiece_b81 X hK hA x v1 v2 v3 v4 v5 ((0 : Int32)) _ _ _ hP hD hS (lv_sub hl [1, 2, 3, 4, 5, 6] rfl) h
                · replace h := iff_ hc h
                  refine lv_iload hx hb dX2_addPiece_63 (lv_at hl 6 rfl) ?_
                  refine lv_iconst (v := 1) hx hb dX2_addPiece_65 (by decide) ?_
                  refine lv_icmp_lt (tgt := 80) hx hb dX2_addPiece_66 (by decide) (fun hc => ?_) (fun hc => ?_)
                  · replace h := ift hc h
                    refine lv_iconst (v := 0) hx hb dX2_addPiece_80 (by decide) ?_
                    exact w_X2_addPiece_b81 X hK hA x v1 v2 v3 v4 v5 ((0 : Int32)) _ _ _ hP hD hS (lv_sub hl [1, 2, 3, 4, 5, 6] rfl) h
                  · replace h := iff_ hc h
                    refine lv_iload hx hb dX2_addPiece_69 (lv_at hl 6 rfl) ?_
                    refine lv_bipush (v := 9) hx hb dX2_addPiece_71 (by decide) ?_
                    refine lv_icmp_gt (tgt := 80) hx hb dX2_addPiece_73 (by decide) (fun hc => ?_) (fun hc => ?_)
                    · replace h := ift hc h
                      refine lv_iconst (v := 0) hx hb dX2_addPiece_80 (by decide) ?_
                      exact w_X2_addPiece_b81 X hK hA x v1 v2 v3 v4 v5 ((0 : Int32)) _ _ _ hP hD hS (lv_sub hl [1, 2, 3, 4, 5, 6] rfl) h
                    · replace h := iff_ hc h
                      refine lv_iconst (v := 1) hx hb dX2_addPiece_76 (by decide) ?_
                      refine lv_goto (tgt := 81) hx hb dX2_addPiece_77 (by decide) ?_
                      exact w_X2_addPiece_b81 X hK hA x v1 v2 v3 v4 v5 ((1 : Int32)) _ _ _ hP hD hS (lv_sub hl [1, 2, 3, 4, 5, 6] rfl) h
def f_X2_addPiece (x : PD) (p1 : Int32) (p2 : Int32) (p3 : Int32) (p4 : Int32) (p5 : Int32) : Option (Int32 × PD) :=
  if p1 = 0 then
  ((f_X2_addPiece_b16 x p1 p2 p3 p4 p5 ((255 : Int32))))
  else
  if p1 = ((1 : Int32)) then
  (f_X2_addPiece_b16 x p1 p2 p3 p4 p5 ((255 : Int32)))
  else
  (f_X2_addPiece_b16 x p1 p2 p3 p4 p5 ((0 : Int32)))
set_option maxHeartbeats 4000000 in
set_option maxRecDepth 100000 in
theorem c_X2_addPiece (l : Launch) (D : va_G) (y : CY) (a : Nat → Nat) {x : PD} {x' : PD} {r : Int32} {p1 : Int32} {p2 : Int32} {p3 : Int32} {p4 : Int32} {p5 : Int32} (h : f_X2_addPiece x p1 p2 p3 p4 p5 = some (r, x')) : mpM l D y yX2_addPiece cX2_addPiece 8 (some .int) { frames := 0, cells := 0, slots := 0, locals := 0 } (pw y a x) (pw y a x') [.ref (a 1), .int p1, .int p2, .int p3, .int p4, .int p5] (some (.int r)) := by
  refine mpM.mk (own := RX2) (by decide) rfl (Nat.le_of_ble_eq_true rfl) ?_
  intro p e s m below meth c A ls X hK hA hP hD hl
  have hS : va_S A s.heap s.heap [] := va_S.rf
  obtain ⟨⟨hx, hb, hml, hown, hts⟩, hr, hlk⟩ := id X
  have hl : lv_has ls 8 [(0, .ref (a 1)), (1, .int p1), (2, .int p2), (3, .int p3), (4, .int p4), (5, .int p5)] := hl
  unfold f_X2_addPiece at h
  refine lv_iload_n hx hb dX2_addPiece_0 rfl (lv_at hl 1 rfl) ?_
  refine lv_if_eq (tgt := 9) hx hb dX2_addPiece_1 (by decide) (fun hc => ?_) (fun hc => ?_)
  · replace h := ift hc h
    refine lv_sipush (v := 255) hx hb dX2_addPiece_9 (by decide) ?_
    refine lv_goto (tgt := 16) hx hb dX2_addPiece_12 (by decide) ?_
    exact w_X2_addPiece_b16 X hK hA x p1 p2 p3 p4 p5 ((255 : Int32)) _ _ _ hP hD hS (lv_sub hl [0, 1, 2, 3, 4, 5] rfl) h
  · replace h := iff_ hc h
    refine lv_iload_n hx hb dX2_addPiece_4 rfl (lv_at hl 1 rfl) ?_
    refine lv_iconst (v := 1) hx hb dX2_addPiece_5 (by decide) ?_
    refine lv_icmp_ne (tgt := 15) hx hb dX2_addPiece_6 (by decide) (fun hc => ?_) (fun hc => ?_)
    · replace h := iff_ hc h
      refine lv_iconst (v := 0) hx hb dX2_addPiece_15 (by decide) ?_
      exact w_X2_addPiece_b16 X hK hA x p1 p2 p3 p4 p5 ((0 : Int32)) _ _ _ hP hD hS (lv_sub hl [0, 1, 2, 3, 4, 5] rfl) h
    · replace h := ift hc h
      refine lv_sipush (v := 255) hx hb dX2_addPiece_9 (by decide) ?_
      refine lv_goto (tgt := 16) hx hb dX2_addPiece_12 (by decide) ?_
      exact w_X2_addPiece_b16 X hK hA x p1 p2 p3 p4 p5 ((255 : Int32)) _ _ _ hP hD hS (lv_sub hl [0, 1, 2, 3, 4, 5] rfl) h
def f_X1_forget (x : PD) : Option (PD) :=
  letv (wI x 1285 ((0 : Int32))) fun x1 =>
  letv (wI x1 1286 ((0 : Int32))) fun x2 =>
  some x2
set_option maxHeartbeats 4000000 in
set_option maxRecDepth 100000 in
theorem c_X1_forget (l : Launch) (D : va_G) (y : CY) (a : Nat → Nat) {x : PD} {x' : PD} (h : f_X1_forget x = some x') : mpM l D y yX1_forget cX1_forget 1 none { frames := 0, cells := 0, slots := 0, locals := 0 } (pw y a x) (pw y a x') [.ref (a 40)] none := by
  refine mpM.mk (own := RX1) (by decide) rfl (Nat.le_of_ble_eq_true rfl) ?_
  intro p e s m below meth c A ls X hK hA hP hD hl
  have hS : va_S A s.heap s.heap [] := va_S.rf
  obtain ⟨⟨hx, hb, hml, hown, hts⟩, hr, hlk⟩ := id X
  have hl : lv_has ls 1 [(0, .ref (a 40))] := hl
  unfold f_X1_forget at h
  refine lv_aload_n hx hb dX1_forget_0 rfl (lv_at hl 0 rfl) ?_
  refine lv_iconst (v := 0) hx hb dX1_forget_1 (by decide) ?_
  obtain ⟨x1, e1, h⟩ := letv_elim h
  refine pwP_40_5 X hK hP hD hS mF_X1_34 e1 dX1_forget_2 (fun H locs hP hD hS => ?_)
  refine lv_aload_n hx hb dX1_forget_5 rfl (lv_at hl 0 rfl) ?_
  refine lv_iconst (v := 0) hx hb dX1_forget_6 (by decide) ?_
  obtain ⟨x2, e1, h⟩ := letv_elim h
  refine pwP_40_6 X hK hP hD hS mF_X1_37 e1 dX1_forget_7 (fun H locs hP hD hS => ?_)
  cases h
  exact mpr_v X hK hP hD hS dX1_forget_10
def f_X1_isOpen (x : PD) (p1 : Int32) : Option (Int32) :=
  if p1 = ((100 : Int32)) then
  gd (inR (rI x 386) 20) (if (rA x 2 (Int32.toNatClampNeg (rI x 386))) = 0 then
  some ((1 : Int32))
  else
  some ((0 : Int32)))
  else
  gd (inR p1 100) (if (rA x 7 (Int32.toNatClampNeg p1)) = (rI x 386) then
  gd (inR p1 100) (if (rA x 8 (Int32.toNatClampNeg p1)) ≤ (rI x 387) then
  (some ((0 : Int32)))
  else
  some ((1 : Int32)))
  else
  some ((0 : Int32)))
set_option maxHeartbeats 4000000 in
set_option maxRecDepth 100000 in
theorem c_X1_isOpen (l : Launch) (D : va_G) (y : CY) (a : Nat → Nat) {x : PD} {r : Int32} {p1 : Int32} (h : f_X1_isOpen x p1 = some r) : mpM l D y yX1_isOpen cX1_isOpen 2 (some .boolean) { frames := 0, cells := 0, slots := 0, locals := 0 } (pw y a x) (pw y a x) [.ref (a 40), .int p1] (some (.int r)) := by
  refine mpM.mk (own := RX1) (by decide) rfl (Nat.le_of_ble_eq_true rfl) ?_
  intro p e s m below meth c A ls X hK hA hP hD hl
  have hS : va_S A s.heap s.heap [] := va_S.rf
  obtain ⟨⟨hx, hb, hml, hown, hts⟩, hr, hlk⟩ := id X
  have hl : lv_has ls 2 [(0, .ref (a 40)), (1, .int p1)] := hl
  unfold f_X1_isOpen at h
  refine lv_iload_n hx hb dX1_isOpen_0 rfl (lv_at hl 1 rfl) ?_
  refine lv_bipush (v := 100) hx hb dX1_isOpen_1 (by decide) ?_
  refine lv_icmp_ne (tgt := 30) hx hb dX1_isOpen_3 (by decide) (fun hc => ?_) (fun hc => ?_)
  · replace h := iff_ hc h
    refine lv_aload_n hx hb dX1_isOpen_30 rfl (lv_at hl 0 rfl) ?_
    refine pwG_40_0 X hK hP mF_X1_26 dX1_isOpen_31 ?_
    refine pwG_1_6 X hK hP mF_X1_102 dX1_isOpen_34 ?_
    refine lv_iload_n hx hb dX1_isOpen_37 rfl (lv_at hl 1 rfl) ?_
    obtain ⟨hg, h⟩ := gd_elim h
    refine pwL_7 X hK hP hg dX1_isOpen_38 ?_
    refine lv_aload_n hx hb dX1_isOpen_39 rfl (lv_at hl 0 rfl) ?_
    refine pwG_40_1 X hK hP mF_X1_30 dX1_isOpen_40 ?_
    refine pwG_12_2 X hK hP mF_X1_56 dX1_isOpen_43 ?_
    refine lv_icmp_ne (tgt := 72) hx hb dX1_isOpen_46 (by decide) (fun hc => ?_) (fun hc => ?_)
    · replace h := iff_ hc h
      refine lv_iconst (v := 0) hx hb dX1_isOpen_72 (by decide) ?_
      cases h
      exact mpr_z X hK hP hD hS rfl rfl dX1_isOpen_73
    · replace h := ift hc h
      refine lv_aload_n hx hb dX1_isOpen_49 rfl (lv_at hl 0 rfl) ?_
      refine pwG_40_0 X hK hP mF_X1_26 dX1_isOpen_50 ?_
      refine pwG_1_7 X hK hP mF_X1_105 dX1_isOpen_53 ?_
      refine lv_iload_n hx hb dX1_isOpen_56 rfl (lv_at hl 1 rfl) ?_
      obtain ⟨hg, h⟩ := gd_elim h
      refine pwL_8 X hK hP hg dX1_isOpen_57 ?_
      refine lv_aload_n hx hb dX1_isOpen_58 rfl (lv_at hl 0 rfl) ?_
      refine pwG_40_1 X hK hP mF_X1_30 dX1_isOpen_59 ?_
      refine pwG_12_3 X hK hP mF_X1_108 dX1_isOpen_62 ?_
      refine lv_icmp_le (tgt := 72) hx hb dX1_isOpen_65 (by decide) (fun hc => ?_) (fun hc => ?_)
      · replace h := ift hc h
        refine lv_iconst (v := 0) hx hb dX1_isOpen_72 (by decide) ?_
        cases h
        exact mpr_z X hK hP hD hS rfl rfl dX1_isOpen_73
      · replace h := iff_ hc h
        refine lv_iconst (v := 1) hx hb dX1_isOpen_68 (by decide) ?_
        refine lv_goto (tgt := 73) hx hb dX1_isOpen_69 (by decide) ?_
        cases h
        exact mpr_z X hK hP hD hS rfl rfl dX1_isOpen_73
  · replace h := ift hc h
    refine lv_aload_n hx hb dX1_isOpen_6 rfl (lv_at hl 0 rfl) ?_
    refine pwG_40_0 X hK hP mF_X1_26 dX1_isOpen_7 ?_
    refine pwG_1_0 X hK hP mF_X1_99 dX1_isOpen_10 ?_
    refine lv_aload_n hx hb dX1_isOpen_13 rfl (lv_at hl 0 rfl) ?_
    refine pwG_40_1 X hK hP mF_X1_30 dX1_isOpen_14 ?_
    refine pwG_12_2 X hK hP mF_X1_56 dX1_isOpen_17 ?_
    obtain ⟨hg, h⟩ := gd_elim h
    refine pwL_2 X hK hP hg dX1_isOpen_20 ?_
    refine lv_if_ne (tgt := 28) hx hb dX1_isOpen_21 (by decide) (fun hc => ?_) (fun hc => ?_)
    · replace h := iff_ hc h
      refine lv_iconst (v := 0) hx hb dX1_isOpen_28 (by decide) ?_
      cases h
      exact mpr_z X hK hP hD hS rfl rfl dX1_isOpen_29
    · replace h := ift hc h
      refine lv_iconst (v := 1) hx hb dX1_isOpen_24 (by decide) ?_
      refine lv_goto (tgt := 29) hx hb dX1_isOpen_25 (by decide) ?_
      cases h
      exact mpr_z X hK hP hD hS rfl rfl dX1_isOpen_29
def f_X1_pieceBehind (x : PD) (p1 : Int32) : Option (Int32) :=
  if p1 = ((100 : Int32)) then
  some (rI x 386)
  else
  gd (inR p1 100) (some (rA x 9 (Int32.toNatClampNeg p1)))
set_option maxHeartbeats 4000000 in
set_option maxRecDepth 100000 in
theorem c_X1_pieceBehind (l : Launch) (D : va_G) (y : CY) (a : Nat → Nat) {x : PD} {r : Int32} {p1 : Int32} (h : f_X1_pieceBehind x p1 = some r) : mpM l D y yX1_pieceBehind cX1_pieceBehind 2 (some .int) { frames := 0, cells := 0, slots := 0, locals := 0 } (pw y a x) (pw y a x) [.ref (a 40), .int p1] (some (.int r)) := by
  refine mpM.mk (own := RX1) (by decide) rfl (Nat.le_of_ble_eq_true rfl) ?_
  intro p e s m below meth c A ls X hK hA hP hD hl
  have hS : va_S A s.heap s.heap [] := va_S.rf
  obtain ⟨⟨hx, hb, hml, hown, hts⟩, hr, hlk⟩ := id X
  have hl : lv_has ls 2 [(0, .ref (a 40)), (1, .int p1)] := hl
  unfold f_X1_pieceBehind at h
  refine lv_iload_n hx hb dX1_pieceBehind_0 rfl (lv_at hl 1 rfl) ?_
  refine lv_bipush (v := 100) hx hb dX1_pieceBehind_1 (by decide) ?_
  refine lv_icmp_ne (tgt := 16) hx hb dX1_pieceBehind_3 (by decide) (fun hc => ?_) (fun hc => ?_)
  · replace h := iff_ hc h
    refine lv_aload_n hx hb dX1_pieceBehind_16 rfl (lv_at hl 0 rfl) ?_
    refine pwG_40_0 X hK hP mF_X1_26 dX1_pieceBehind_17 ?_
    refine pwG_1_8 X hK hP mF_X1_111 dX1_pieceBehind_20 ?_
    refine lv_iload_n hx hb dX1_pieceBehind_23 rfl (lv_at hl 1 rfl) ?_
    obtain ⟨hg, h⟩ := gd_elim h
    refine pwL_9 X hK hP hg dX1_pieceBehind_24 ?_
    cases h
    exact mpr_i X hK hP hD hS rfl dX1_pieceBehind_25
  · replace h := ift hc h
    refine lv_aload_n hx hb dX1_pieceBehind_6 rfl (lv_at hl 0 rfl) ?_
    refine pwG_40_1 X hK hP mF_X1_30 dX1_pieceBehind_7 ?_
    refine pwG_12_2 X hK hP mF_X1_56 dX1_pieceBehind_10 ?_
    refine lv_goto (tgt := 25) hx hb dX1_pieceBehind_13 (by decide) ?_
    cases h
    exact mpr_i X hK hP hD hS rfl dX1_pieceBehind_25
def f_X3_beatOver (x : PD) : Option (Int64) :=
  some ((rL x 385) - (rL x 389))
set_option maxHeartbeats 4000000 in
set_option maxRecDepth 100000 in
theorem c_X3_beatOver (l : Launch) (D : va_G) (y : CY) (a : Nat → Nat) {x : PD} {r : Int64} (h : f_X3_beatOver x = some r) : mpM l D y yX3_beatOver cX3_beatOver 1 (some .long) { frames := 0, cells := 0, slots := 0, locals := 0 } (pw y a x) (pw y a x) [.ref (a 12)] (some (.long r)) := by
  refine mpM.mk (own := RX3) (by decide) rfl (Nat.le_of_ble_eq_true rfl) ?_
  intro p e s m below meth c A ls X hK hA hP hD hl
  have hS : va_S A s.heap s.heap [] := va_S.rf
  obtain ⟨⟨hx, hb, hml, hown, hts⟩, hr, hlk⟩ := id X
  have hl : lv_has ls 1 [(0, .ref (a 12))] := hl
  unfold f_X3_beatOver at h
  refine lv_aload_n hx hb dX3_beatOver_0 rfl (lv_at hl 0 rfl) ?_
  refine pwG_12_1 X hK hP mF_X3_31 dX3_beatOver_1 ?_
  refine lv_aload_n hx hb dX3_beatOver_4 rfl (lv_at hl 0 rfl) ?_
  refine pwG_12_5 X hK hP mF_X3_41 dX3_beatOver_5 ?_
  refine lv_lsub hx hb dX3_beatOver_8 ?_
  cases h
  exact mpr_l X hK hP hD hS rfl dX3_beatOver_9
def f_X1_costBy_b103 (x : PD) (v2 : Int64) (v4 : Int32) (v6 : Int32) (t0 : Int32) : Option (Int64) :=
  gd (inR v4 20) (bn1 (f_X3_beatOver x) fun r2 =>
  some ((v2 + (Int32.toInt64 (((24 : Int32)) * v6))) + ((Int32.toInt64 (rA x 11 (Int32.toNatClampNeg ((1 : Int32))))) * (((Int32.toInt64 (t0 - (rI x 387))) * (Int32.toInt64 (rA x 4 (Int32.toNatClampNeg v4)))) - r2))))
set_option maxHeartbeats 4000000 in
set_option maxRecDepth 100000 in
theorem w_X1_costBy_b103 {p : Program} {l : Launch} {e : Env} {s : State} {m : MethodId} {args : Array Value} {below : List Frame} {meth : Method} {c : Code} {D : va_G} {y : CY} {a : Nat → Nat} {A : Nat → Prop} {x : PD} {r : Int64} (X : mpX p s m args meth c cX1_costBy 10 (some .long) RX1) (hK : va_K D vwCl (mpT y) s) (hA : ∀ q, s.heap.size ≤ q → A q) : ∀ (v2 : Int64) (v4 : Int32) (v6 : Int32) (t0 : Int32) (H : Heap) (locs : List Loc) (ls : Array Slot), va_P D vwCl (pw y a x) H → va_D A (pw y a x) → va_S A s.heap H locs → lv_has ls 10 [(0, .ref (a 40)), (2, .long v2), (4, .int v4), (6, .int v6)] → f_X1_costBy_b103 x v2 v4 v6 t0 = some r → W p l e { frames := 1, cells := 0, slots := 0, locals := 21 } s m args below meth c H locs 0 0 (MQ below (mpC D y A (pw y a x) (some (.long r))) args s 0 0 A) (F0 m 103 ls [.int t0]) := by
  obtain ⟨⟨hx, hb, hml, hown, hts⟩, hr, hlk⟩ := id X
  intro v2 v4 v6 t0 H locs ls hP hD hS hl h
  unfold f_X1_costBy_b103 at h
  refine lv_istore (lv' := [(7, .int t0), (0, .ref (a 40)), (2, .long v2), (4, .int v4), (6, .int v6)]) hx hb dX1_costBy_103 hl (by decide) rfl (fun ls hl => ?_)
  refine lv_iload hx hb dX1_costBy_105 (lv_at hl 0 rfl) ?_
  refine lv_aload_n hx hb dX1_costBy_107 rfl (lv_at hl 1 rfl) ?_
  refine pwG_40_1 X hK hP mF_X1_30 dX1_costBy_108 ?_
  refine pwG_12_3 X hK hP mF_X1_108 dX1_costBy_111 ?_
  refine lv_isub hx hb dX1_costBy_114 ?_
  refine lv_i2l (v := Int32.toInt64 (t0 - (rI x 387))) hx hb dX1_costBy_115 rfl ?_
  refine lv_aload_n hx hb dX1_costBy_116 rfl (lv_at hl 1 rfl) ?_
  refine pwG_40_0 X hK hP mF_X1_26 dX1_costBy_117 ?_
  refine pwG_1_2 X hK hP mF_X1_124 dX1_costBy_120 ?_
  refine lv_iload hx hb dX1_costBy_123 (lv_at hl 3 rfl) ?_
  obtain ⟨hg, h⟩ := gd_elim h
  refine pwL_4 X hK hP hg dX1_costBy_125 ?_
  refine lv_i2l (v := Int32.toInt64 (rA x 4 (Int32.toNatClampNeg v4))) hx hb dX1_costBy_126 rfl ?_
  refine lv_lmul hx hb dX1_costBy_127 ?_
  refine lv_aload_n hx hb dX1_costBy_128 rfl (lv_at hl 1 rfl) ?_
  refine pwG_40_1 X hK hP mF_X1_30 dX1_costBy_129 ?_
  obtain ⟨r2, hr0, h⟩ := bn1_elim h
  refine mp_call1 (As := []) (rest := [.long ((Int32.toInt64 (t0 - (rI x 387))) * (Int32.toInt64 (rA x 4 (Int32.toNatClampNeg v4))))]) X (c_X3_beatOver l D y a hr0) (mp_cw (k := 0) hts mM_X1_127 mI_X3_beatOver mS_X3_beatOver mN_X3 mC_X3_beatOver rfl rfl (by decide +kernel) ⟨Nat.le_of_ble_eq_true rfl, Nat.le_of_ble_eq_true rfl⟩) hK hP hD hS hA 12 pwC_12 rfl rfl hl.1 rfl (Nat.le_of_ble_eq_true rfl) dX1_costBy_132 ⟨Nat.zero_le _, Nat.zero_le _⟩ (fun H locs hP hD hS => ?_)
  refine lv_lsub hx hb dX1_costBy_135 ?_
  refine lv_lstore (lv' := [(8, .long (((Int32.toInt64 (t0 - (rI x 387))) * (Int32.toInt64 (rA x 4 (Int32.toNatClampNeg v4)))) - r2)), (7, .int t0), (0, .ref (a 40)), (2, .long v2), (4, .int v4), (6, .int v6)]) hx hb dX1_costBy_136 hl (by decide) rfl (fun ls hl => ?_)
  refine lv_lload_n hx hb dX1_costBy_138 rfl (lv_at hl 3 rfl) ?_
  refine lv_bipush (v := 24) hx hb dX1_costBy_139 (by decide) ?_
  refine lv_iload hx hb dX1_costBy_141 (lv_at hl 5 rfl) ?_
  refine lv_imul hx hb dX1_costBy_143 ?_
  refine lv_i2l (v := Int32.toInt64 (((24 : Int32)) * v6)) hx hb dX1_costBy_144 rfl ?_
  refine lv_ladd hx hb dX1_costBy_145 ?_
  refine lv_aload_n hx hb dX1_costBy_146 rfl (lv_at hl 2 rfl) ?_
  refine pwG_40_0 X hK hP mF_X1_26 dX1_costBy_147 ?_
  refine pwG_1_11 X hK hP mF_X1_64 dX1_costBy_150 ?_
  refine lv_iconst (v := 1) hx hb dX1_costBy_153 (by decide) ?_
  refine pwL_11 X hK hP (by decide) dX1_costBy_154 ?_
  refine lv_i2l (v := Int32.toInt64 (rA x 11 (Int32.toNatClampNeg ((1 : Int32))))) hx hb dX1_costBy_155 rfl ?_
  refine lv_lload hx hb dX1_costBy_156 (lv_at hl 0 rfl) ?_
  refine lv_lmul hx hb dX1_costBy_158 ?_
  refine lv_ladd hx hb dX1_costBy_159 ?_
  cases h
  exact mpr_l X hK hP hD hS rfl dX1_costBy_160
def f_X1_costBy_b74 (x : PD) (v1 : Int32) (v2 : Int64) (v4 : Int32) (v5 : Int32) (t0 : Int32) : Option (Int64) :=
  if v5 = 0 then
  (gd (inR v1 100) ((f_X1_costBy_b103 x v2 v4 t0 (rA x 8 (Int32.toNatClampNeg v1)))))
  else
  gd (inR v4 20) ((f_X1_costBy_b103 x v2 v4 t0 (rA x 3 (Int32.toNatClampNeg v4))))
set_option maxHeartbeats 4000000 in
set_option maxRecDepth 100000 in
theorem w_X1_costBy_b74 {p : Program} {l : Launch} {e : Env} {s : State} {m : MethodId} {args : Array Value} {below : List Frame} {meth : Method} {c : Code} {D : va_G} {y : CY} {a : Nat → Nat} {A : Nat → Prop} {x : PD} {r : Int64} (X : mpX p s m args meth c cX1_costBy 10 (some .long) RX1) (hK : va_K D vwCl (mpT y) s) (hA : ∀ q, s.heap.size ≤ q → A q) : ∀ (v1 : Int32) (v2 : Int64) (v4 : Int32) (v5 : Int32) (t0 : Int32) (H : Heap) (locs : List Loc) (ls : Array Slot), va_P D vwCl (pw y a x) H → va_D A (pw y a x) → va_S A s.heap H locs → lv_has ls 10 [(0, .ref (a 40)), (1, .int v1), (2, .long v2), (4, .int v4), (5, .int v5)] → f_X1_costBy_b74 x v1 v2 v4 v5 t0 = some r → W p l e { frames := 1, cells := 0, slots := 0, locals := 21 } s m args below meth c H locs 0 0 (MQ below (mpC D y A (pw y a x) (some (.long r))) args s 0 0 A) (F0 m 74 ls [.int t0]) := by
  obtain ⟨⟨hx, hb, hml, hown, hts⟩, hr, hlk⟩ := id X
  intro v1 v2 v4 v5 t0 H locs ls hP hD hS hl h
  unfold f_X1_costBy_b74 at h
  refine lv_istore (lv' := [(6, .int t0), (0, .ref (a 40)), (1, .int v1), (2, .long v2), (4, .int v4), (5, .int v5)]) hx hb dX1_costBy_74 hl (by decide) rfl (fun ls hl => ?_)
  refine lv_iload hx hb dX1_costBy_76 (lv_at hl 5 rfl) ?_
  refine lv_if_eq (tgt := 94) hx hb dX1_costBy_78 (by decide) (fun hc => ?_) (fun hc => ?_)
  · replace h := ift hc h
    refine lv_aload_n hx hb dX1_costBy_94 rfl (lv_at hl 1 rfl) ?_
    refine pwG_40_0 X hK hP mF_X1_26 dX1_costBy_95 ?_
    refine pwG_1_7 X hK hP mF_X1_105 dX1_costBy_98 ?_
    refine lv_iload_n hx hb dX1_costBy_101 rfl (lv_at hl 2 rfl) ?_
    obtain ⟨hg, h⟩ := gd_elim h
    refine pwL_8 X hK hP hg dX1_costBy_102 ?_
    exact w_X1_costBy_b103 X hK hA v2 v4 t0 (rA x 8 (Int32.toNatClampNeg v1)) _ _ _ hP hD hS (lv_sub hl [1, 3, 4, 0] rfl) h
  · replace h := iff_ hc h
    refine lv_aload_n hx hb dX1_costBy_81 rfl (lv_at hl 1 rfl) ?_
    refine pwG_40_0 X hK hP mF_X1_26 dX1_costBy_82 ?_
    refine pwG_1_1 X hK hP mF_X1_121 dX1_costBy_85 ?_
    refine lv_iload hx hb dX1_costBy_88 (lv_at hl 4 rfl) ?_
    obtain ⟨hg, h⟩ := gd_elim h
    refine pwL_3 X hK hP hg dX1_costBy_90 ?_
    refine lv_goto (tgt := 103) hx hb dX1_costBy_91 (by decide) ?_
    exact w_X1_costBy_b103 X hK hA v2 v4 t0 (rA x 3 (Int32.toNatClampNeg v4)) _ _ _ hP hD hS (lv_sub hl [1, 3, 4, 0] rfl) h
def f_X1_costBy_b46 (x : PD) (v1 : Int32) (v2 : Int64) (v4 : Int32) (t0 : Int32) : Option (Int64) :=
  if t0 = 0 then
  (gd (inR v1 100) ((f_X1_costBy_b74 x v1 v2 v4 t0 (rA x 10 (Int32.toNatClampNeg v1)))))
  else
  (f_X1_costBy_b74 x v1 v2 v4 t0 (rA x 11 (Int32.toNatClampNeg ((0 : Int32)))))
set_option maxHeartbeats 4000000 in
set_option maxRecDepth 100000 in
theorem w_X1_costBy_b46 {p : Program} {l : Launch} {e : Env} {s : State} {m : MethodId} {args : Array Value} {below : List Frame} {meth : Method} {c : Code} {D : va_G} {y : CY} {a : Nat → Nat} {A : Nat → Prop} {x : PD} {r : Int64} (X : mpX p s m args meth c cX1_costBy 10 (some .long) RX1) (hK : va_K D vwCl (mpT y) s) (hA : ∀ q, s.heap.size ≤ q → A q) : ∀ (v1 : Int32) (v2 : Int64) (v4 : Int32) (t0 : Int32) (H : Heap) (locs : List Loc) (ls : Array Slot), va_P D vwCl (pw y a x) H → va_D A (pw y a x) → va_S A s.heap H locs → lv_has ls 10 [(0, .ref (a 40)), (1, .int v1), (2, .long v2), (4, .int v4)] → f_X1_costBy_b46 x v1 v2 v4 t0 = some r → W p l e { frames := 1, cells := 0, slots := 0, locals := 21 } s m args below meth c H locs 0 0 (MQ below (mpC D y A (pw y a x) (some (.long r))) args s 0 0 A) (F0 m 46 ls [.int t0]) := by
  obtain ⟨⟨hx, hb, hml, hown, hts⟩, hr, hlk⟩ := id X
  intro v1 v2 v4 t0 H locs ls hP hD hS hl h
  unfold f_X1_costBy_b46 at h
  refine lv_istore (lv' := [(5, .int t0), (0, .ref (a 40)), (1, .int v1), (2, .long v2), (4, .int v4)]) hx hb dX1_costBy_46 hl (by decide) rfl (fun ls hl => ?_)
  refine lv_iload hx hb dX1_costBy_48 (lv_at hl 0 rfl) ?_
  refine lv_if_eq (tgt := 65) hx hb dX1_costBy_50 (by decide) (fun hc => ?_) (fun hc => ?_)
  · replace h := ift hc h
    refine lv_aload_n hx hb dX1_costBy_65 rfl (lv_at hl 1 rfl) ?_
    refine pwG_40_0 X hK hP mF_X1_26 dX1_costBy_66 ?_
    refine pwG_1_9 X hK hP mF_X1_118 dX1_costBy_69 ?_
    refine lv_iload_n hx hb dX1_costBy_72 rfl (lv_at hl 2 rfl) ?_
    obtain ⟨hg, h⟩ := gd_elim h
    refine pwL_10 X hK hP hg dX1_costBy_73 ?_
    exact w_X1_costBy_b74 X hK hA v1 v2 v4 t0 (rA x 10 (Int32.toNatClampNeg v1)) _ _ _ hP hD hS (lv_sub hl [1, 2, 3, 4, 0] rfl) h
  · replace h := iff_ hc h
    refine lv_aload_n hx hb dX1_costBy_53 rfl (lv_at hl 1 rfl) ?_
    refine pwG_40_0 X hK hP mF_X1_26 dX1_costBy_54 ?_
    refine pwG_1_11 X hK hP mF_X1_64 dX1_costBy_57 ?_
    refine lv_iconst (v := 0) hx hb dX1_costBy_60 (by decide) ?_
    refine pwL_11 X hK hP (by decide) dX1_costBy_61 ?_
    refine lv_goto (tgt := 74) hx hb dX1_costBy_62 (by decide) ?_
    exact w_X1_costBy_b74 X hK hA v1 v2 v4 t0 (rA x 11 (Int32.toNatClampNeg ((0 : Int32)))) _ _ _ hP hD hS (lv_sub hl [1, 2, 3, 4, 0] rfl) h
def f_X1_costBy (x : PD) (p1 : Int32) : Option (Int64) :=
  bn1 (f_X1_pieceBehind x p1) fun r1 =>
  gd (inR r1 20) (if (lg_cmp (rB x 42 (Int32.toNatClampNeg r1)) ((-1 : Int64))) = 0 then
  some ((-1 : Int64))
  else
  if p1 = ((100 : Int32)) then
  (f_X1_costBy_b46 x p1 (rB x 42 (Int32.toNatClampNeg r1)) (rI x 386) ((1 : Int32)))
  else
  (f_X1_costBy_b46 x p1 (rB x 42 (Int32.toNatClampNeg r1)) (rI x 386) ((0 : Int32))))
set_option maxHeartbeats 4000000 in
set_option maxRecDepth 100000 in
theorem c_X1_costBy (l : Launch) (D : va_G) (y : CY) (a : Nat → Nat) {x : PD} {r : Int64} {p1 : Int32} (h : f_X1_costBy x p1 = some r) : mpM l D y yX1_costBy cX1_costBy 10 (some .long) { frames := 1, cells := 0, slots := 0, locals := 21 } (pw y a x) (pw y a x) [.ref (a 40), .int p1] (some (.long r)) := by
  refine mpM.mk (own := RX1) (by decide) rfl (Nat.le_of_ble_eq_true rfl) ?_
  intro p e s m below meth c A ls X hK hA hP hD hl
  have hS : va_S A s.heap s.heap [] := va_S.rf
  obtain ⟨⟨hx, hb, hml, hown, hts⟩, hr, hlk⟩ := id X
  have hl : lv_has ls 10 [(0, .ref (a 40)), (1, .int p1)] := hl
  unfold f_X1_costBy at h
  refine lv_aload_n hx hb dX1_costBy_0 rfl (lv_at hl 0 rfl) ?_
  refine pwG_40_2 X hK hP mF_X1_12 dX1_costBy_1 ?_
  refine pwG_41_0 X hK hP mF_X1_114 dX1_costBy_4 ?_
  refine lv_aload_n hx hb dX1_costBy_7 rfl (lv_at hl 0 rfl) ?_
  refine lv_iload_n hx hb dX1_costBy_8 rfl (lv_at hl 1 rfl) ?_
  obtain ⟨r1, hr0, h⟩ := bn1_elim h
  refine mp_call1 (As := [.int p1]) (rest := [.ref (a 42)]) X (c_X1_pieceBehind l D y a hr0) (mp_cw (k := 1) hts mM_X1_81 mI_X1_pieceBehind mS_X1_pieceBehind mN_X1 mC_X1_pieceBehind rfl rfl (by decide +kernel) ⟨Nat.le_of_ble_eq_true rfl, Nat.le_of_ble_eq_true rfl⟩) hK hP hD hS hA 40 pwC_40 rfl rfl hl.1 rfl (Nat.le_of_ble_eq_true rfl) dX1_costBy_9 ⟨Nat.zero_le _, Nat.zero_le _⟩ (fun H locs hP hD hS => ?_)
  obtain ⟨hg, h⟩ := gd_elim h
  refine pwL_42 X hK hP hg dX1_costBy_12 ?_
  refine lv_lstore_n (lv' := [(2, .long (rB x 42 (Int32.toNatClampNeg r1))), (0, .ref (a 40)), (1, .int p1)]) hx hb dX1_costBy_13 rfl hl (by decide) rfl (fun ls hl => ?_)
  refine lv_lload_n hx hb dX1_costBy_14 rfl (lv_at hl 0 rfl) ?_
  refine lv_ldc2 (v := (-1)) hx hb hown (hts _ mK_X1_47) dX1_costBy_15 ?_
  refine W.lcmp hx hb dX1_costBy_18 ?_
  refine lv_if_ne (tgt := 26) hx hb dX1_costBy_19 (by decide) (fun hc => ?_) (fun hc => ?_)
  · replace h := iff_ hc h
    refine lv_aload_n hx hb dX1_costBy_26 rfl (lv_at hl 1 rfl) ?_
    refine pwG_40_1 X hK hP mF_X1_30 dX1_costBy_27 ?_
    refine pwG_12_2 X hK hP mF_X1_56 dX1_costBy_30 ?_
    refine lv_istore (lv' := [(4, .int (rI x 386)), (2, .long (rB x 42 (Int32.toNatClampNeg r1))), (0, .ref (a 40)), (1, .int p1)]) hx hb dX1_costBy_33 hl (by decide) rfl (fun ls hl => ?_)
    refine lv_iload_n hx hb dX1_costBy_35 rfl (lv_at hl 3 rfl) ?_
    refine lv_bipush (v := 100) hx hb dX1_costBy_36 (by decide) ?_
    refine lv_icmp_ne (tgt := 45) hx hb dX1_costBy_38 (by decide) (fun hc => ?_) (fun hc => ?_)
    · replace h := iff_ hc h
      refine lv_iconst (v := 0) hx hb dX1_costBy_45 (by decide) ?_
      exact w_X1_costBy_b46 X hK hA p1 (rB x 42 (Int32.toNatClampNeg r1)) (rI x 386) ((0 : Int32)) _ _ _ hP hD hS (lv_sub hl [2, 3, 1, 0] rfl) h
    · replace h := ift hc h
      refine lv_iconst (v := 1) hx hb dX1_costBy_41 (by decide) ?_
      refine lv_goto (tgt := 46) hx hb dX1_costBy_42 (by decide) ?_
      exact w_X1_costBy_b46 X hK hA p1 (rB x 42 (Int32.toNatClampNeg r1)) (rI x 386) ((1 : Int32)) _ _ _ hP hD hS (lv_sub hl [2, 3, 1, 0] rfl) h
  · replace h := ift hc h
    refine lv_ldc2 (v := (-1)) hx hb hown (hts _ mK_X1_47) dX1_costBy_22 ?_
    cases h
    exact mpr_l X hK hP hD hS rfl dX1_costBy_25
def f_X4_isBetter (x : PD) (p1 : Int64) (p2 : Int32) (p3 : Int64) (p4 : Int32) : Option (Int32) :=
  if (lg_cmp p3 ((-1 : Int64))) = 0 then
  (some ((1 : Int32)))
  else
  if (lg_cmp p1 p3) < 0 then
  (some ((1 : Int32)))
  else
  if (lg_cmp p1 p3) = 0 then
  (if p4 ≤ p2 then
  (some ((0 : Int32)))
  else
  some ((1 : Int32)))
  else
  some ((0 : Int32))
set_option maxHeartbeats 4000000 in
set_option maxRecDepth 100000 in
theorem c_X4_isBetter (l : Launch) (D : va_G) (y : CY) (a : Nat → Nat) {x : PD} {r : Int32} {p1 : Int64} {p2 : Int32} {p3 : Int64} {p4 : Int32} (h : f_X4_isBetter x p1 p2 p3 p4 = some r) : mpM l D y yX4_isBetter cX4_isBetter 6 (some .boolean) { frames := 0, cells := 0, slots := 0, locals := 0 } (pw y a x) (pw y a x) [.long p1, .int p2, .long p3, .int p4] (some (.int r)) := by
  refine mpM.mk (own := RX4) (by decide) rfl (Nat.le_of_ble_eq_true rfl) ?_
  intro p e s m below meth c A ls X hK hA hP hD hl
  have hS : va_S A s.heap s.heap [] := va_S.rf
  obtain ⟨⟨hx, hb, hml, hown, hts⟩, hr, hlk⟩ := id X
  have hl : lv_has ls 6 [(0, .long p1), (2, .int p2), (3, .long p3), (5, .int p4)] := hl
  unfold f_X4_isBetter at h
  refine lv_lload_n hx hb dX4_isBetter_0 rfl (lv_at hl 2 rfl) ?_
  refine lv_ldc2 (v := (-1)) hx hb hown (hts _ mK_X4_29) dX4_isBetter_1 ?_
  refine W.lcmp hx hb dX4_isBetter_4 ?_
  refine lv_if_eq (tgt := 26) hx hb dX4_isBetter_5 (by decide) (fun hc => ?_) (fun hc => ?_)
  · replace h := ift hc h
    refine lv_iconst (v := 1) hx hb dX4_isBetter_26 (by decide) ?_
    refine lv_goto (tgt := 31) hx hb dX4_isBetter_27 (by decide) ?_
    cases h
    exact mpr_z X hK hP hD hS rfl rfl dX4_isBetter_31
  · replace h := iff_ hc h
    refine lv_lload_n hx hb dX4_isBetter_8 rfl (lv_at hl 0 rfl) ?_
    refine lv_lload_n hx hb dX4_isBetter_9 rfl (lv_at hl 2 rfl) ?_
    refine W.lcmp hx hb dX4_isBetter_10 ?_
    refine lv_if_lt (tgt := 26) hx hb dX4_isBetter_11 (by decide) (fun hc => ?_) (fun hc => ?_)
    · replace h := ift hc h
      refine lv_iconst (v := 1) hx hb dX4_isBetter_26 (by decide) ?_
      refine lv_goto (tgt := 31) hx hb dX4_isBetter_27 (by decide) ?_
      cases h
      exact mpr_z X hK hP hD hS rfl rfl dX4_isBetter_31
    · replace h := iff_ hc h
      refine lv_lload_n hx hb dX4_isBetter_14 rfl (lv_at hl 0 rfl) ?_
      refine lv_lload_n hx hb dX4_isBetter_15 rfl (lv_at hl 2 rfl) ?_
      refine W.lcmp hx hb dX4_isBetter_16 ?_
      refine lv_if_ne (tgt := 30) hx hb dX4_isBetter_17 (by decide) (fun hc => ?_) (fun hc => ?_)
      · replace h := iff_ hc h
        refine lv_iconst (v := 0) hx hb dX4_isBetter_30 (by decide) ?_
        cases h
        exact mpr_z X hK hP hD hS rfl rfl dX4_isBetter_31
      · replace h := ift hc h
        refine lv_iload_n hx hb dX4_isBetter_20 rfl (lv_at hl 1 rfl) ?_
        refine lv_iload hx hb dX4_isBetter_21 (lv_at hl 3 rfl) ?_
        refine lv_icmp_ge (tgt := 30) hx hb dX4_isBetter_23 (by decide) (fun hc => ?_) (fun hc => ?_)
        · replace h := ift hc h
          refine lv_iconst (v := 0) hx hb dX4_isBetter_30 (by decide) ?_
          cases h
          exact mpr_z X hK hP hD hS rfl rfl dX4_isBetter_31
        · replace h := iff_ hc h
          refine lv_iconst (v := 1) hx hb dX4_isBetter_26 (by decide) ?_
          refine lv_goto (tgt := 31) hx hb dX4_isBetter_27 (by decide) ?_
          cases h
          exact mpr_z X hK hP hD hS rfl rfl dX4_isBetter_31
def f_X1_firstStep_b43 (x : PD) (k12 : Int32 → Int64 → Int32 → Int32 → Option (Int32)) (v1 : Int32) (v2 : Int64) (v4 : Int32) (v5 : Int32) (t0 : Int32) : Option (Int32) :=
  bn1 (f_X1_isOpen x t0) fun r1 =>
  if r1 = 0 then
  (k12 v1 v2 v4 (v5 + 1))
  else
  bn1 (f_X1_costBy x t0) fun r2 =>
  bn1 (f_X1_pieceBehind x t0) fun r3 =>
  gd (inR r3 20) (if (lg_cmp r2 ((-1 : Int64))) = 0 then
  ((k12 v1 v2 v4 (v5 + 1)))
  else
  bn1 (f_X4_isBetter x r2 (rA x 43 (Int32.toNatClampNeg r3)) v2 v4) fun r4 =>
  if r4 = 0 then
  ((k12 v1 v2 v4 (v5 + 1)))
  else
  (k12 t0 r2 (rA x 43 (Int32.toNatClampNeg r3)) (v5 + 1)))
set_option maxHeartbeats 4000000 in
set_option maxRecDepth 100000 in
theorem w_X1_firstStep_b43 {p : Program} {l : Launch} {e : Env} {s : State} {m : MethodId} {args : Array Value} {below : List Frame} {meth : Method} {c : Code} {D : va_G} {y : CY} {a : Nat → Nat} {A : Nat → Prop} {x : PD} {r : Int32} {k12 : Int32 → Int64 → Int32 → Int32 → Option (Int32)} (X : mpX p s m args meth c cX1_firstStep 10 (some .int) RX1) (hK : va_K D vwCl (mpT y) s) (hA : ∀ q, s.heap.size ≤ q → A q) (hk12 : ∀ (v1 : Int32) (v2 : Int64) (v4 : Int32) (v5 : Int32) (H : Heap) (locs : List Loc) (ls : Array Slot), va_P D vwCl (pw y a x) H → va_D A (pw y a x) → va_S A s.heap H locs → lv_has ls 10 [(0, .ref (a 40)), (1, .int v1), (2, .long v2), (4, .int v4), (5, .int v5)] → k12 v1 v2 v4 v5 = some r → W p l e { frames := 2, cells := 0, slots := 0, locals := 50 } s m args below meth c H locs 0 0 (MQ below (mpC D y A (pw y a x) (some (.int r))) args s 0 0 A) (F0 m 12 ls [])) : ∀ (v1 : Int32) (v2 : Int64) (v4 : Int32) (v5 : Int32) (t0 : Int32) (H : Heap) (locs : List Loc) (ls : Array Slot), va_P D vwCl (pw y a x) H → va_D A (pw y a x) → va_S A s.heap H locs → lv_has ls 10 [(0, .ref (a 40)), (1, .int v1), (2, .long v2), (4, .int v4), (5, .int v5)] → f_X1_firstStep_b43 x k12 v1 v2 v4 v5 t0 = some r → W p l e { frames := 2, cells := 0, slots := 0, locals := 50 } s m args below meth c H locs 0 0 (MQ below (mpC D y A (pw y a x) (some (.int r))) args s 0 0 A) (F0 m 43 ls [.int t0]) := by
  obtain ⟨⟨hx, hb, hml, hown, hts⟩, hr, hlk⟩ := id X
  intro v1 v2 v4 v5 t0 H locs ls hP hD hS hl h
  unfold f_X1_firstStep_b43 at h
  refine lv_istore (lv' := [(6, .int t0), (0, .ref (a 40)), (1, .int v1), (2, .long v2), (4, .int v4), (5, .int v5)]) hx hb dX1_firstStep_43 hl (by decide) rfl (fun ls hl => ?_)
  refine lv_aload_n hx hb dX1_firstStep_45 rfl (lv_at hl 1 rfl) ?_
  refine lv_iload hx hb dX1_firstStep_46 (lv_at hl 0 rfl) ?_
  obtain ⟨r1, hr0, h⟩ := bn1_elim h
  refine mp_call1 (As := [.int t0]) (rest := []) X (c_X1_isOpen l D y a hr0) (mp_cw (k := 1) hts mM_X1_90 mI_X1_isOpen mS_X1_isOpen mN_X1 mC_X1_isOpen rfl rfl (by decide +kernel) ⟨Nat.le_of_ble_eq_true rfl, Nat.le_of_ble_eq_true rfl⟩) hK hP hD hS hA 40 pwC_40 rfl rfl hl.1 rfl (Nat.le_of_ble_eq_true rfl) dX1_firstStep_48 ⟨Nat.zero_le _, Nat.zero_le _⟩ (fun H locs hP hD hS => ?_)
  refine lv_if_ne (tgt := 57) hx hb dX1_firstStep_51 (by decide) (fun hc => ?_) (fun hc => ?_)
  · replace h := iff_ hc h
    refine lv_aload_n hx hb dX1_firstStep_57 rfl (lv_at hl 1 rfl) ?_
    refine lv_iload hx hb dX1_firstStep_58 (lv_at hl 0 rfl) ?_
    obtain ⟨r2, hr0, h⟩ := bn1_elim h
    refine mp_call1 (As := [.int t0]) (rest := []) X (c_X1_costBy l D y a hr0) (mp_cw (k := 1) hts mM_X1_49 mI_X1_costBy mS_X1_costBy mN_X1 mC_X1_costBy rfl rfl (by decide +kernel) ⟨Nat.le_of_ble_eq_true rfl, Nat.le_of_ble_eq_true rfl⟩) hK hP hD hS hA 40 pwC_40 rfl rfl hl.1 rfl (Nat.le_of_ble_eq_true rfl) dX1_firstStep_60 ⟨Nat.zero_le _, Nat.zero_le _⟩ (fun H locs hP hD hS => ?_)
    refine lv_lstore (lv' := [(7, .long r2), (6, .int t0), (0, .ref (a 40)), (1, .int v1), (2, .long v2), (4, .int v4), (5, .int v5)]) hx hb dX1_firstStep_63 hl (by decide) rfl (fun ls hl => ?_)
    refine lv_aload_n hx hb dX1_firstStep_65 rfl (lv_at hl 2 rfl) ?_
    refine pwG_40_2 X hK hP mF_X1_12 dX1_firstStep_66 ?_
    refine pwG_41_1 X hK hP mF_X1_94 dX1_firstStep_69 ?_
    refine lv_aload_n hx hb dX1_firstStep_72 rfl (lv_at hl 2 rfl) ?_
    refine lv_iload hx hb dX1_firstStep_73 (lv_at hl 1 rfl) ?_
    obtain ⟨r3, hr0, h⟩ := bn1_elim h
    refine mp_call1 (As := [.int t0]) (rest := [.ref (a 43)]) X (c_X1_pieceBehind l D y a hr0) (mp_cw (k := 1) hts mM_X1_81 mI_X1_pieceBehind mS_X1_pieceBehind mN_X1 mC_X1_pieceBehind rfl rfl (by decide +kernel) ⟨Nat.le_of_ble_eq_true rfl, Nat.le_of_ble_eq_true rfl⟩) hK hP hD hS hA 40 pwC_40 rfl rfl hl.1 rfl (Nat.le_of_ble_eq_true rfl) dX1_firstStep_75 ⟨Nat.zero_le _, Nat.zero_le _⟩ (fun H locs hP hD hS => ?_)
    obtain ⟨hg, h⟩ := gd_elim h
    refine pwL_43 X hK hP hg dX1_firstStep_78 ?_
    refine lv_istore (lv' := [(9, .int (rA x 43 (Int32.toNatClampNeg r3))), (7, .long r2), (6, .int t0), (0, .ref (a 40)), (1, .int v1), (2, .long v2), (4, .int v4), (5, .int v5)]) hx hb dX1_firstStep_79 hl (by decide) rfl (fun ls hl => ?_)
    refine lv_lload hx hb dX1_firstStep_81 (lv_at hl 1 rfl) ?_
    refine lv_ldc2 (v := (-1)) hx hb hown (hts _ mK_X1_47) dX1_firstStep_83 ?_
    refine W.lcmp hx hb dX1_firstStep_86 ?_
    refine lv_if_eq (tgt := 113) hx hb dX1_firstStep_87 (by decide) (fun hc => ?_) (fun hc => ?_)
    · replace h := ift hc h
      refine lv_iinc (v := v5 + 1) (lv' := [(5, .int (v5 + 1)), (9, .int (rA x 43 (Int32.toNatClampNeg r3))), (7, .long r2), (6, .int t0), (0, .ref (a 40)), (1, .int v1), (2, .long v2), (4, .int v4)]) hx hb dX1_firstStep_113 hl (k := 7) rfl rfl (by decide) rfl (fun ls hl => ?_)
      refine lv_goto (tgt := 12) hx hb dX1_firstStep_116 (by decide) ?_
      exact hk12 v1 v2 v4 (v5 + 1) _ _ _ hP hD hS (lv_sub hl [4, 5, 6, 7, 0] rfl) h
    · replace h := iff_ hc h
      refine lv_lload hx hb dX1_firstStep_90 (lv_at hl 1 rfl) ?_
      refine lv_iload hx hb dX1_firstStep_92 (lv_at hl 0 rfl) ?_
      refine lv_lload_n hx hb dX1_firstStep_94 rfl (lv_at hl 5 rfl) ?_
      refine lv_iload hx hb dX1_firstStep_95 (lv_at hl 6 rfl) ?_
      obtain ⟨r4, hr0, h⟩ := bn1_elim h
      refine mp_callS1 (As := [.long r2, .int (rA x 43 (Int32.toNatClampNeg r3)), .long v2, .int v4]) (rest := []) X (c_X4_isBetter l D y a hr0) (mp_cs (k := 4) hts mM_X1_95 mT_X4_isBetter mN_X4 mC_X4_isBetter rfl rfl (by decide +kernel) ⟨Nat.le_of_ble_eq_true rfl, Nat.le_of_ble_eq_true rfl⟩) hK hP hD hS hA rfl hl.1 rfl (Nat.le_of_ble_eq_true rfl) dX1_firstStep_97 ⟨Nat.zero_le _, Nat.zero_le _⟩ (fun H locs hP hD hS => ?_)
      refine lv_if_eq (tgt := 113) hx hb dX1_firstStep_100 (by decide) (fun hc => ?_) (fun hc => ?_)
      · replace h := ift hc h
        refine lv_iinc (v := v5 + 1) (lv' := [(5, .int (v5 + 1)), (9, .int (rA x 43 (Int32.toNatClampNeg r3))), (7, .long r2), (6, .int t0), (0, .ref (a 40)), (1, .int v1), (2, .long v2), (4, .int v4)]) hx hb dX1_firstStep_113 hl (k := 7) rfl rfl (by decide) rfl (fun ls hl => ?_)
        refine lv_goto (tgt := 12) hx hb dX1_firstStep_116 (by decide) ?_
        exact hk12 v1 v2 v4 (v5 + 1) _ _ _ hP hD hS (lv_sub hl [4, 5, 6, 7, 0] rfl) h
      · replace h := iff_ hc h
        refine lv_iload hx hb dX1_firstStep_103 (lv_at hl 2 rfl) ?_
        refine lv_istore_n (lv' := [(1, .int t0), (9, .int (rA x 43 (Int32.toNatClampNeg r3))), (7, .long r2), (6, .int t0), (0, .ref (a 40)), (2, .long v2), (4, .int v4), (5, .int v5)]) hx hb dX1_firstStep_105 rfl hl (by decide) rfl (fun ls hl => ?_)
        refine lv_lload hx hb dX1_firstStep_106 (lv_at hl 2 rfl) ?_
        refine lv_lstore_n (lv' := [(2, .long r2), (1, .int t0), (9, .int (rA x 43 (Int32.toNatClampNeg r3))), (7, .long r2), (6, .int t0), (0, .ref (a 40)), (4, .int v4), (5, .int v5)]) hx hb dX1_firstStep_108 rfl hl (by decide) rfl (fun ls hl => ?_)
        refine lv_iload hx hb dX1_firstStep_109 (lv_at hl 2 rfl) ?_
        refine lv_istore (lv' := [(4, .int (rA x 43 (Int32.toNatClampNeg r3))), (2, .long r2), (1, .int t0), (9, .int (rA x 43 (Int32.toNatClampNeg r3))), (7, .long r2), (6, .int t0), (0, .ref (a 40)), (5, .int v5)]) hx hb dX1_firstStep_111 hl (by decide) rfl (fun ls hl => ?_)
        refine lv_iinc (v := v5 + 1) (lv' := [(5, .int (v5 + 1)), (4, .int (rA x 43 (Int32.toNatClampNeg r3))), (2, .long r2), (1, .int t0), (9, .int (rA x 43 (Int32.toNatClampNeg r3))), (7, .long r2), (6, .int t0), (0, .ref (a 40))]) hx hb dX1_firstStep_113 hl (k := 7) rfl rfl (by decide) rfl (fun ls hl => ?_)
        refine lv_goto (tgt := 12) hx hb dX1_firstStep_116 (by decide) ?_
        exact hk12 t0 r2 (rA x 43 (Int32.toNatClampNeg r3)) (v5 + 1) _ _ _ hP hD hS (lv_sub hl [7, 3, 2, 1, 0] rfl) h
  · replace h := ift hc h
    refine lv_goto (tgt := 113) hx hb dX1_firstStep_54 (by decide) ?_
    refine lv_iinc (v := v5 + 1) (lv' := [(5, .int (v5 + 1)), (6, .int t0), (0, .ref (a 40)), (1, .int v1), (2, .long v2), (4, .int v4)]) hx hb dX1_firstStep_113 hl (k := 5) rfl rfl (by decide) rfl (fun ls hl => ?_)
    refine lv_goto (tgt := 12) hx hb dX1_firstStep_116 (by decide) ?_
    exact hk12 v1 v2 v4 (v5 + 1) _ _ _ hP hD hS (lv_sub hl [2, 3, 4, 5, 0] rfl) h
def f_X1_firstStep_b12 (x : PD) : Nat → Int32 → Int64 → Int32 → Int32 → Option (Int32)
  | 0, _, _, _, _ => none
  | n + 1, v1, v2, v4, v5 =>
    if (rI x 42) < v5 then
  (some v1)
  else
  if (rI x 42) ≤ v5 then
  ((f_X1_firstStep_b43 x (f_X1_firstStep_b12 x n) v1 v2 v4 v5 ((100 : Int32))))
  else
  (f_X1_firstStep_b43 x (f_X1_firstStep_b12 x n) v1 v2 v4 v5 v5)
set_option maxHeartbeats 4000000 in
set_option maxRecDepth 100000 in
theorem w_X1_firstStep_b12 {p : Program} {l : Launch} {e : Env} {s : State} {m : MethodId} {args : Array Value} {below : List Frame} {meth : Method} {c : Code} {D : va_G} {y : CY} {a : Nat → Nat} {A : Nat → Prop} {x : PD} {r : Int32} (X : mpX p s m args meth c cX1_firstStep 10 (some .int) RX1) (hK : va_K D vwCl (mpT y) s) (hA : ∀ q, s.heap.size ≤ q → A q) : ∀ (n : Nat), ∀ (v1 : Int32) (v2 : Int64) (v4 : Int32) (v5 : Int32) (H : Heap) (locs : List Loc) (ls : Array Slot), va_P D vwCl (pw y a x) H → va_D A (pw y a x) → va_S A s.heap H locs → lv_has ls 10 [(0, .ref (a 40)), (1, .int v1), (2, .long v2), (4, .int v4), (5, .int v5)] → f_X1_firstStep_b12 x n v1 v2 v4 v5 = some r → W p l e { frames := 2, cells := 0, slots := 0, locals := 50 } s m args below meth c H locs 0 0 (MQ below (mpC D y A (pw y a x) (some (.int r))) args s 0 0 A) (F0 m 12 ls []) := by
  obtain ⟨⟨hx, hb, hml, hown, hts⟩, hr, hlk⟩ := id X
  intro n
  induction n with
  | zero =>
    intro v1 v2 v4 v5 H locs ls hP hD hS hl h
    rw [f_X1_firstStep_b12] at h
    exact nons h
  | succ n ih =>
    intro v1 v2 v4 v5 H locs ls hP hD hS hl h
    rw [f_X1_firstStep_b12] at h
    refine lv_iload hx hb dX1_firstStep_12 (lv_at hl 4 rfl) ?_
    refine lv_aload_n hx hb dX1_firstStep_14 rfl (lv_at hl 0 rfl) ?_
    refine pwG_40_0 X hK hP mF_X1_26 dX1_firstStep_15 ?_
    refine pwG_1_10 X hK hP mF_X1_87 dX1_firstStep_18 ?_
    refine lv_icmp_gt (tgt := 119) hx hb dX1_firstStep_21 (by decide) (fun hc => ?_) (fun hc => ?_)
    · replace h := ift hc h
      refine lv_iload_n hx hb dX1_firstStep_119 rfl (lv_at hl 1 rfl) ?_
      cases h
      exact mpr_i X hK hP hD hS rfl dX1_firstStep_120
    · replace h := iff_ hc h
      refine lv_iload hx hb dX1_firstStep_24 (lv_at hl 4 rfl) ?_
      refine lv_aload_n hx hb dX1_firstStep_26 rfl (lv_at hl 0 rfl) ?_
      refine pwG_40_0 X hK hP mF_X1_26 dX1_firstStep_27 ?_
      refine pwG_1_10 X hK hP mF_X1_87 dX1_firstStep_30 ?_
      refine lv_icmp_ge (tgt := 41) hx hb dX1_firstStep_33 (by decide) (fun hc => ?_) (fun hc => ?_)
      · replace h := ift hc h
        refine lv_bipush (v := 100) hx hb dX1_firstStep_41 (by decide) ?_
        exact w_X1_firstStep_b43 X hK hA ih v1 v2 v4 v5 ((100 : Int32)) _ _ _ hP hD hS (lv_sub hl [0, 1, 2, 3, 4] rfl) h
      · replace h := iff_ hc h
        refine lv_iload hx hb dX1_firstStep_36 (lv_at hl 4 rfl) ?_
        refine lv_goto (tgt := 43) hx hb dX1_firstStep_38 (by decide) ?_
        exact w_X1_firstStep_b43 X hK hA ih v1 v2 v4 v5 v5 _ _ _ hP hD hS (lv_sub hl [0, 1, 2, 3, 4] rfl) h
def f_X1_firstStep (x : PD) : Option (Int32) :=
  (f_X1_firstStep_b12 x FU ((-1 : Int32)) ((-1 : Int64)) ((0 : Int32)) ((0 : Int32)))
set_option maxHeartbeats 4000000 in
set_option maxRecDepth 100000 in
theorem c_X1_firstStep (l : Launch) (D : va_G) (y : CY) (a : Nat → Nat) {x : PD} {r : Int32} (h : f_X1_firstStep x = some r) : mpM l D y yX1_firstStep cX1_firstStep 10 (some .int) { frames := 2, cells := 0, slots := 0, locals := 50 } (pw y a x) (pw y a x) [.ref (a 40)] (some (.int r)) := by
  refine mpM.mk (own := RX1) (by decide) rfl (Nat.le_of_ble_eq_true rfl) ?_
  intro p e s m below meth c A ls X hK hA hP hD hl
  have hS : va_S A s.heap s.heap [] := va_S.rf
  obtain ⟨⟨hx, hb, hml, hown, hts⟩, hr, hlk⟩ := id X
  have hl : lv_has ls 10 [(0, .ref (a 40))] := hl
  unfold f_X1_firstStep at h
  refine lv_iconst (v := -1) hx hb dX1_firstStep_0 (by decide) ?_
  refine lv_istore_n (lv' := [(1, .int ((-1 : Int32))), (0, .ref (a 40))]) hx hb dX1_firstStep_1 rfl hl (by decide) rfl (fun ls hl => ?_)
  refine lv_ldc2 (v := (-1)) hx hb hown (hts _ mK_X1_47) dX1_firstStep_2 ?_
  refine lv_lstore_n (lv' := [(2, .long ((-1 : Int64))), (1, .int ((-1 : Int32))), (0, .ref (a 40))]) hx hb dX1_firstStep_5 rfl hl (by decide) rfl (fun ls hl => ?_)
  refine lv_iconst (v := 0) hx hb dX1_firstStep_6 (by decide) ?_
  refine lv_istore (lv' := [(4, .int ((0 : Int32))), (2, .long ((-1 : Int64))), (1, .int ((-1 : Int32))), (0, .ref (a 40))]) hx hb dX1_firstStep_7 hl (by decide) rfl (fun ls hl => ?_)
  refine lv_iconst (v := 0) hx hb dX1_firstStep_9 (by decide) ?_
  refine lv_istore (lv' := [(5, .int ((0 : Int32))), (4, .int ((0 : Int32))), (2, .long ((-1 : Int64))), (1, .int ((-1 : Int32))), (0, .ref (a 40))]) hx hb dX1_firstStep_10 hl (by decide) rfl (fun ls hl => ?_)
  exact w_X1_firstStep_b12 X hK hA FU ((-1 : Int32)) ((-1 : Int64)) ((0 : Int32)) ((0 : Int32)) _ _ _ hP hD hS (lv_sub hl [4, 3, 2, 1, 0] rfl) h
def f_X1_addStep (x : PD) (p1 : Int32) : Option (PD) :=
  if ((20 : Int32)) ≤ (rI x 1285) then
  (some x)
  else
  gd (inR (rI x 1285) 20) (letv (wA x 44 (upd (rA x 44) (Int32.toNatClampNeg (rI x 1285)) p1)) fun x1 =>
  letv (wI x1 1285 ((rI x1 1285) + ((1 : Int32)))) fun x2 =>
  some x2)
set_option maxHeartbeats 4000000 in
set_option maxRecDepth 100000 in
theorem c_X1_addStep (l : Launch) (D : va_G) (y : CY) (a : Nat → Nat) {x : PD} {x' : PD} {p1 : Int32} (h : f_X1_addStep x p1 = some x') : mpM l D y yX1_addStep cX1_addStep 2 none { frames := 0, cells := 0, slots := 0, locals := 0 } (pw y a x) (pw y a x') [.ref (a 40), .int p1] none := by
  refine mpM.mk (own := RX1) (by decide) rfl (Nat.le_of_ble_eq_true rfl) ?_
  intro p e s m below meth c A ls X hK hA hP hD hl
  have hS : va_S A s.heap s.heap [] := va_S.rf
  obtain ⟨⟨hx, hb, hml, hown, hts⟩, hr, hlk⟩ := id X
  have hl : lv_has ls 2 [(0, .ref (a 40)), (1, .int p1)] := hl
  unfold f_X1_addStep at h
  refine lv_aload_n hx hb dX1_addStep_0 rfl (lv_at hl 0 rfl) ?_
  refine pwG_40_5 X hK hP mF_X1_34 dX1_addStep_1 ?_
  refine lv_bipush (v := 20) hx hb dX1_addStep_4 (by decide) ?_
  refine lv_icmp_ge (tgt := 29) hx hb dX1_addStep_6 (by decide) (fun hc => ?_) (fun hc => ?_)
  · replace h := ift hc h
    cases h
    exact mpr_v X hK hP hD hS dX1_addStep_29
  · replace h := iff_ hc h
    refine lv_aload_n hx hb dX1_addStep_9 rfl (lv_at hl 0 rfl) ?_
    refine pwG_40_4 X hK hP mF_X1_22 dX1_addStep_10 ?_
    refine lv_aload_n hx hb dX1_addStep_13 rfl (lv_at hl 0 rfl) ?_
    refine pwG_40_5 X hK hP mF_X1_34 dX1_addStep_14 ?_
    refine lv_iload_n hx hb dX1_addStep_17 rfl (lv_at hl 1 rfl) ?_
    obtain ⟨hg, h⟩ := gd_elim h
    obtain ⟨x1, e1, h⟩ := letv_elim h
    refine pwS_44 X hK hP hD hS hg e1 dX1_addStep_18 (fun H locs hP hD hS => ?_)
    refine lv_aload_n hx hb dX1_addStep_19 rfl (lv_at hl 0 rfl) ?_
    refine lv_dup hx hb dX1_addStep_20 rfl ?_
    refine pwG_40_5 X hK hP mF_X1_34 dX1_addStep_21 ?_
    refine lv_iconst (v := 1) hx hb dX1_addStep_24 (by decide) ?_
    refine lv_iadd hx hb dX1_addStep_25 ?_
    obtain ⟨x2, e1, h⟩ := letv_elim h
    refine pwP_40_5 X hK hP hD hS mF_X1_34 e1 dX1_addStep_26 (fun H locs hP hD hS => ?_)
    cases h
    exact mpr_v X hK hP hD hS dX1_addStep_29
def f_X2_timeTo (x : PD) (p1 : Int32) : Option (Int64) :=
  gd (inR p1 100) (gd (inR p1 100) (gd (inR (rA x 7 (Int32.toNatClampNeg p1)) 20) (some ((Int32.toInt64 (rA x 8 (Int32.toNatClampNeg p1))) * (Int32.toInt64 (rA x 4 (Int32.toNatClampNeg (rA x 7 (Int32.toNatClampNeg p1)))))))))
set_option maxHeartbeats 4000000 in
set_option maxRecDepth 100000 in
theorem c_X2_timeTo (l : Launch) (D : va_G) (y : CY) (a : Nat → Nat) {x : PD} {r : Int64} {p1 : Int32} (h : f_X2_timeTo x p1 = some r) : mpM l D y yX2_timeTo cX2_timeTo 2 (some .long) { frames := 0, cells := 0, slots := 0, locals := 0 } (pw y a x) (pw y a x) [.ref (a 1), .int p1] (some (.long r)) := by
  refine mpM.mk (own := RX2) (by decide) rfl (Nat.le_of_ble_eq_true rfl) ?_
  intro p e s m below meth c A ls X hK hA hP hD hl
  have hS : va_S A s.heap s.heap [] := va_S.rf
  obtain ⟨⟨hx, hb, hml, hown, hts⟩, hr, hlk⟩ := id X
  have hl : lv_has ls 2 [(0, .ref (a 1)), (1, .int p1)] := hl
  unfold f_X2_timeTo at h
  refine lv_aload_n hx hb dX2_timeTo_0 rfl (lv_at hl 0 rfl) ?_
  refine pwG_1_7 X hK hP mF_X2_30 dX2_timeTo_1 ?_
  refine lv_iload_n hx hb dX2_timeTo_4 rfl (lv_at hl 1 rfl) ?_
  obtain ⟨hg, h⟩ := gd_elim h
  refine pwL_8 X hK hP hg dX2_timeTo_5 ?_
  refine lv_i2l (v := Int32.toInt64 (rA x 8 (Int32.toNatClampNeg p1))) hx hb dX2_timeTo_6 rfl ?_
  refine lv_aload_n hx hb dX2_timeTo_7 rfl (lv_at hl 0 rfl) ?_
  refine pwG_1_2 X hK hP mF_X2_18 dX2_timeTo_8 ?_
  refine lv_aload_n hx hb dX2_timeTo_11 rfl (lv_at hl 0 rfl) ?_
  refine pwG_1_6 X hK hP mF_X2_27 dX2_timeTo_12 ?_
  refine lv_iload_n hx hb dX2_timeTo_15 rfl (lv_at hl 1 rfl) ?_
  obtain ⟨hg, h⟩ := gd_elim h
  refine pwL_7 X hK hP hg dX2_timeTo_16 ?_
  obtain ⟨hg, h⟩ := gd_elim h
  refine pwL_4 X hK hP hg dX2_timeTo_17 ?_
  refine lv_i2l (v := Int32.toInt64 (rA x 4 (Int32.toNatClampNeg (rA x 7 (Int32.toNatClampNeg p1))))) hx hb dX2_timeTo_18 rfl ?_
  refine lv_lmul hx hb dX2_timeTo_19 ?_
  cases h
  exact mpr_l X hK hP hD hS rfl dX2_timeTo_20
def f_X1_firstOnTable_b2 (x : PD) : Nat → Int32 → Int32 → Option (Int32)
  | 0, _, _ => none
  | n + 1, v1, v2 =>
    if (rI x 42) ≤ v2 then
  (some ((-1 : Int32)))
  else
  gd (inR v2 100) (gd (inR v2 100) (bn1 (f_X2_timeTo x v2) fun r1 =>
  gd (inR v2 100) (if (rA x 7 (Int32.toNatClampNeg v2)) = v1 then
  gd (inR (rA x 9 (Int32.toNatClampNeg v2)) 20) (if (lg_cmp (rB x 42 (Int32.toNatClampNeg (rA x 9 (Int32.toNatClampNeg v2)))) ((-1 : Int64))) = 0 then
  (((f_X1_firstOnTable_b2 x n) v1 (v2 + 1)))
  else
  gd (inR (rA x 9 (Int32.toNatClampNeg v2)) 20) (gd (inR v1 20) (if (lg_cmp ((rB x 42 (Int32.toNatClampNeg (rA x 9 (Int32.toNatClampNeg v2)))) + ((Int32.toInt64 (((24 : Int32)) * (rA x 10 (Int32.toNatClampNeg v2)))) + ((Int32.toInt64 (rA x 11 (Int32.toNatClampNeg ((1 : Int32))))) * r1))) (rB x 42 (Int32.toNatClampNeg v1))) = 0 then
  gd (inR (rA x 9 (Int32.toNatClampNeg v2)) 20) (gd (inR v1 20) (if ((rA x 43 (Int32.toNatClampNeg (rA x 9 (Int32.toNatClampNeg v2)))) + ((1 : Int32))) = (rA x 43 (Int32.toNatClampNeg v1)) then
  some v2
  else
  ((f_X1_firstOnTable_b2 x n) v1 (v2 + 1))))
  else
  ((f_X1_firstOnTable_b2 x n) v1 (v2 + 1)))))
  else
  ((f_X1_firstOnTable_b2 x n) v1 (v2 + 1)))))
set_option maxHeartbeats 4000000 in
set_option maxRecDepth 100000 in
theorem w_X1_firstOnTable_b2 {p : Program} {l : Launch} {e : Env} {s : State} {m : MethodId} {args : Array Value} {below : List Frame} {meth : Method} {c : Code} {D : va_G} {y : CY} {a : Nat → Nat} {A : Nat → Prop} {x : PD} {r : Int32} (X : mpX p s m args meth c cX1_firstOnTable 6 (some .int) RX1) (hK : va_K D vwCl (mpT y) s) (hA : ∀ q, s.heap.size ≤ q → A q) : ∀ (n : Nat), ∀ (v1 : Int32) (v2 : Int32) (H : Heap) (locs : List Loc) (ls : Array Slot), va_P D vwCl (pw y a x) H → va_D A (pw y a x) → va_S A s.heap H locs → lv_has ls 6 [(0, .ref (a 40)), (1, .int v1), (2, .int v2)] → f_X1_firstOnTable_b2 x n v1 v2 = some r → W p l e { frames := 1, cells := 0, slots := 0, locals := 21 } s m args below meth c H locs 0 0 (MQ below (mpC D y A (pw y a x) (some (.int r))) args s 0 0 A) (F0 m 2 ls []) := by
  obtain ⟨⟨hx, hb, hml, hown, hts⟩, hr, hlk⟩ := id X
  intro n
  induction n with
  | zero =>
    intro v1 v2 H locs ls hP hD hS hl h
    rw [f_X1_firstOnTable_b2] at h
    exact nons h
  | succ n ih =>
    intro v1 v2 H locs ls hP hD hS hl h
    rw [f_X1_firstOnTable_b2] at h
    refine lv_iload_n hx hb dX1_firstOnTable_2 rfl (lv_at hl 2 rfl) ?_
    refine lv_aload_n hx hb dX1_firstOnTable_3 rfl (lv_at hl 0 rfl) ?_
    refine pwG_40_0 X hK hP mF_X1_26 dX1_firstOnTable_4 ?_
    refine pwG_1_10 X hK hP mF_X1_87 dX1_firstOnTable_7 ?_
    refine lv_icmp_ge (tgt := 143) hx hb dX1_firstOnTable_10 (by decide) (fun hc => ?_) (fun hc => ?_)
    · replace h := ift hc h
      refine lv_iconst (v := -1) hx hb dX1_firstOnTable_143 (by decide) ?_
      cases h
      exact mpr_i X hK hP hD hS rfl dX1_firstOnTable_144
    · replace h := iff_ hc h
      refine lv_aload_n hx hb dX1_firstOnTable_13 rfl (lv_at hl 0 rfl) ?_
      refine pwG_40_0 X hK hP mF_X1_26 dX1_firstOnTable_14 ?_
      refine pwG_1_8 X hK hP mF_X1_111 dX1_firstOnTable_17 ?_
      refine lv_iload_n hx hb dX1_firstOnTable_20 rfl (lv_at hl 2 rfl) ?_
      obtain ⟨hg, h⟩ := gd_elim h
      refine pwL_9 X hK hP hg dX1_firstOnTable_21 ?_
      refine lv_istore_n (lv' := [(3, .int (rA x 9 (Int32.toNatClampNeg v2))), (0, .ref (a 40)), (1, .int v1), (2, .int v2)]) hx hb dX1_firstOnTable_22 rfl hl (by decide) rfl (fun ls hl => ?_)
      refine lv_bipush (v := 24) hx hb dX1_firstOnTable_23 (by decide) ?_
      refine lv_aload_n hx hb dX1_firstOnTable_25 rfl (lv_at hl 1 rfl) ?_
      refine pwG_40_0 X hK hP mF_X1_26 dX1_firstOnTable_26 ?_
      refine pwG_1_9 X hK hP mF_X1_118 dX1_firstOnTable_29 ?_
      refine lv_iload_n hx hb dX1_firstOnTable_32 rfl (lv_at hl 3 rfl) ?_
      obtain ⟨hg, h⟩ := gd_elim h
      refine pwL_10 X hK hP hg dX1_firstOnTable_33 ?_
      refine lv_imul hx hb dX1_firstOnTable_34 ?_
      refine lv_i2l (v := Int32.toInt64 (((24 : Int32)) * (rA x 10 (Int32.toNatClampNeg v2)))) hx hb dX1_firstOnTable_35 rfl ?_
      refine lv_aload_n hx hb dX1_firstOnTable_36 rfl (lv_at hl 1 rfl) ?_
      refine pwG_40_0 X hK hP mF_X1_26 dX1_firstOnTable_37 ?_
      refine pwG_1_11 X hK hP mF_X1_64 dX1_firstOnTable_40 ?_
      refine lv_iconst (v := 1) hx hb dX1_firstOnTable_43 (by decide) ?_
      refine pwL_11 X hK hP (by decide) dX1_firstOnTable_44 ?_
      refine lv_i2l (v := Int32.toInt64 (rA x 11 (Int32.toNatClampNeg ((1 : Int32))))) hx hb dX1_firstOnTable_45 rfl ?_
      refine lv_aload_n hx hb dX1_firstOnTable_46 rfl (lv_at hl 1 rfl) ?_
      refine pwG_40_0 X hK hP mF_X1_26 dX1_firstOnTable_47 ?_
      refine lv_iload_n hx hb dX1_firstOnTable_50 rfl (lv_at hl 3 rfl) ?_
      obtain ⟨r1, hr0, h⟩ := bn1_elim h
      refine mp_call1 (As := [.int v2]) (rest := [.long (Int32.toInt64 (rA x 11 (Int32.toNatClampNeg ((1 : Int32))))), .long (Int32.toInt64 (((24 : Int32)) * (rA x 10 (Int32.toNatClampNeg v2))))]) X (c_X2_timeTo l D y a hr0) (mp_cw (k := 1) hts mM_X1_134 mI_X2_timeTo mS_X2_timeTo mN_X2 mC_X2_timeTo rfl rfl (by decide +kernel) ⟨Nat.le_of_ble_eq_true rfl, Nat.le_of_ble_eq_true rfl⟩) hK hP hD hS hA 1 pwC_1 rfl rfl hl.1 rfl (Nat.le_of_ble_eq_true rfl) dX1_firstOnTable_51 ⟨Nat.zero_le _, Nat.zero_le _⟩ (fun H locs hP hD hS => ?_)
      refine lv_lmul hx hb dX1_firstOnTable_54 ?_
      refine lv_ladd hx hb dX1_firstOnTable_55 ?_
      refine lv_lstore (lv' := [(4, .long ((Int32.toInt64 (((24 : Int32)) * (rA x 10 (Int32.toNatClampNeg v2)))) + ((Int32.toInt64 (rA x 11 (Int32.toNatClampNeg ((1 : Int32))))) * r1))), (3, .int (rA x 9 (Int32.toNatClampNeg v2))), (0, .ref (a 40)), (1, .int v1), (2, .int v2)]) hx hb dX1_firstOnTable_56 hl (by decide) rfl (fun ls hl => ?_)
      refine lv_aload_n hx hb dX1_firstOnTable_58 rfl (lv_at hl 2 rfl) ?_
      refine pwG_40_0 X hK hP mF_X1_26 dX1_firstOnTable_59 ?_
      refine pwG_1_6 X hK hP mF_X1_102 dX1_firstOnTable_62 ?_
      refine lv_iload_n hx hb dX1_firstOnTable_65 rfl (lv_at hl 4 rfl) ?_
      obtain ⟨hg, h⟩ := gd_elim h
      refine pwL_7 X hK hP hg dX1_firstOnTable_66 ?_
      refine lv_iload_n hx hb dX1_firstOnTable_67 rfl (lv_at hl 3 rfl) ?_
      refine lv_icmp_ne (tgt := 137) hx hb dX1_firstOnTable_68 (by decide) (fun hc => ?_) (fun hc => ?_)
      · replace h := iff_ hc h
        refine lv_iinc (v := v2 + 1) (lv' := [(2, .int (v2 + 1)), (4, .long ((Int32.toInt64 (((24 : Int32)) * (rA x 10 (Int32.toNatClampNeg v2)))) + ((Int32.toInt64 (rA x 11 (Int32.toNatClampNeg ((1 : Int32))))) * r1))), (3, .int (rA x 9 (Int32.toNatClampNeg v2))), (0, .ref (a 40)), (1, .int v1)]) hx hb dX1_firstOnTable_137 hl (k := 4) rfl rfl (by decide) rfl (fun ls hl => ?_)
        refine lv_goto (tgt := 2) hx hb dX1_firstOnTable_140 (by decide) ?_
        exact ih v1 (v2 + 1) _ _ _ hP hD hS (lv_sub hl [3, 4, 0] rfl) h
      · replace h := ift hc h
        refine lv_aload_n hx hb dX1_firstOnTable_71 rfl (lv_at hl 2 rfl) ?_
        refine pwG_40_2 X hK hP mF_X1_12 dX1_firstOnTable_72 ?_
        refine pwG_41_0 X hK hP mF_X1_114 dX1_firstOnTable_75 ?_
        refine lv_iload_n hx hb dX1_firstOnTable_78 rfl (lv_at hl 1 rfl) ?_
        obtain ⟨hg, h⟩ := gd_elim h
        refine pwL_42 X hK hP hg dX1_firstOnTable_79 ?_
        refine lv_ldc2 (v := (-1)) hx hb hown (hts _ mK_X1_47) dX1_firstOnTable_80 ?_
        refine W.lcmp hx hb dX1_firstOnTable_83 ?_
        refine lv_if_eq (tgt := 137) hx hb dX1_firstOnTable_84 (by decide) (fun hc => ?_) (fun hc => ?_)
        · replace h := ift hc h
          refine lv_iinc (v := v2 + 1) (lv' := [(2, .int (v2 + 1)), (4, .long ((Int32.toInt64 (((24 : Int32)) * (rA x 10 (Int32.toNatClampNeg v2)))) + ((Int32.toInt64 (rA x 11 (Int32.toNatClampNeg ((1 : Int32))))) * r1))), (3, .int (rA x 9 (Int32.toNatClampNeg v2))), (0, .ref (a 40)), (1, .int v1)]) hx hb dX1_firstOnTable_137 hl (k := 4) rfl rfl (by decide) rfl (fun ls hl => ?_)
          refine lv_goto (tgt := 2) hx hb dX1_firstOnTable_140 (by decide) ?_
          exact ih v1 (v2 + 1) _ _ _ hP hD hS (lv_sub hl [3, 4, 0] rfl) h
        · replace h := iff_ hc h
          refine lv_aload_n hx hb dX1_firstOnTable_87 rfl (lv_at hl 2 rfl) ?_
          refine pwG_40_2 X hK hP mF_X1_12 dX1_firstOnTable_88 ?_
          refine pwG_41_0 X hK hP mF_X1_114 dX1_firstOnTable_91 ?_
          refine lv_iload_n hx hb dX1_firstOnTable_94 rfl (lv_at hl 1 rfl) ?_
          obtain ⟨hg, h⟩ := gd_elim h
          refine pwL_42 X hK hP hg dX1_firstOnTable_95 ?_
          refine lv_lload hx hb dX1_firstOnTable_96 (lv_at hl 0 rfl) ?_
          refine lv_ladd hx hb dX1_firstOnTable_98 ?_
          refine lv_aload_n hx hb dX1_firstOnTable_99 rfl (lv_at hl 2 rfl) ?_
          refine pwG_40_2 X hK hP mF_X1_12 dX1_firstOnTable_100 ?_
          refine pwG_41_0 X hK hP mF_X1_114 dX1_firstOnTable_103 ?_
          refine lv_iload_n hx hb dX1_firstOnTable_106 rfl (lv_at hl 3 rfl) ?_
          obtain ⟨hg, h⟩ := gd_elim h
          refine pwL_42 X hK hP hg dX1_firstOnTable_107 ?_
          refine W.lcmp hx hb dX1_firstOnTable_108 ?_
          refine lv_if_ne (tgt := 137) hx hb dX1_firstOnTable_109 (by decide) (fun hc => ?_) (fun hc => ?_)
          · replace h := iff_ hc h
            refine lv_iinc (v := v2 + 1) (lv' := [(2, .int (v2 + 1)), (4, .long ((Int32.toInt64 (((24 : Int32)) * (rA x 10 (Int32.toNatClampNeg v2)))) + ((Int32.toInt64 (rA x 11 (Int32.toNatClampNeg ((1 : Int32))))) * r1))), (3, .int (rA x 9 (Int32.toNatClampNeg v2))), (0, .ref (a 40)), (1, .int v1)]) hx hb dX1_firstOnTable_137 hl (k := 4) rfl rfl (by decide) rfl (fun ls hl => ?_)
            refine lv_goto (tgt := 2) hx hb dX1_firstOnTable_140 (by decide) ?_
            exact ih v1 (v2 + 1) _ _ _ hP hD hS (lv_sub hl [3, 4, 0] rfl) h
          · replace h := ift hc h
            refine lv_aload_n hx hb dX1_firstOnTable_112 rfl (lv_at hl 2 rfl) ?_
            refine pwG_40_2 X hK hP mF_X1_12 dX1_firstOnTable_113 ?_
            refine pwG_41_1 X hK hP mF_X1_94 dX1_firstOnTable_116 ?_
            refine lv_iload_n hx hb dX1_firstOnTable_119 rfl (lv_at hl 1 rfl) ?_
            obtain ⟨hg, h⟩ := gd_elim h
            refine pwL_43 X hK hP hg dX1_firstOnTable_120 ?_
            refine lv_iconst (v := 1) hx hb dX1_firstOnTable_121 (by decide) ?_
            refine lv_iadd hx hb dX1_firstOnTable_122 ?_
            refine lv_aload_n hx hb dX1_firstOnTable_123 rfl (lv_at hl 2 rfl) ?_
            refine pwG_40_2 X hK hP mF_X1_12 dX1_firstOnTable_124 ?_
            refine pwG_41_1 X hK hP mF_X1_94 dX1_firstOnTable_127 ?_
            refine lv_iload_n hx hb dX1_firstOnTable_130 rfl (lv_at hl 3 rfl) ?_
            obtain ⟨hg, h⟩ := gd_elim h
            refine pwL_43 X hK hP hg dX1_firstOnTable_131 ?_
            refine lv_icmp_ne (tgt := 137) hx hb dX1_firstOnTable_132 (by decide) (fun hc => ?_) (fun hc => ?_)
            · replace h := iff_ hc h
              refine lv_iinc (v := v2 + 1) (lv' := [(2, .int (v2 + 1)), (4, .long ((Int32.toInt64 (((24 : Int32)) * (rA x 10 (Int32.toNatClampNeg v2)))) + ((Int32.toInt64 (rA x 11 (Int32.toNatClampNeg ((1 : Int32))))) * r1))), (3, .int (rA x 9 (Int32.toNatClampNeg v2))), (0, .ref (a 40)), (1, .int v1)]) hx hb dX1_firstOnTable_137 hl (k := 4) rfl rfl (by decide) rfl (fun ls hl => ?_)
              refine lv_goto (tgt := 2) hx hb dX1_firstOnTable_140 (by decide) ?_
              exact ih v1 (v2 + 1) _ _ _ hP hD hS (lv_sub hl [3, 4, 0] rfl) h
            · replace h := ift hc h
              refine lv_iload_n hx hb dX1_firstOnTable_135 rfl (lv_at hl 4 rfl) ?_
              cases h
              exact mpr_i X hK hP hD hS rfl dX1_firstOnTable_136
def f_X1_firstOnTable (x : PD) (p1 : Int32) : Option (Int32) :=
  (f_X1_firstOnTable_b2 x FU p1 ((0 : Int32)))
set_option maxHeartbeats 4000000 in
set_option maxRecDepth 100000 in
theorem c_X1_firstOnTable (l : Launch) (D : va_G) (y : CY) (a : Nat → Nat) {x : PD} {r : Int32} {p1 : Int32} (h : f_X1_firstOnTable x p1 = some r) : mpM l D y yX1_firstOnTable cX1_firstOnTable 6 (some .int) { frames := 1, cells := 0, slots := 0, locals := 21 } (pw y a x) (pw y a x) [.ref (a 40), .int p1] (some (.int r)) := by
  refine mpM.mk (own := RX1) (by decide) rfl (Nat.le_of_ble_eq_true rfl) ?_
  intro p e s m below meth c A ls X hK hA hP hD hl
  have hS : va_S A s.heap s.heap [] := va_S.rf
  obtain ⟨⟨hx, hb, hml, hown, hts⟩, hr, hlk⟩ := id X
  have hl : lv_has ls 6 [(0, .ref (a 40)), (1, .int p1)] := hl
  unfold f_X1_firstOnTable at h
  refine lv_iconst (v := 0) hx hb dX1_firstOnTable_0 (by decide) ?_
  refine lv_istore_n (lv' := [(2, .int ((0 : Int32))), (0, .ref (a 40)), (1, .int p1)]) hx hb dX1_firstOnTable_1 rfl hl (by decide) rfl (fun ls hl => ?_)
  exact w_X1_firstOnTable_b2 X hK hA FU p1 ((0 : Int32)) _ _ _ hP hD hS (lv_sub hl [1, 2, 0] rfl) h
def f_X1_followTable_b4 : Nat → PD → Int32 → Int32 → Option (PD)
  | 0, _, _, _ => none
  | n + 1, x, v2, v3 =>
    if ((20 : Int32)) ≤ v3 then
  (some x)
  else
  gd (inR v2 20) (if (rA x 43 (Int32.toNatClampNeg v2)) ≤ 0 then
  (some x)
  else
  bn1 (f_X1_firstOnTable x v2) fun r1 =>
  if r1 = ((-1 : Int32)) then
  some x
  else
  bn1 (f_X1_addStep x r1) fun x2 =>
  gd (inR r1 100) (((f_X1_followTable_b4 n) x2 (rA x2 9 (Int32.toNatClampNeg r1)) (v3 + 1))))
set_option maxHeartbeats 4000000 in
set_option maxRecDepth 100000 in
theorem w_X1_followTable_b4 {p : Program} {l : Launch} {e : Env} {s : State} {m : MethodId} {args : Array Value} {below : List Frame} {meth : Method} {c : Code} {D : va_G} {y : CY} {a : Nat → Nat} {A : Nat → Prop} {x' : PD} (X : mpX p s m args meth c cX1_followTable 5 none RX1) (hK : va_K D vwCl (mpT y) s) (hA : ∀ q, s.heap.size ≤ q → A q) : ∀ (n : Nat), ∀ (x : PD) (v2 : Int32) (v3 : Int32) (H : Heap) (locs : List Loc) (ls : Array Slot), va_P D vwCl (pw y a x) H → va_D A (pw y a x) → va_S A s.heap H locs → lv_has ls 5 [(0, .ref (a 40)), (2, .int v2), (3, .int v3)] → f_X1_followTable_b4 n x v2 v3 = some x' → W p l e { frames := 2, cells := 0, slots := 0, locals := 46 } s m args below meth c H locs 0 0 (MQ below (mpC D y A (pw y a x') none) args s 0 0 A) (F0 m 4 ls []) := by
  obtain ⟨⟨hx, hb, hml, hown, hts⟩, hr, hlk⟩ := id X
  intro n
  induction n with
  | zero =>
    intro x v2 v3 H locs ls hP hD hS hl h
    rw [f_X1_followTable_b4] at h
    exact nons h
  | succ n ih =>
    intro x v2 v3 H locs ls hP hD hS hl h
    rw [f_X1_followTable_b4] at h
    refine lv_iload_n hx hb dX1_followTable_4 rfl (lv_at hl 2 rfl) ?_
    refine lv_bipush (v := 20) hx hb dX1_followTable_5 (by decide) ?_
    refine lv_icmp_ge (tgt := 59) hx hb dX1_followTable_7 (by decide) (fun hc => ?_) (fun hc => ?_)
    · replace h := ift hc h
      cases h
      exact mpr_v X hK hP hD hS dX1_followTable_59
    · replace h := iff_ hc h
      refine lv_aload_n hx hb dX1_followTable_10 rfl (lv_at hl 0 rfl) ?_
      refine pwG_40_2 X hK hP mF_X1_12 dX1_followTable_11 ?_
      refine pwG_41_1 X hK hP mF_X1_94 dX1_followTable_14 ?_
      refine lv_iload_n hx hb dX1_followTable_17 rfl (lv_at hl 1 rfl) ?_
      obtain ⟨hg, h⟩ := gd_elim h
      refine pwL_43 X hK hP hg dX1_followTable_18 ?_
      refine lv_if_le (tgt := 59) hx hb dX1_followTable_19 (by decide) (fun hc => ?_) (fun hc => ?_)
      · replace h := ift hc h
        cases h
        exact mpr_v X hK hP hD hS dX1_followTable_59
      · replace h := iff_ hc h
        refine lv_aload_n hx hb dX1_followTable_22 rfl (lv_at hl 0 rfl) ?_
        refine lv_iload_n hx hb dX1_followTable_23 rfl (lv_at hl 1 rfl) ?_
        obtain ⟨r1, hr0, h⟩ := bn1_elim h
        refine mp_call1 (As := [.int v2]) (rest := []) X (c_X1_firstOnTable l D y a hr0) (mp_cw (k := 1) hts mM_X1_131 mI_X1_firstOnTable mS_X1_firstOnTable mN_X1 mC_X1_firstOnTable rfl rfl (by decide +kernel) ⟨Nat.le_of_ble_eq_true rfl, Nat.le_of_ble_eq_true rfl⟩) hK hP hD hS hA 40 pwC_40 rfl rfl hl.1 rfl (Nat.le_of_ble_eq_true rfl) dX1_followTable_24 ⟨Nat.zero_le _, Nat.zero_le _⟩ (fun H locs hP hD hS => ?_)
        refine lv_istore (lv' := [(4, .int r1), (0, .ref (a 40)), (2, .int v2), (3, .int v3)]) hx hb dX1_followTable_27 hl (by decide) rfl (fun ls hl => ?_)
        refine lv_iload hx hb dX1_followTable_29 (lv_at hl 0 rfl) ?_
        refine lv_iconst (v := -1) hx hb dX1_followTable_31 (by decide) ?_
        refine lv_icmp_ne (tgt := 36) hx hb dX1_followTable_32 (by decide) (fun hc => ?_) (fun hc => ?_)
        · replace h := iff_ hc h
          refine lv_aload_n hx hb dX1_followTable_36 rfl (lv_at hl 1 rfl) ?_
          refine lv_iload hx hb dX1_followTable_37 (lv_at hl 0 rfl) ?_
          obtain ⟨x2, hr0, h⟩ := bn1_elim h
          refine mp_callv (As := [.int r1]) (rest := []) X (c_X1_addStep l D y a hr0) (mp_cw (k := 1) hts mM_X1_77 mI_X1_addStep mS_X1_addStep mN_X1 mC_X1_addStep rfl rfl (by decide +kernel) ⟨Nat.le_of_ble_eq_true rfl, Nat.le_of_ble_eq_true rfl⟩) hK hP hD hS hA 40 pwC_40 rfl rfl hl.1 rfl (Nat.le_of_ble_eq_true rfl) dX1_followTable_39 ⟨Nat.zero_le _, Nat.zero_le _⟩ (fun H locs hP hD hS => ?_)
          refine lv_aload_n hx hb dX1_followTable_42 rfl (lv_at hl 1 rfl) ?_
          refine pwG_40_0 X hK hP mF_X1_26 dX1_followTable_43 ?_
          refine pwG_1_8 X hK hP mF_X1_111 dX1_followTable_46 ?_
          refine lv_iload hx hb dX1_followTable_49 (lv_at hl 0 rfl) ?_
          obtain ⟨hg, h⟩ := gd_elim h
          refine pwL_9 X hK hP hg dX1_followTable_51 ?_
          refine lv_istore_n (lv' := [(2, .int (rA x2 9 (Int32.toNatClampNeg r1))), (4, .int r1), (0, .ref (a 40)), (3, .int v3)]) hx hb dX1_followTable_52 rfl hl (by decide) rfl (fun ls hl => ?_)
          refine lv_iinc (v := v3 + 1) (lv' := [(3, .int (v3 + 1)), (2, .int (rA x2 9 (Int32.toNatClampNeg r1))), (4, .int r1), (0, .ref (a 40))]) hx hb dX1_followTable_53 hl (k := 3) rfl rfl (by decide) rfl (fun ls hl => ?_)
          refine lv_goto (tgt := 4) hx hb dX1_followTable_56 (by decide) ?_
          exact ih x2 (rA x2 9 (Int32.toNatClampNeg r1)) (v3 + 1) _ _ _ hP hD hS (lv_sub hl [3, 1, 0] rfl) h
        · replace h := ift hc h
          cases h
          exact mpr_v X hK hP hD hS dX1_followTable_35
def f_X1_followTable (x : PD) (p1 : Int32) : Option (PD) :=
  (f_X1_followTable_b4 FU x p1 ((1 : Int32)))
set_option maxHeartbeats 4000000 in
set_option maxRecDepth 100000 in
theorem c_X1_followTable (l : Launch) (D : va_G) (y : CY) (a : Nat → Nat) {x : PD} {x' : PD} {p1 : Int32} (h : f_X1_followTable x p1 = some x') : mpM l D y yX1_followTable cX1_followTable 5 none { frames := 2, cells := 0, slots := 0, locals := 46 } (pw y a x) (pw y a x') [.ref (a 40), .int p1] none := by
  refine mpM.mk (own := RX1) (by decide) rfl (Nat.le_of_ble_eq_true rfl) ?_
  intro p e s m below meth c A ls X hK hA hP hD hl
  have hS : va_S A s.heap s.heap [] := va_S.rf
  obtain ⟨⟨hx, hb, hml, hown, hts⟩, hr, hlk⟩ := id X
  have hl : lv_has ls 5 [(0, .ref (a 40)), (1, .int p1)] := hl
  unfold f_X1_followTable at h
  refine lv_iload_n hx hb dX1_followTable_0 rfl (lv_at hl 1 rfl) ?_
  refine lv_istore_n (lv' := [(2, .int p1), (0, .ref (a 40)), (1, .int p1)]) hx hb dX1_followTable_1 rfl hl (by decide) rfl (fun ls hl => ?_)
  refine lv_iconst (v := 1) hx hb dX1_followTable_2 (by decide) ?_
  refine lv_istore_n (lv' := [(3, .int ((1 : Int32))), (2, .int p1), (0, .ref (a 40)), (1, .int p1)]) hx hb dX1_followTable_3 rfl hl (by decide) rfl (fun ls hl => ?_)
  exact w_X1_followTable_b4 X hK hA FU x p1 ((1 : Int32)) _ _ _ hP hD hS (lv_sub hl [2, 1, 0] rfl) h
def f_X4_improve_41_1_b6 : Nat → PD → Int32 → Int32 → Int32 → Int32 → Option (Int32 × PD)
  | 0, _, _, _, _, _ => none
  | n + 1, x, v2, v3, v4, v5 =>
    if (rI x 42) ≤ v5 then
  (gd (isB v4) (some (v4, x)))
  else
  gd (inR v5 100) (gd (inR v5 100) (gd (inR (rA x 9 (Int32.toNatClampNeg v5)) 20) (gd (inR v5 100) (bn1 (f_X2_timeTo x v5) fun r1 =>
  gd (inR (rA x 9 (Int32.toNatClampNeg v5)) 20) (if (lg_cmp (rB x 42 (Int32.toNatClampNeg (rA x 9 (Int32.toNatClampNeg v5)))) ((-1 : Int64))) = 0 then
  (((f_X4_improve_41_1_b6 n) x v2 v3 v4 (v5 + 1)))
  else
  gd (inR (rA x 9 (Int32.toNatClampNeg v5)) 20) (gd (inR (rA x 7 (Int32.toNatClampNeg v5)) 20) (gd (inR (rA x 7 (Int32.toNatClampNeg v5)) 20) (bn1 (f_X4_isBetter x (((rB x 42 (Int32.toNatClampNeg (rA x 9 (Int32.toNatClampNeg v5)))) + (Int32.toInt64 (v2 * (rA x 10 (Int32.toNatClampNeg v5))))) + ((Int32.toInt64 v3) * r1)) ((rA x 43 (Int32.toNatClampNeg (rA x 9 (Int32.toNatClampNeg v5)))) + ((1 : Int32))) (rB x 42 (Int32.toNatClampNeg (rA x 7 (Int32.toNatClampNeg v5)))) (rA x 43 (Int32.toNatClampNeg (rA x 7 (Int32.toNatClampNeg v5))))) fun r2 =>
  if r2 = 0 then
  (((f_X4_improve_41_1_b6 n) x v2 v3 v4 (v5 + 1)))
  else
  gd (inR (rA x 7 (Int32.toNatClampNeg v5)) 20) (letv (wB x 42 (vp_updL (rB x 42) (Int32.toNatClampNeg (rA x 7 (Int32.toNatClampNeg v5))) (((rB x 42 (Int32.toNatClampNeg (rA x 9 (Int32.toNatClampNeg v5)))) + (Int32.toInt64 (v2 * (rA x 10 (Int32.toNatClampNeg v5))))) + ((Int32.toInt64 v3) * r1)))) fun x3 =>
  gd (inR (rA x 9 (Int32.toNatClampNeg v5)) 20) (gd (inR (rA x 7 (Int32.toNatClampNeg v5)) 20) (letv (wA x3 43 (upd (rA x3 43) (Int32.toNatClampNeg (rA x 7 (Int32.toNatClampNeg v5))) ((rA x3 43 (Int32.toNatClampNeg (rA x 9 (Int32.toNatClampNeg v5)))) + ((1 : Int32))))) fun x4 =>
  ((f_X4_improve_41_1_b6 n) x4 v2 v3 ((1 : Int32)) (v5 + 1)))))))))))))
set_option maxHeartbeats 4000000 in
set_option maxRecDepth 100000 in
theorem w_X4_improve_41_1_b6 {p : Program} {l : Launch} {e : Env} {s : State} {m : MethodId} {args : Array Value} {below : List Frame} {meth : Method} {c : Code} {D : va_G} {y : CY} {a : Nat → Nat} {A : Nat → Prop} {x' : PD} {r : Int32} (X : mpX p s m args meth c cX4_improve 10 (some .boolean) RX4) (hK : va_K D vwCl (mpT y) s) (hA : ∀ q, s.heap.size ≤ q → A q) : ∀ (n : Nat), ∀ (x : PD) (v2 : Int32) (v3 : Int32) (v4 : Int32) (v5 : Int32) (H : Heap) (locs : List Loc) (ls : Array Slot), va_P D vwCl (pw y a x) H → va_D A (pw y a x) → va_S A s.heap H locs → lv_has ls 10 [(0, .ref (a 41)), (1, .ref (a 1)), (2, .int v2), (3, .int v3), (4, .int v4), (5, .int v5)] → f_X4_improve_41_1_b6 n x v2 v3 v4 v5 = some (r, x') → W p l e { frames := 1, cells := 0, slots := 0, locals := 25 } s m args below meth c H locs 0 0 (MQ below (mpC D y A (pw y a x') (some (.int r))) args s 0 0 A) (F0 m 6 ls []) := by
  obtain ⟨⟨hx, hb, hml, hown, hts⟩, hr, hlk⟩ := id X
  intro n
  induction n with
  | zero =>
    intro x v2 v3 v4 v5 H locs ls hP hD hS hl h
    rw [f_X4_improve_41_1_b6] at h
    exact nons h
  | succ n ih =>
    intro x v2 v3 v4 v5 H locs ls hP hD hS hl h
    rw [f_X4_improve_41_1_b6] at h
    refine lv_iload hx hb dX4_improve_6 (lv_at hl 5 rfl) ?_
    refine lv_aload_n hx hb dX4_improve_8 rfl (lv_at hl 1 rfl) ?_
    refine pwG_1_10 X hK hP mF_X4_35 dX4_improve_9 ?_
    refine lv_icmp_ge (tgt := 142) hx hb dX4_improve_12 (by decide) (fun hc => ?_) (fun hc => ?_)
    · replace h := ift hc h
      refine lv_iload hx hb dX4_improve_142 (lv_at hl 4 rfl) ?_
      obtain ⟨hg, h⟩ := gd_elim h
      cases h
      exact mpr_z X hK hP hD hS (isB_nar hg) rfl dX4_improve_144
    · replace h := iff_ hc h
      refine lv_aload_n hx hb dX4_improve_15 rfl (lv_at hl 1 rfl) ?_
      refine pwG_1_6 X hK hP mF_X4_38 dX4_improve_16 ?_
      refine lv_iload hx hb dX4_improve_19 (lv_at hl 5 rfl) ?_
      obtain ⟨hg, h⟩ := gd_elim h
      refine pwL_7 X hK hP hg dX4_improve_21 ?_
      refine lv_istore (lv' := [(6, .int (rA x 7 (Int32.toNatClampNeg v5))), (0, .ref (a 41)), (1, .ref (a 1)), (2, .int v2), (3, .int v3), (4, .int v4), (5, .int v5)]) hx hb dX4_improve_22 hl (by decide) rfl (fun ls hl => ?_)
      refine lv_aload_n hx hb dX4_improve_24 rfl (lv_at hl 2 rfl) ?_
      refine pwG_1_8 X hK hP mF_X4_41 dX4_improve_25 ?_
      refine lv_iload hx hb dX4_improve_28 (lv_at hl 6 rfl) ?_
      obtain ⟨hg, h⟩ := gd_elim h
      refine pwL_9 X hK hP hg dX4_improve_30 ?_
      refine lv_istore (lv' := [(7, .int (rA x 9 (Int32.toNatClampNeg v5))), (6, .int (rA x 7 (Int32.toNatClampNeg v5))), (0, .ref (a 41)), (1, .ref (a 1)), (2, .int v2), (3, .int v3), (4, .int v4), (5, .int v5)]) hx hb dX4_improve_31 hl (by decide) rfl (fun ls hl => ?_)
      refine lv_aload_n hx hb dX4_improve_33 rfl (lv_at hl 2 rfl) ?_
      refine pwG_41_0 X hK hP mF_X4_9 dX4_improve_34 ?_
      refine lv_iload hx hb dX4_improve_37 (lv_at hl 0 rfl) ?_
      obtain ⟨hg, h⟩ := gd_elim h
      refine pwL_42 X hK hP hg dX4_improve_39 ?_
      refine lv_iload_n hx hb dX4_improve_40 rfl (lv_at hl 4 rfl) ?_
      refine lv_aload_n hx hb dX4_improve_41 rfl (lv_at hl 3 rfl) ?_
      refine pwG_1_9 X hK hP mF_X4_44 dX4_improve_42 ?_
      refine lv_iload hx hb dX4_improve_45 (lv_at hl 7 rfl) ?_
      obtain ⟨hg, h⟩ := gd_elim h
      refine pwL_10 X hK hP hg dX4_improve_47 ?_
      refine lv_imul hx hb dX4_improve_48 ?_
      refine lv_i2l (v := Int32.toInt64 (v2 * (rA x 10 (Int32.toNatClampNeg v5)))) hx hb dX4_improve_49 rfl ?_
      refine lv_ladd hx hb dX4_improve_50 ?_
      refine lv_iload_n hx hb dX4_improve_51 rfl (lv_at hl 5 rfl) ?_
      refine lv_i2l (v := Int32.toInt64 v3) hx hb dX4_improve_52 rfl ?_
      refine lv_aload_n hx hb dX4_improve_53 rfl (lv_at hl 3 rfl) ?_
      refine lv_iload hx hb dX4_improve_54 (lv_at hl 7 rfl) ?_
      obtain ⟨r1, hr0, h⟩ := bn1_elim h
      refine mp_call1 (As := [.int v5]) (rest := [.long (Int32.toInt64 v3), .long ((rB x 42 (Int32.toNatClampNeg (rA x 9 (Int32.toNatClampNeg v5)))) + (Int32.toInt64 (v2 * (rA x 10 (Int32.toNatClampNeg v5)))))]) X (c_X2_timeTo l D y a hr0) (mp_cw (k := 1) hts mM_X4_47 mI_X2_timeTo mS_X2_timeTo mN_X2 mC_X2_timeTo rfl rfl (by decide +kernel) ⟨Nat.le_of_ble_eq_true rfl, Nat.le_of_ble_eq_true rfl⟩) hK hP hD hS hA 1 pwC_1 rfl rfl hl.1 rfl (Nat.le_of_ble_eq_true rfl) dX4_improve_56 ⟨Nat.zero_le _, Nat.zero_le _⟩ (fun H locs hP hD hS => ?_)
      refine lv_lmul hx hb dX4_improve_59 ?_
      refine lv_ladd hx hb dX4_improve_60 ?_
      refine lv_lstore (lv' := [(8, .long (((rB x 42 (Int32.toNatClampNeg (rA x 9 (Int32.toNatClampNeg v5)))) + (Int32.toInt64 (v2 * (rA x 10 (Int32.toNatClampNeg v5))))) + ((Int32.toInt64 v3) * r1))), (7, .int (rA x 9 (Int32.toNatClampNeg v5))), (6, .int (rA x 7 (Int32.toNatClampNeg v5))), (0, .ref (a 41)), (1, .ref (a 1)), (2, .int v2), (3, .int v3), (4, .int v4), (5, .int v5)]) hx hb dX4_improve_61 hl (by decide) rfl (fun ls hl => ?_)
      refine lv_aload_n hx hb dX4_improve_63 rfl (lv_at hl 3 rfl) ?_
      refine pwG_41_0 X hK hP mF_X4_9 dX4_improve_64 ?_
      refine lv_iload hx hb dX4_improve_67 (lv_at hl 1 rfl) ?_
      obtain ⟨hg, h⟩ := gd_elim h
      refine pwL_42 X hK hP hg dX4_improve_69 ?_
      refine lv_ldc2 (v := (-1)) hx hb hown (hts _ mK_X4_29) dX4_improve_70 ?_
      refine W.lcmp hx hb dX4_improve_73 ?_
      refine lv_if_eq (tgt := 136) hx hb dX4_improve_74 (by decide) (fun hc => ?_) (fun hc => ?_)
      · replace h := ift hc h
        refine lv_iinc (v := v5 + 1) (lv' := [(5, .int (v5 + 1)), (8, .long (((rB x 42 (Int32.toNatClampNeg (rA x 9 (Int32.toNatClampNeg v5)))) + (Int32.toInt64 (v2 * (rA x 10 (Int32.toNatClampNeg v5))))) + ((Int32.toInt64 v3) * r1))), (7, .int (rA x 9 (Int32.toNatClampNeg v5))), (6, .int (rA x 7 (Int32.toNatClampNeg v5))), (0, .ref (a 41)), (1, .ref (a 1)), (2, .int v2), (3, .int v3), (4, .int v4)]) hx hb dX4_improve_136 hl (k := 8) rfl rfl (by decide) rfl (fun ls hl => ?_)
        refine lv_goto (tgt := 6) hx hb dX4_improve_139 (by decide) ?_
        exact ih x v2 v3 v4 (v5 + 1) _ _ _ hP hD hS (lv_sub hl [4, 5, 6, 7, 8, 0] rfl) h
      · replace h := iff_ hc h
        refine lv_lload hx hb dX4_improve_77 (lv_at hl 0 rfl) ?_
        refine lv_aload_n hx hb dX4_improve_79 rfl (lv_at hl 3 rfl) ?_
        refine pwG_41_1 X hK hP mF_X4_15 dX4_improve_80 ?_
        refine lv_iload hx hb dX4_improve_83 (lv_at hl 1 rfl) ?_
        obtain ⟨hg, h⟩ := gd_elim h
        refine pwL_43 X hK hP hg dX4_improve_85 ?_
        refine lv_iconst (v := 1) hx hb dX4_improve_86 (by decide) ?_
        refine lv_iadd hx hb dX4_improve_87 ?_
        refine lv_aload_n hx hb dX4_improve_88 rfl (lv_at hl 3 rfl) ?_
        refine pwG_41_0 X hK hP mF_X4_9 dX4_improve_89 ?_
        refine lv_iload hx hb dX4_improve_92 (lv_at hl 2 rfl) ?_
        obtain ⟨hg, h⟩ := gd_elim h
        refine pwL_42 X hK hP hg dX4_improve_94 ?_
        refine lv_aload_n hx hb dX4_improve_95 rfl (lv_at hl 3 rfl) ?_
        refine pwG_41_1 X hK hP mF_X4_15 dX4_improve_96 ?_
        refine lv_iload hx hb dX4_improve_99 (lv_at hl 2 rfl) ?_
        obtain ⟨hg, h⟩ := gd_elim h
        refine pwL_43 X hK hP hg dX4_improve_101 ?_
        obtain ⟨r2, hr0, h⟩ := bn1_elim h
        refine mp_callS1 (As := [.long (((rB x 42 (Int32.toNatClampNeg (rA x 9 (Int32.toNatClampNeg v5)))) + (Int32.toInt64 (v2 * (rA x 10 (Int32.toNatClampNeg v5))))) + ((Int32.toInt64 v3) * r1)), .int ((rA x 43 (Int32.toNatClampNeg (rA x 9 (Int32.toNatClampNeg v5)))) + ((1 : Int32))), .long (rB x 42 (Int32.toNatClampNeg (rA x 7 (Int32.toNatClampNeg v5)))), .int (rA x 43 (Int32.toNatClampNeg (rA x 7 (Int32.toNatClampNeg v5))))]) (rest := []) X (c_X4_isBetter l D y a hr0) (mp_cs (k := 4) hts mM_X4_51 mT_X4_isBetter mN_X4 mC_X4_isBetter rfl rfl (by decide +kernel) ⟨Nat.le_of_ble_eq_true rfl, Nat.le_of_ble_eq_true rfl⟩) hK hP hD hS hA rfl hl.1 rfl (Nat.le_of_ble_eq_true rfl) dX4_improve_102 ⟨Nat.zero_le _, Nat.zero_le _⟩ (fun H locs hP hD hS => ?_)
        refine lv_if_eq (tgt := 136) hx hb dX4_improve_105 (by decide) (fun hc => ?_) (fun hc => ?_)
        · replace h := ift hc h
          refine lv_iinc (v := v5 + 1) (lv' := [(5, .int (v5 + 1)), (8, .long (((rB x 42 (Int32.toNatClampNeg (rA x 9 (Int32.toNatClampNeg v5)))) + (Int32.toInt64 (v2 * (rA x 10 (Int32.toNatClampNeg v5))))) + ((Int32.toInt64 v3) * r1))), (7, .int (rA x 9 (Int32.toNatClampNeg v5))), (6, .int (rA x 7 (Int32.toNatClampNeg v5))), (0, .ref (a 41)), (1, .ref (a 1)), (2, .int v2), (3, .int v3), (4, .int v4)]) hx hb dX4_improve_136 hl (k := 8) rfl rfl (by decide) rfl (fun ls hl => ?_)
          refine lv_goto (tgt := 6) hx hb dX4_improve_139 (by decide) ?_
          exact ih x v2 v3 v4 (v5 + 1) _ _ _ hP hD hS (lv_sub hl [4, 5, 6, 7, 8, 0] rfl) h
        · replace h := iff_ hc h
          refine lv_aload_n hx hb dX4_improve_108 rfl (lv_at hl 3 rfl) ?_
          refine pwG_41_0 X hK hP mF_X4_9 dX4_improve_109 ?_
          refine lv_iload hx hb dX4_improve_112 (lv_at hl 2 rfl) ?_
          refine lv_lload hx hb dX4_improve_114 (lv_at hl 0 rfl) ?_
          obtain ⟨hg, h⟩ := gd_elim h
          obtain ⟨x3, e1, h⟩ := letv_elim h
          refine pwS_42 X hK hP hD hS hg e1 dX4_improve_116 (fun H locs hP hD hS => ?_)
          refine lv_aload_n hx hb dX4_improve_117 rfl (lv_at hl 3 rfl) ?_
          refine pwG_41_1 X hK hP mF_X4_15 dX4_improve_118 ?_
          refine lv_iload hx hb dX4_improve_121 (lv_at hl 2 rfl) ?_
          refine lv_aload_n hx hb dX4_improve_123 rfl (lv_at hl 3 rfl) ?_
          refine pwG_41_1 X hK hP mF_X4_15 dX4_improve_124 ?_
          refine lv_iload hx hb dX4_improve_127 (lv_at hl 1 rfl) ?_
          obtain ⟨hg, h⟩ := gd_elim h
          refine pwL_43 X hK hP hg dX4_improve_129 ?_
          refine lv_iconst (v := 1) hx hb dX4_improve_130 (by decide) ?_
          refine lv_iadd hx hb dX4_improve_131 ?_
          obtain ⟨hg, h⟩ := gd_elim h
          obtain ⟨x4, e1, h⟩ := letv_elim h
          refine pwS_43 X hK hP hD hS hg e1 dX4_improve_132 (fun H locs hP hD hS => ?_)
          refine lv_iconst (v := 1) hx hb dX4_improve_133 (by decide) ?_
          refine lv_istore (lv' := [(4, .int ((1 : Int32))), (8, .long (((rB x 42 (Int32.toNatClampNeg (rA x 9 (Int32.toNatClampNeg v5)))) + (Int32.toInt64 (v2 * (rA x 10 (Int32.toNatClampNeg v5))))) + ((Int32.toInt64 v3) * r1))), (7, .int (rA x 9 (Int32.toNatClampNeg v5))), (6, .int (rA x 7 (Int32.toNatClampNeg v5))), (0, .ref (a 41)), (1, .ref (a 1)), (2, .int v2), (3, .int v3), (5, .int v5)]) hx hb dX4_improve_134 hl (by decide) rfl (fun ls hl => ?_)
          refine lv_iinc (v := v5 + 1) (lv' := [(5, .int (v5 + 1)), (4, .int ((1 : Int32))), (8, .long (((rB x 42 (Int32.toNatClampNeg (rA x 9 (Int32.toNatClampNeg v5)))) + (Int32.toInt64 (v2 * (rA x 10 (Int32.toNatClampNeg v5))))) + ((Int32.toInt64 v3) * r1))), (7, .int (rA x 9 (Int32.toNatClampNeg v5))), (6, .int (rA x 7 (Int32.toNatClampNeg v5))), (0, .ref (a 41)), (1, .ref (a 1)), (2, .int v2), (3, .int v3)]) hx hb dX4_improve_136 hl (k := 8) rfl rfl (by decide) rfl (fun ls hl => ?_)
          refine lv_goto (tgt := 6) hx hb dX4_improve_139 (by decide) ?_
          exact ih x4 v2 v3 ((1 : Int32)) (v5 + 1) _ _ _ hP hD hS (lv_sub hl [5, 6, 7, 8, 1, 0] rfl) h
def f_X4_improve_41_1 (x : PD) (p1 : Int32) (p2 : Int32) : Option (Int32 × PD) :=
  (f_X4_improve_41_1_b6 FU x p1 p2 ((0 : Int32)) ((0 : Int32)))
set_option maxHeartbeats 4000000 in
set_option maxRecDepth 100000 in
theorem c_X4_improve_41_1 (l : Launch) (D : va_G) (y : CY) (a : Nat → Nat) {x : PD} {x' : PD} {r : Int32} {p1 : Int32} {p2 : Int32} (h : f_X4_improve_41_1 x p1 p2 = some (r, x')) : mpM l D y yX4_improve cX4_improve 10 (some .boolean) { frames := 1, cells := 0, slots := 0, locals := 25 } (pw y a x) (pw y a x') [.ref (a 41), .ref (a 1), .int p1, .int p2] (some (.int r)) := by
  refine mpM.mk (own := RX4) (by decide) rfl (Nat.le_of_ble_eq_true rfl) ?_
  intro p e s m below meth c A ls X hK hA hP hD hl
  have hS : va_S A s.heap s.heap [] := va_S.rf
  obtain ⟨⟨hx, hb, hml, hown, hts⟩, hr, hlk⟩ := id X
  have hl : lv_has ls 10 [(0, .ref (a 41)), (1, .ref (a 1)), (2, .int p1), (3, .int p2)] := hl
  unfold f_X4_improve_41_1 at h
  refine lv_iconst (v := 0) hx hb dX4_improve_0 (by decide) ?_
  refine lv_istore (lv' := [(4, .int ((0 : Int32))), (0, .ref (a 41)), (1, .ref (a 1)), (2, .int p1), (3, .int p2)]) hx hb dX4_improve_1 hl (by decide) rfl (fun ls hl => ?_)
  refine lv_iconst (v := 0) hx hb dX4_improve_3 (by decide) ?_
  refine lv_istore (lv' := [(5, .int ((0 : Int32))), (4, .int ((0 : Int32))), (0, .ref (a 41)), (1, .ref (a 1)), (2, .int p1), (3, .int p2)]) hx hb dX4_improve_4 hl (by decide) rfl (fun ls hl => ?_)
  exact w_X4_improve_41_1_b6 X hK hA FU x p1 p2 ((0 : Int32)) ((0 : Int32)) _ _ _ hP hD hS (lv_sub hl [2, 3, 4, 5, 1, 0] rfl) h
def f_X2_hasMood (x : PD) (p1 : Int32) (p2 : Int32) : Option (Int32) :=
  gd (inR p1 20) (if (((rA x 5 (Int32.toNatClampNeg p1)) >>> (p2 &&& 31)) &&& ((1 : Int32))) = 0 then
  (some ((0 : Int32)))
  else
  some ((1 : Int32)))
set_option maxHeartbeats 4000000 in
set_option maxRecDepth 100000 in
theorem c_X2_hasMood (l : Launch) (D : va_G) (y : CY) (a : Nat → Nat) {x : PD} {r : Int32} {p1 : Int32} {p2 : Int32} (h : f_X2_hasMood x p1 p2 = some r) : mpM l D y yX2_hasMood cX2_hasMood 3 (some .boolean) { frames := 0, cells := 0, slots := 0, locals := 0 } (pw y a x) (pw y a x) [.ref (a 1), .int p1, .int p2] (some (.int r)) := by
  refine mpM.mk (own := RX2) (by decide) rfl (Nat.le_of_ble_eq_true rfl) ?_
  intro p e s m below meth c A ls X hK hA hP hD hl
  have hS : va_S A s.heap s.heap [] := va_S.rf
  obtain ⟨⟨hx, hb, hml, hown, hts⟩, hr, hlk⟩ := id X
  have hl : lv_has ls 3 [(0, .ref (a 1)), (1, .int p1), (2, .int p2)] := hl
  unfold f_X2_hasMood at h
  refine lv_aload_n hx hb dX2_hasMood_0 rfl (lv_at hl 0 rfl) ?_
  refine pwG_1_3 X hK hP mF_X2_21 dX2_hasMood_1 ?_
  refine lv_iload_n hx hb dX2_hasMood_4 rfl (lv_at hl 1 rfl) ?_
  obtain ⟨hg, h⟩ := gd_elim h
  refine pwL_5 X hK hP hg dX2_hasMood_5 ?_
  refine lv_iload_n hx hb dX2_hasMood_6 rfl (lv_at hl 2 rfl) ?_
  refine lv_ishr hx hb dX2_hasMood_7 ?_
  refine lv_iconst (v := 1) hx hb dX2_hasMood_8 (by decide) ?_
  refine lv_iand hx hb dX2_hasMood_9 ?_
  refine lv_if_eq (tgt := 17) hx hb dX2_hasMood_10 (by decide) (fun hc => ?_) (fun hc => ?_)
  · replace h := ift hc h
    refine lv_iconst (v := 0) hx hb dX2_hasMood_17 (by decide) ?_
    cases h
    exact mpr_z X hK hP hD hS rfl rfl dX2_hasMood_18
  · replace h := iff_ hc h
    refine lv_iconst (v := 1) hx hb dX2_hasMood_13 (by decide) ?_
    refine lv_goto (tgt := 18) hx hb dX2_hasMood_14 (by decide) ?_
    cases h
    exact mpr_z X hK hP hD hS rfl rfl dX2_hasMood_18
def f_X4_fill_41_1_b56 : Nat → PD → Int32 → Int32 → Int32 → Int32 → Option (PD)
  | 0, _, _, _, _, _ => none
  | n + 1, x, v3, v4, v5, v6 =>
    if (rI x 37) ≤ v6 then
  (some x)
  else
  if v5 = 0 then
  (some x)
  else
  bn2 (f_X4_improve_41_1 x v3 v4) fun r1 x2 =>
  ((f_X4_fill_41_1_b56 n) x2 v3 v4 r1 (v6 + 1))
set_option maxHeartbeats 4000000 in
set_option maxRecDepth 100000 in
theorem w_X4_fill_41_1_b56 {p : Program} {l : Launch} {e : Env} {s : State} {m : MethodId} {args : Array Value} {below : List Frame} {meth : Method} {c : Code} {D : va_G} {y : CY} {a : Nat → Nat} {A : Nat → Prop} {x' : PD} (X : mpX p s m args meth c cX4_fill 7 none RX4) (hK : va_K D vwCl (mpT y) s) (hA : ∀ q, s.heap.size ≤ q → A q) : ∀ (n : Nat), ∀ (x : PD) (v3 : Int32) (v4 : Int32) (v5 : Int32) (v6 : Int32) (H : Heap) (locs : List Loc) (ls : Array Slot), va_P D vwCl (pw y a x) H → va_D A (pw y a x) → va_S A s.heap H locs → lv_has ls 7 [(0, .ref (a 41)), (1, .ref (a 1)), (3, .int v3), (4, .int v4), (5, .int v5), (6, .int v6)] → f_X4_fill_41_1_b56 n x v3 v4 v5 v6 = some x' → W p l e { frames := 2, cells := 0, slots := 0, locals := 54 } s m args below meth c H locs 0 0 (MQ below (mpC D y A (pw y a x') none) args s 0 0 A) (F0 m 56 ls []) := by
  obtain ⟨⟨hx, hb, hml, hown, hts⟩, hr, hlk⟩ := id X
  intro n
  induction n with
  | zero =>
    intro x v3 v4 v5 v6 H locs ls hP hD hS hl h
    rw [f_X4_fill_41_1_b56] at h
    exact nons h
  | succ n ih =>
    intro x v3 v4 v5 v6 H locs ls hP hD hS hl h
    rw [f_X4_fill_41_1_b56] at h
    refine lv_iload hx hb dX4_fill_56 (lv_at hl 5 rfl) ?_
    refine lv_aload_n hx hb dX4_fill_58 rfl (lv_at hl 1 rfl) ?_
    refine pwG_1_5 X hK hP mF_X4_19 dX4_fill_59 ?_
    refine lv_icmp_ge (tgt := 86) hx hb dX4_fill_62 (by decide) (fun hc => ?_) (fun hc => ?_)
    · replace h := ift hc h
      cases h
      exact mpr_v X hK hP hD hS dX4_fill_86
    · replace h := iff_ hc h
      refine lv_iload hx hb dX4_fill_65 (lv_at hl 4 rfl) ?_
      refine lv_if_eq (tgt := 86) hx hb dX4_fill_67 (by decide) (fun hc => ?_) (fun hc => ?_)
      · replace h := ift hc h
        cases h
        exact mpr_v X hK hP hD hS dX4_fill_86
      · replace h := iff_ hc h
        refine lv_aload_n hx hb dX4_fill_70 rfl (lv_at hl 0 rfl) ?_
        refine lv_aload_n hx hb dX4_fill_71 rfl (lv_at hl 1 rfl) ?_
        refine lv_iload_n hx hb dX4_fill_72 rfl (lv_at hl 2 rfl) ?_
        refine lv_iload hx hb dX4_fill_73 (lv_at hl 3 rfl) ?_
        obtain ⟨r1, x2, hr0, h⟩ := bn2_elim h
        refine mp_call1 (As := [.ref (a 1), .int v3, .int v4]) (rest := []) X (c_X4_improve_41_1 l D y a hr0) (mp_cw (k := 3) hts mM_X4_31 mI_X4_improve mS_X4_improve mN_X4 mC_X4_improve rfl rfl (by decide +kernel) ⟨Nat.le_of_ble_eq_true rfl, Nat.le_of_ble_eq_true rfl⟩) hK hP hD hS hA 41 pwC_41 rfl rfl hl.1 rfl (Nat.le_of_ble_eq_true rfl) dX4_fill_75 ⟨Nat.zero_le _, Nat.zero_le _⟩ (fun H locs hP hD hS => ?_)
        refine lv_istore (lv' := [(5, .int r1), (0, .ref (a 41)), (1, .ref (a 1)), (3, .int v3), (4, .int v4), (6, .int v6)]) hx hb dX4_fill_78 hl (by decide) rfl (fun ls hl => ?_)
        refine lv_iinc (v := v6 + 1) (lv' := [(6, .int (v6 + 1)), (5, .int r1), (0, .ref (a 41)), (1, .ref (a 1)), (3, .int v3), (4, .int v4)]) hx hb dX4_fill_80 hl (k := 5) rfl rfl (by decide) rfl (fun ls hl => ?_)
        refine lv_goto (tgt := 56) hx hb dX4_fill_83 (by decide) ?_
        exact ih x2 v3 v4 r1 (v6 + 1) _ _ _ hP hD hS (lv_sub hl [2, 3, 4, 5, 1, 0] rfl) h
def f_X4_fill_41_1_b35 (k3 : PD → Int32 → Int32 → Int32 → Int32 → Option (PD)) (x : PD) (v2 : Int32) (v3 : Int32) (v4 : Int32) (v5 : Int32) (t0 : Int64) (t1 : Int32) : Option (PD) :=
  gd (inR t1 20) (letv (wB x 42 (vp_updL (rB x 42) (Int32.toNatClampNeg t1) t0)) fun x4 =>
  gd (inR v5 20) (letv (wA x4 43 (upd (rA x4 43) (Int32.toNatClampNeg v5) ((0 : Int32)))) fun x5 =>
  (k3 x5 v2 v3 v4 (v5 + 1))))
set_option maxHeartbeats 4000000 in
set_option maxRecDepth 100000 in
theorem w_X4_fill_41_1_b35 {p : Program} {l : Launch} {e : Env} {s : State} {m : MethodId} {args : Array Value} {below : List Frame} {meth : Method} {c : Code} {D : va_G} {y : CY} {a : Nat → Nat} {A : Nat → Prop} {x' : PD} {k3 : PD → Int32 → Int32 → Int32 → Int32 → Option (PD)} (X : mpX p s m args meth c cX4_fill 7 none RX4) (hK : va_K D vwCl (mpT y) s) (hA : ∀ q, s.heap.size ≤ q → A q) (hk3 : ∀ (x : PD) (v2 : Int32) (v3 : Int32) (v4 : Int32) (v5 : Int32) (H : Heap) (locs : List Loc) (ls : Array Slot), va_P D vwCl (pw y a x) H → va_D A (pw y a x) → va_S A s.heap H locs → lv_has ls 7 [(0, .ref (a 41)), (1, .ref (a 1)), (2, .int v2), (3, .int v3), (4, .int v4), (5, .int v5)] → k3 x v2 v3 v4 v5 = some x' → W p l e { frames := 2, cells := 0, slots := 0, locals := 54 } s m args below meth c H locs 0 0 (MQ below (mpC D y A (pw y a x') none) args s 0 0 A) (F0 m 3 ls [])) : ∀ (x : PD) (v2 : Int32) (v3 : Int32) (v4 : Int32) (v5 : Int32) (t0 : Int64) (t1 : Int32) (H : Heap) (locs : List Loc) (ls : Array Slot), va_P D vwCl (pw y a x) H → va_D A (pw y a x) → va_S A s.heap H locs → lv_has ls 7 [(0, .ref (a 41)), (1, .ref (a 1)), (2, .int v2), (3, .int v3), (4, .int v4), (5, .int v5)] → f_X4_fill_41_1_b35 k3 x v2 v3 v4 v5 t0 t1 = some x' → W p l e { frames := 2, cells := 0, slots := 0, locals := 54 } s m args below meth c H locs 0 0 (MQ below (mpC D y A (pw y a x') none) args s 0 0 A) (F0 m 35 ls [.long t0, .int t1, .ref (a 42)]) := by
  obtain ⟨⟨hx, hb, hml, hown, hts⟩, hr, hlk⟩ := id X
  intro x v2 v3 v4 v5 t0 t1 H locs ls hP hD hS hl h
  unfold f_X4_fill_41_1_b35 at h
  obtain ⟨hg, h⟩ := gd_elim h
  obtain ⟨x4, e1, h⟩ := letv_elim h
  refine pwS_42 X hK hP hD hS hg e1 dX4_fill_35 (fun H locs hP hD hS => ?_)
  refine lv_aload_n hx hb dX4_fill_36 rfl (lv_at hl 0 rfl) ?_
  refine pwG_41_1 X hK hP mF_X4_15 dX4_fill_37 ?_
  refine lv_iload hx hb dX4_fill_40 (lv_at hl 5 rfl) ?_
  refine lv_iconst (v := 0) hx hb dX4_fill_42 (by decide) ?_
  obtain ⟨hg, h⟩ := gd_elim h
  obtain ⟨x5, e1, h⟩ := letv_elim h
  refine pwS_43 X hK hP hD hS hg e1 dX4_fill_43 (fun H locs hP hD hS => ?_)
  refine lv_iinc (v := v5 + 1) (lv' := [(5, .int (v5 + 1)), (0, .ref (a 41)), (1, .ref (a 1)), (2, .int v2), (3, .int v3), (4, .int v4)]) hx hb dX4_fill_44 hl (k := 5) rfl rfl (by decide) rfl (fun ls hl => ?_)
  refine lv_goto (tgt := 3) hx hb dX4_fill_47 (by decide) ?_
  exact hk3 x5 v2 v3 v4 (v5 + 1) _ _ _ hP hD hS (lv_sub hl [1, 2, 3, 4, 5, 0] rfl) h
def f_X4_fill_41_1_b3 : Nat → PD → Int32 → Int32 → Int32 → Int32 → Option (PD)
  | 0, _, _, _, _, _ => none
  | n + 1, x, v2, v3, v4, v5 =>
    if (rI x 37) ≤ v5 then
  ((f_X4_fill_41_1_b56 FU x v3 v4 ((1 : Int32)) ((0 : Int32))))
  else
  bn1 (f_X2_hasMood x v5 v2) fun r3 =>
  if r3 = 0 then
  ((f_X4_fill_41_1_b35 (f_X4_fill_41_1_b3 n) x v2 v3 v4 v5 ((-1 : Int64)) v5))
  else
  (f_X4_fill_41_1_b35 (f_X4_fill_41_1_b3 n) x v2 v3 v4 v5 ((0 : Int64)) v5)
set_option maxHeartbeats 4000000 in
set_option maxRecDepth 100000 in
theorem w_X4_fill_41_1_b3 {p : Program} {l : Launch} {e : Env} {s : State} {m : MethodId} {args : Array Value} {below : List Frame} {meth : Method} {c : Code} {D : va_G} {y : CY} {a : Nat → Nat} {A : Nat → Prop} {x' : PD} (X : mpX p s m args meth c cX4_fill 7 none RX4) (hK : va_K D vwCl (mpT y) s) (hA : ∀ q, s.heap.size ≤ q → A q) : ∀ (n : Nat), ∀ (x : PD) (v2 : Int32) (v3 : Int32) (v4 : Int32) (v5 : Int32) (H : Heap) (locs : List Loc) (ls : Array Slot), va_P D vwCl (pw y a x) H → va_D A (pw y a x) → va_S A s.heap H locs → lv_has ls 7 [(0, .ref (a 41)), (1, .ref (a 1)), (2, .int v2), (3, .int v3), (4, .int v4), (5, .int v5)] → f_X4_fill_41_1_b3 n x v2 v3 v4 v5 = some x' → W p l e { frames := 2, cells := 0, slots := 0, locals := 54 } s m args below meth c H locs 0 0 (MQ below (mpC D y A (pw y a x') none) args s 0 0 A) (F0 m 3 ls []) := by
  obtain ⟨⟨hx, hb, hml, hown, hts⟩, hr, hlk⟩ := id X
  intro n
  induction n with
  | zero =>
    intro x v2 v3 v4 v5 H locs ls hP hD hS hl h
    rw [f_X4_fill_41_1_b3] at h
    exact nons h
  | succ n ih =>
    intro x v2 v3 v4 v5 H locs ls hP hD hS hl h
    rw [f_X4_fill_41_1_b3] at h
    refine lv_iload hx hb dX4_fill_3 (lv_at hl 5 rfl) ?_
    refine lv_aload_n hx hb dX4_fill_5 rfl (lv_at hl 1 rfl) ?_
    refine pwG_1_5 X hK hP mF_X4_19 dX4_fill_6 ?_
    refine lv_icmp_ge (tgt := 50) hx hb dX4_fill_9 (by decide) (fun hc => ?_) (fun hc => ?_)
    · replace h := ift hc h
      refine lv_iconst (v := 1) hx hb dX4_fill_50 (by decide) ?_
      refine lv_istore (lv' := [(5, .int ((1 : Int32))), (0, .ref (a 41)), (1, .ref (a 1)), (2, .int v2), (3, .int v3), (4, .int v4)]) hx hb dX4_fill_51 hl (by decide) rfl (fun ls hl => ?_)
      refine lv_iconst (v := 0) hx hb dX4_fill_53 (by decide) ?_
      refine lv_istore (lv' := [(6, .int ((0 : Int32))), (5, .int ((1 : Int32))), (0, .ref (a 41)), (1, .ref (a 1)), (2, .int v2), (3, .int v3), (4, .int v4)]) hx hb dX4_fill_54 hl (by decide) rfl (fun ls hl => ?_)
      exact w_X4_fill_41_1_b56 X hK hA FU x v3 v4 ((1 : Int32)) ((0 : Int32)) _ _ _ hP hD hS (lv_sub hl [2, 3, 5, 6, 1, 0] rfl) h
    · replace h := iff_ hc h
      refine lv_aload_n hx hb dX4_fill_12 rfl (lv_at hl 0 rfl) ?_
      refine pwG_41_0 X hK hP mF_X4_9 dX4_fill_13 ?_
      refine lv_iload hx hb dX4_fill_16 (lv_at hl 5 rfl) ?_
      refine lv_aload_n hx hb dX4_fill_18 rfl (lv_at hl 1 rfl) ?_
      refine lv_iload hx hb dX4_fill_19 (lv_at hl 5 rfl) ?_
      refine lv_iload_n hx hb dX4_fill_21 rfl (lv_at hl 2 rfl) ?_
      obtain ⟨r3, hr0, h⟩ := bn1_elim h
      refine mp_call1 (As := [.int v5, .int v2]) (rest := [.int v5, .ref (a 42)]) X (c_X2_hasMood l D y a hr0) (mp_cw (k := 2) hts mM_X4_25 mI_X2_hasMood mS_X2_hasMood mN_X2 mC_X2_hasMood rfl rfl (by decide +kernel) ⟨Nat.le_of_ble_eq_true rfl, Nat.le_of_ble_eq_true rfl⟩) hK hP hD hS hA 1 pwC_1 rfl rfl hl.1 rfl (Nat.le_of_ble_eq_true rfl) dX4_fill_22 ⟨Nat.zero_le _, Nat.zero_le _⟩ (fun H locs hP hD hS => ?_)
      refine lv_if_eq (tgt := 32) hx hb dX4_fill_25 (by decide) (fun hc => ?_) (fun hc => ?_)
      · replace h := ift hc h
        refine lv_ldc2 (v := (-1)) hx hb hown (hts _ mK_X4_29) dX4_fill_32 ?_
        exact w_X4_fill_41_1_b35 X hK hA ih x v2 v3 v4 v5 ((-1 : Int64)) v5 _ _ _ hP hD hS (lv_sub hl [0, 1, 2, 3, 4, 5] rfl) h
      · replace h := iff_ hc h
        refine lv_lconst (v := 0) hx hb dX4_fill_28 (by decide) ?_
        refine lv_goto (tgt := 35) hx hb dX4_fill_29 (by decide) ?_
        exact w_X4_fill_41_1_b35 X hK hA ih x v2 v3 v4 v5 ((0 : Int64)) v5 _ _ _ hP hD hS (lv_sub hl [0, 1, 2, 3, 4, 5] rfl) h
def f_X4_fill_41_1 (x : PD) (p1 : Int32) (p2 : Int32) (p3 : Int32) : Option (PD) :=
  (f_X4_fill_41_1_b3 FU x p1 p2 p3 ((0 : Int32)))
set_option maxHeartbeats 4000000 in
set_option maxRecDepth 100000 in
theorem c_X4_fill_41_1 (l : Launch) (D : va_G) (y : CY) (a : Nat → Nat) {x : PD} {x' : PD} {p1 : Int32} {p2 : Int32} {p3 : Int32} (h : f_X4_fill_41_1 x p1 p2 p3 = some x') : mpM l D y yX4_fill cX4_fill 7 none { frames := 2, cells := 0, slots := 0, locals := 54 } (pw y a x) (pw y a x') [.ref (a 41), .ref (a 1), .int p1, .int p2, .int p3] none := by
  refine mpM.mk (own := RX4) (by decide) rfl (Nat.le_of_ble_eq_true rfl) ?_
  intro p e s m below meth c A ls X hK hA hP hD hl
  have hS : va_S A s.heap s.heap [] := va_S.rf
  obtain ⟨⟨hx, hb, hml, hown, hts⟩, hr, hlk⟩ := id X
  have hl : lv_has ls 7 [(0, .ref (a 41)), (1, .ref (a 1)), (2, .int p1), (3, .int p2), (4, .int p3)] := hl
  unfold f_X4_fill_41_1 at h
  refine lv_iconst (v := 0) hx hb dX4_fill_0 (by decide) ?_
  refine lv_istore (lv' := [(5, .int ((0 : Int32))), (0, .ref (a 41)), (1, .ref (a 1)), (2, .int p1), (3, .int p2), (4, .int p3)]) hx hb dX4_fill_1 hl (by decide) rfl (fun ls hl => ?_)
  exact w_X4_fill_41_1_b3 X hK hA FU x p1 p2 p3 ((0 : Int32)) _ _ _ hP hD hS (lv_sub hl [1, 2, 3, 4, 5, 0] rfl) h
def f_X1_findWay_b81 (x : PD) : Option (PD) :=
  bn1 (f_X1_firstStep x) fun r2 =>
  if r2 = ((-1 : Int32)) then
  (some x)
  else
  bn1 (f_X1_addStep x r2) fun x3 =>
  bn1 (f_X1_pieceBehind x3 r2) fun r4 =>
  bn1 (f_X1_followTable x3 r4) fun x5 =>
  some x5
set_option maxHeartbeats 4000000 in
set_option maxRecDepth 100000 in
theorem w_X1_findWay_b81 {p : Program} {l : Launch} {e : Env} {s : State} {m : MethodId} {args : Array Value} {below : List Frame} {meth : Method} {c : Code} {D : va_G} {y : CY} {a : Nat → Nat} {A : Nat → Prop} {x' : PD} (X : mpX p s m args meth c cX1_findWay 2 none RX1) (hK : va_K D vwCl (mpT y) s) (hA : ∀ q, s.heap.size ≤ q → A q) : ∀ (x : PD) (H : Heap) (locs : List Loc) (ls : Array Slot), va_P D vwCl (pw y a x) H → va_D A (pw y a x) → va_S A s.heap H locs → lv_has ls 2 [(0, .ref (a 40))] → f_X1_findWay_b81 x = some x' → W p l e { frames := 3, cells := 0, slots := 0, locals := 80 } s m args below meth c H locs 0 0 (MQ below (mpC D y A (pw y a x') none) args s 0 0 A) (F0 m 81 ls []) := by
  obtain ⟨⟨hx, hb, hml, hown, hts⟩, hr, hlk⟩ := id X
  intro x H locs ls hP hD hS hl h
  unfold f_X1_findWay_b81 at h
  refine lv_aload_n hx hb dX1_findWay_81 rfl (lv_at hl 0 rfl) ?_
  obtain ⟨r2, hr0, h⟩ := bn1_elim h
  refine mp_call1 (As := []) (rest := []) X (c_X1_firstStep l D y a hr0) (mp_cw (k := 0) hts mM_X1_73 mI_X1_firstStep mS_X1_firstStep mN_X1 mC_X1_firstStep rfl rfl (by decide +kernel) ⟨Nat.le_of_ble_eq_true rfl, Nat.le_of_ble_eq_true rfl⟩) hK hP hD hS hA 40 pwC_40 rfl rfl hl.1 rfl (Nat.le_of_ble_eq_true rfl) dX1_findWay_82 ⟨Nat.zero_le _, Nat.zero_le _⟩ (fun H locs hP hD hS => ?_)
  refine lv_istore_n (lv' := [(1, .int r2), (0, .ref (a 40))]) hx hb dX1_findWay_85 rfl hl (by decide) rfl (fun ls hl => ?_)
  refine lv_iload_n hx hb dX1_findWay_86 rfl (lv_at hl 0 rfl) ?_
  refine lv_iconst (v := -1) hx hb dX1_findWay_87 (by decide) ?_
  refine lv_icmp_eq (tgt := 105) hx hb dX1_findWay_88 (by decide) (fun hc => ?_) (fun hc => ?_)
  · replace h := ift hc h
    cases h
    exact mpr_v X hK hP hD hS dX1_findWay_105
  · replace h := iff_ hc h
    refine lv_aload_n hx hb dX1_findWay_91 rfl (lv_at hl 1 rfl) ?_
    refine lv_iload_n hx hb dX1_findWay_92 rfl (lv_at hl 0 rfl) ?_
    obtain ⟨x3, hr0, h⟩ := bn1_elim h
    refine mp_callv (As := [.int r2]) (rest := []) X (c_X1_addStep l D y a hr0) (mp_cw (k := 1) hts mM_X1_77 mI_X1_addStep mS_X1_addStep mN_X1 mC_X1_addStep rfl rfl (by decide +kernel) ⟨Nat.le_of_ble_eq_true rfl, Nat.le_of_ble_eq_true rfl⟩) hK hP hD hS hA 40 pwC_40 rfl rfl hl.1 rfl (Nat.le_of_ble_eq_true rfl) dX1_findWay_93 ⟨Nat.zero_le _, Nat.zero_le _⟩ (fun H locs hP hD hS => ?_)
    refine lv_aload_n hx hb dX1_findWay_96 rfl (lv_at hl 1 rfl) ?_
    refine lv_aload_n hx hb dX1_findWay_97 rfl (lv_at hl 1 rfl) ?_
    refine lv_iload_n hx hb dX1_findWay_98 rfl (lv_at hl 0 rfl) ?_
    obtain ⟨r4, hr0, h⟩ := bn1_elim h
    refine mp_call1 (As := [.int r2]) (rest := [.ref (a 40)]) X (c_X1_pieceBehind l D y a hr0) (mp_cw (k := 1) hts mM_X1_81 mI_X1_pieceBehind mS_X1_pieceBehind mN_X1 mC_X1_pieceBehind rfl rfl (by decide +kernel) ⟨Nat.le_of_ble_eq_true rfl, Nat.le_of_ble_eq_true rfl⟩) hK hP hD hS hA 40 pwC_40 rfl rfl hl.1 rfl (Nat.le_of_ble_eq_true rfl) dX1_findWay_99 ⟨Nat.zero_le _, Nat.zero_le _⟩ (fun H locs hP hD hS => ?_)
    obtain ⟨x5, hr0, h⟩ := bn1_elim h
    refine mp_callv (As := [.int r4]) (rest := []) X (c_X1_followTable l D y a hr0) (mp_cw (k := 1) hts mM_X1_84 mI_X1_followTable mS_X1_followTable mN_X1 mC_X1_followTable rfl rfl (by decide +kernel) ⟨Nat.le_of_ble_eq_true rfl, Nat.le_of_ble_eq_true rfl⟩) hK hP hD hS hA 40 pwC_40 rfl rfl hl.1 rfl (Nat.le_of_ble_eq_true rfl) dX1_findWay_102 ⟨Nat.zero_le _, Nat.zero_le _⟩ (fun H locs hP hD hS => ?_)
    cases h
    exact mpr_v X hK hP hD hS dX1_findWay_105
def f_X1_findWay (x : PD) : Option (PD) :=
  bn1 (f_X1_forget x) fun x1 =>
  if (rI x1 386) = ((-1 : Int32)) then
  (some x1)
  else
  if (rI x1 390) = ((-1 : Int32)) then
  some x1
  else
  if (rI x1 1283) = (rI x1 390) then
  ((f_X1_findWay_b81 x1))
  else
  bn1 (f_X4_fill_41_1 x1 (rI x1 390) ((24 : Int32)) (rA x1 11 (Int32.toNatClampNeg ((1 : Int32))))) fun x6 =>
  letv (wI x6 1283 (rI x6 390)) fun x7 =>
  (f_X1_findWay_b81 x7)
set_option maxHeartbeats 4000000 in
set_option maxRecDepth 100000 in
theorem c_X1_findWay (l : Launch) (D : va_G) (y : CY) (a : Nat → Nat) {x : PD} {x' : PD} (h : f_X1_findWay x = some x') : mpM l D y yX1_findWay cX1_findWay 2 none { frames := 3, cells := 0, slots := 0, locals := 80 } (pw y a x) (pw y a x') [.ref (a 40)] none := by
  refine mpM.mk (own := RX1) (by decide) rfl (Nat.le_of_ble_eq_true rfl) ?_
  intro p e s m below meth c A ls X hK hA hP hD hl
  have hS : va_S A s.heap s.heap [] := va_S.rf
  obtain ⟨⟨hx, hb, hml, hown, hts⟩, hr, hlk⟩ := id X
  have hl : lv_has ls 2 [(0, .ref (a 40))] := hl
  unfold f_X1_findWay at h
  refine lv_aload_n hx hb dX1_findWay_0 rfl (lv_at hl 0 rfl) ?_
  obtain ⟨x1, hr0, h⟩ := bn1_elim h
  refine mp_callv (As := []) (rest := []) X (c_X1_forget l D y a hr0) (mp_cw (k := 0) hts mM_X1_53 mI_X1_forget mS_X1_forget mN_X1 mC_X1_forget rfl rfl (by decide +kernel) ⟨Nat.le_of_ble_eq_true rfl, Nat.le_of_ble_eq_true rfl⟩) hK hP hD hS hA 40 pwC_40 rfl rfl hl.1 rfl (Nat.le_of_ble_eq_true rfl) dX1_findWay_1 ⟨Nat.zero_le _, Nat.zero_le _⟩ (fun H locs hP hD hS => ?_)
  refine lv_aload_n hx hb dX1_findWay_4 rfl (lv_at hl 0 rfl) ?_
  refine pwG_40_1 X hK hP mF_X1_30 dX1_findWay_5 ?_
  refine pwG_12_2 X hK hP mF_X1_56 dX1_findWay_8 ?_
  refine lv_iconst (v := -1) hx hb dX1_findWay_11 (by decide) ?_
  refine lv_icmp_eq (tgt := 26) hx hb dX1_findWay_12 (by decide) (fun hc => ?_) (fun hc => ?_)
  · replace h := ift hc h
    cases h
    exact mpr_v X hK hP hD hS dX1_findWay_26
  · replace h := iff_ hc h
    refine lv_aload_n hx hb dX1_findWay_15 rfl (lv_at hl 0 rfl) ?_
    refine pwG_40_1 X hK hP mF_X1_30 dX1_findWay_16 ?_
    refine pwG_12_6 X hK hP mF_X1_61 dX1_findWay_19 ?_
    refine lv_iconst (v := -1) hx hb dX1_findWay_22 (by decide) ?_
    refine lv_icmp_ne (tgt := 27) hx hb dX1_findWay_23 (by decide) (fun hc => ?_) (fun hc => ?_)
    · replace h := iff_ hc h
      refine lv_aload_n hx hb dX1_findWay_27 rfl (lv_at hl 0 rfl) ?_
      refine pwG_40_3 X hK hP mF_X1_18 dX1_findWay_28 ?_
      refine lv_aload_n hx hb dX1_findWay_31 rfl (lv_at hl 0 rfl) ?_
      refine pwG_40_1 X hK hP mF_X1_30 dX1_findWay_32 ?_
      refine pwG_12_6 X hK hP mF_X1_61 dX1_findWay_35 ?_
      refine lv_icmp_eq (tgt := 81) hx hb dX1_findWay_38 (by decide) (fun hc => ?_) (fun hc => ?_)
      · replace h := ift hc h
        exact w_X1_findWay_b81 X hK hA x1 _ _ _ hP hD hS (lv_sub hl [0] rfl) h
      · replace h := iff_ hc h
        refine lv_aload_n hx hb dX1_findWay_41 rfl (lv_at hl 0 rfl) ?_
        refine pwG_40_2 X hK hP mF_X1_12 dX1_findWay_42 ?_
        refine lv_aload_n hx hb dX1_findWay_45 rfl (lv_at hl 0 rfl) ?_
        refine pwG_40_0 X hK hP mF_X1_26 dX1_findWay_46 ?_
        refine lv_aload_n hx hb dX1_findWay_49 rfl (lv_at hl 0 rfl) ?_
        refine pwG_40_1 X hK hP mF_X1_30 dX1_findWay_50 ?_
        refine pwG_12_6 X hK hP mF_X1_61 dX1_findWay_53 ?_
        refine lv_bipush (v := 24) hx hb dX1_findWay_56 (by decide) ?_
        refine lv_aload_n hx hb dX1_findWay_58 rfl (lv_at hl 0 rfl) ?_
        refine pwG_40_0 X hK hP mF_X1_26 dX1_findWay_59 ?_
        refine pwG_1_11 X hK hP mF_X1_64 dX1_findWay_62 ?_
        refine lv_iconst (v := 1) hx hb dX1_findWay_65 (by decide) ?_
        refine pwL_11 X hK hP (by decide) dX1_findWay_66 ?_
        obtain ⟨x6, hr0, h⟩ := bn1_elim h
        refine mp_callv (As := [.ref (a 1), .int (rI x1 390), .int ((24 : Int32)), .int (rA x1 11 (Int32.toNatClampNeg ((1 : Int32))))]) (rest := []) X (c_X4_fill_41_1 l D y a hr0) (mp_cw (k := 4) hts mM_X1_69 mI_X4_fill mS_X4_fill mN_X4 mC_X4_fill rfl rfl (by decide +kernel) ⟨Nat.le_of_ble_eq_true rfl, Nat.le_of_ble_eq_true rfl⟩) hK hP hD hS hA 41 pwC_41 rfl rfl hl.1 rfl (Nat.le_of_ble_eq_true rfl) dX1_findWay_67 ⟨Nat.zero_le _, Nat.zero_le _⟩ (fun H locs hP hD hS => ?_)
        refine lv_aload_n hx hb dX1_findWay_70 rfl (lv_at hl 0 rfl) ?_
        refine lv_aload_n hx hb dX1_findWay_71 rfl (lv_at hl 0 rfl) ?_
        refine pwG_40_1 X hK hP mF_X1_30 dX1_findWay_72 ?_
        refine pwG_12_6 X hK hP mF_X1_61 dX1_findWay_75 ?_
        obtain ⟨x7, e1, h⟩ := letv_elim h
        refine pwP_40_3 X hK hP hD hS mF_X1_18 e1 dX1_findWay_78 (fun H locs hP hD hS => ?_)
        exact w_X1_findWay_b81 X hK hA x7 _ _ _ hP hD hS (lv_sub hl [0] rfl) h
    · replace h := ift hc h
      cases h
      exact mpr_v X hK hP hD hS dX1_findWay_26
def f_X1_scoreChanged (x : PD) : Option (PD) :=
  letv (wI x 1283 ((-1 : Int32))) fun x1 =>
  bn1 (f_X1_findWay x1) fun x2 =>
  some x2
set_option maxHeartbeats 4000000 in
set_option maxRecDepth 100000 in
theorem c_X1_scoreChanged (l : Launch) (D : va_G) (y : CY) (a : Nat → Nat) {x : PD} {x' : PD} (h : f_X1_scoreChanged x = some x') : mpM l D y yX1_scoreChanged cX1_scoreChanged 1 none { frames := 4, cells := 0, slots := 0, locals := 101 } (pw y a x) (pw y a x') [.ref (a 40)] none := by
  refine mpM.mk (own := RX1) (by decide) rfl (Nat.le_of_ble_eq_true rfl) ?_
  intro p e s m below meth c A ls X hK hA hP hD hl
  have hS : va_S A s.heap s.heap [] := va_S.rf
  obtain ⟨⟨hx, hb, hml, hown, hts⟩, hr, hlk⟩ := id X
  have hl : lv_has ls 1 [(0, .ref (a 40))] := hl
  unfold f_X1_scoreChanged at h
  refine lv_aload_n hx hb dX1_scoreChanged_0 rfl (lv_at hl 0 rfl) ?_
  refine lv_iconst (v := -1) hx hb dX1_scoreChanged_1 (by decide) ?_
  obtain ⟨x1, e1, h⟩ := letv_elim h
  refine pwP_40_3 X hK hP hD hS mF_X1_18 e1 dX1_scoreChanged_2 (fun H locs hP hD hS => ?_)
  refine lv_aload_n hx hb dX1_scoreChanged_5 rfl (lv_at hl 0 rfl) ?_
  obtain ⟨x2, hr0, h⟩ := bn1_elim h
  refine mp_callv (As := []) (rest := []) X (c_X1_findWay l D y a hr0) (mp_cw (k := 0) hts mM_X1_40 mI_X1_findWay mS_X1_findWay mN_X1 mC_X1_findWay rfl rfl (by decide +kernel) ⟨Nat.le_of_ble_eq_true rfl, Nat.le_of_ble_eq_true rfl⟩) hK hP hD hS hA 40 pwC_40 rfl rfl hl.1 rfl (Nat.le_of_ble_eq_true rfl) dX1_scoreChanged_6 ⟨Nat.zero_le _, Nat.zero_le _⟩ (fun H locs hP hD hS => ?_)
  cases h
  exact mpr_v X hK hP hD hS dX1_scoreChanged_9
def f_X5_piece (x : PD) (p1 : Int32) (p2 : Int32) (p3 : Int32) (p4 : Int32) (p5 : Int32) : Option (Int32 × PD) :=
  bn2 (f_X2_addPiece x p1 p2 p3 p4 p5) fun r1 x2 =>
  if r1 = ((-1 : Int32)) then
  (some (r1, x2))
  else
  bn1 (f_X1_scoreChanged x2) fun x3 =>
  some (r1, x3)
set_option maxHeartbeats 4000000 in
set_option maxRecDepth 100000 in
theorem c_X5_piece (l : Launch) (D : va_G) (y : CY) (a : Nat → Nat) {x : PD} {x' : PD} {r : Int32} {p1 : Int32} {p2 : Int32} {p3 : Int32} {p4 : Int32} {p5 : Int32} (h : f_X5_piece x p1 p2 p3 p4 p5 = some (r, x')) : mpM l D y yX5_piece cX5_piece 7 (some .int) { frames := 5, cells := 0, slots := 0, locals := 121 } (pw y a x) (pw y a x') [.ref (a 0), .int p1, .int p2, .int p3, .int p4, .int p5] (some (.int r)) := by
  refine mpM.mk (own := RX5) (by decide) rfl (Nat.le_of_ble_eq_true rfl) ?_
  intro p e s m below meth c A ls X hK hA hP hD hl
  have hS : va_S A s.heap s.heap [] := va_S.rf
  obtain ⟨⟨hx, hb, hml, hown, hts⟩, hr, hlk⟩ := id X
  have hl : lv_has ls 7 [(0, .ref (a 0)), (1, .int p1), (2, .int p2), (3, .int p3), (4, .int p4), (5, .int p5)] := hl
  unfold f_X5_piece at h
  refine lv_aload_n hx hb dX5_piece_0 rfl (lv_at hl 0 rfl) ?_
  refine pwG_0_0 X hK hP mF_X5_12 dX5_piece_1 ?_
  refine lv_iload_n hx hb dX5_piece_4 rfl (lv_at hl 1 rfl) ?_
  refine lv_iload_n hx hb dX5_piece_5 rfl (lv_at hl 2 rfl) ?_
  refine lv_iload_n hx hb dX5_piece_6 rfl (lv_at hl 3 rfl) ?_
  refine lv_iload hx hb dX5_piece_7 (lv_at hl 4 rfl) ?_
  refine lv_iload hx hb dX5_piece_9 (lv_at hl 5 rfl) ?_
  obtain ⟨r1, x2, hr0, h⟩ := bn2_elim h
  refine mp_call1 (As := [.int p1, .int p2, .int p3, .int p4, .int p5]) (rest := []) X (c_X2_addPiece l D y a hr0) (mp_cw (k := 5) hts mM_X5_52 mI_X2_addPiece mS_X2_addPiece mN_X2 mC_X2_addPiece rfl rfl (by decide +kernel) ⟨Nat.le_of_ble_eq_true rfl, Nat.le_of_ble_eq_true rfl⟩) hK hP hD hS hA 1 pwC_1 rfl rfl hl.1 rfl (Nat.le_of_ble_eq_true rfl) dX5_piece_11 ⟨Nat.zero_le _, Nat.zero_le _⟩ (fun H locs hP hD hS => ?_)
  refine lv_istore (lv' := [(6, .int r1), (0, .ref (a 0)), (1, .int p1), (2, .int p2), (3, .int p3), (4, .int p4), (5, .int p5)]) hx hb dX5_piece_14 hl (by decide) rfl (fun ls hl => ?_)
  refine lv_iload hx hb dX5_piece_16 (lv_at hl 0 rfl) ?_
  refine lv_iconst (v := -1) hx hb dX5_piece_18 (by decide) ?_
  refine lv_icmp_eq (tgt := 29) hx hb dX5_piece_19 (by decide) (fun hc => ?_) (fun hc => ?_)
  · replace h := ift hc h
    refine lv_iload hx hb dX5_piece_29 (lv_at hl 0 rfl) ?_
    cases h
    exact mpr_i X hK hP hD hS rfl dX5_piece_31
  · replace h := iff_ hc h
    refine lv_aload_n hx hb dX5_piece_22 rfl (lv_at hl 1 rfl) ?_
    refine pwG_0_5 X hK hP mF_X5_48 dX5_piece_23 ?_
    obtain ⟨x3, hr0, h⟩ := bn1_elim h
    refine mp_callv (As := []) (rest := []) X (c_X1_scoreChanged l D y a hr0) (mp_cw (k := 0) hts mM_X5_56 mI_X1_scoreChanged mS_X1_scoreChanged mN_X1 mC_X1_scoreChanged rfl rfl (by decide +kernel) ⟨Nat.le_of_ble_eq_true rfl, Nat.le_of_ble_eq_true rfl⟩) hK hP hD hS hA 40 pwC_40 rfl rfl hl.1 rfl (Nat.le_of_ble_eq_true rfl) dX5_piece_26 ⟨Nat.zero_le _, Nat.zero_le _⟩ (fun H locs hP hD hS => ?_)
    refine lv_iload hx hb dX5_piece_29 (lv_at hl 0 rfl) ?_
    cases h
    exact mpr_i X hK hP hD hS rfl dX5_piece_31
def f_X2_isPiece (x : PD) (p1 : Int32) : Option (Int32) :=
  if p1 < 0 then
  (some ((0 : Int32)))
  else
  if (rI x 37) ≤ p1 then
  (some ((0 : Int32)))
  else
  some ((1 : Int32))
set_option maxHeartbeats 4000000 in
set_option maxRecDepth 100000 in
theorem c_X2_isPiece (l : Launch) (D : va_G) (y : CY) (a : Nat → Nat) {x : PD} {r : Int32} {p1 : Int32} (h : f_X2_isPiece x p1 = some r) : mpM l D y yX2_isPiece cX2_isPiece 2 (some .boolean) { frames := 0, cells := 0, slots := 0, locals := 0 } (pw y a x) (pw y a x) [.ref (a 1), .int p1] (some (.int r)) := by
  refine mpM.mk (own := RX2) (by decide) rfl (Nat.le_of_ble_eq_true rfl) ?_
  intro p e s m below meth c A ls X hK hA hP hD hl
  have hS : va_S A s.heap s.heap [] := va_S.rf
  obtain ⟨⟨hx, hb, hml, hown, hts⟩, hr, hlk⟩ := id X
  have hl : lv_has ls 2 [(0, .ref (a 1)), (1, .int p1)] := hl
  unfold f_X2_isPiece at h
  refine lv_iload_n hx hb dX2_isPiece_0 rfl (lv_at hl 1 rfl) ?_
  refine lv_if_lt (tgt := 16) hx hb dX2_isPiece_1 (by decide) (fun hc => ?_) (fun hc => ?_)
  · replace h := ift hc h
    refine lv_iconst (v := 0) hx hb dX2_isPiece_16 (by decide) ?_
    cases h
    exact mpr_z X hK hP hD hS rfl rfl dX2_isPiece_17
  · replace h := iff_ hc h
    refine lv_iload_n hx hb dX2_isPiece_4 rfl (lv_at hl 1 rfl) ?_
    refine lv_aload_n hx hb dX2_isPiece_5 rfl (lv_at hl 0 rfl) ?_
    refine pwG_1_5 X hK hP mF_X2_42 dX2_isPiece_6 ?_
    refine lv_icmp_ge (tgt := 16) hx hb dX2_isPiece_9 (by decide) (fun hc => ?_) (fun hc => ?_)
    · replace h := ift hc h
      refine lv_iconst (v := 0) hx hb dX2_isPiece_16 (by decide) ?_
      cases h
      exact mpr_z X hK hP hD hS rfl rfl dX2_isPiece_17
    · replace h := iff_ hc h
      refine lv_iconst (v := 1) hx hb dX2_isPiece_12 (by decide) ?_
      refine lv_goto (tgt := 17) hx hb dX2_isPiece_13 (by decide) ?_
      cases h
      exact mpr_z X hK hP hD hS rfl rfl dX2_isPiece_17
def f_X5_checkPiece (x : PD) (p1 : Int32) : Option (Unit) :=
  bn1 (f_X2_isPiece x p1) fun r1 =>
  if r1 = 0 then
  none
  else
  some ()
set_option maxHeartbeats 4000000 in
set_option maxRecDepth 100000 in
theorem c_X5_checkPiece (l : Launch) (D : va_G) (y : CY) (a : Nat → Nat) {x : PD} {u' : Unit} {p1 : Int32} (h : f_X5_checkPiece x p1 = some u') : mpM l D y yX5_checkPiece cX5_checkPiece 2 none { frames := 1, cells := 0, slots := 0, locals := 21 } (pw y a x) (pw y a x) [.ref (a 0), .int p1] none := by
  refine mpM.mk (own := RX5) (by decide) rfl (Nat.le_of_ble_eq_true rfl) ?_
  intro p e s m below meth c A ls X hK hA hP hD hl
  have hS : va_S A s.heap s.heap [] := va_S.rf
  obtain ⟨⟨hx, hb, hml, hown, hts⟩, hr, hlk⟩ := id X
  have hl : lv_has ls 2 [(0, .ref (a 0)), (1, .int p1)] := hl
  unfold f_X5_checkPiece at h
  refine lv_aload_n hx hb dX5_checkPiece_0 rfl (lv_at hl 0 rfl) ?_
  refine pwG_0_0 X hK hP mF_X5_12 dX5_checkPiece_1 ?_
  refine lv_iload_n hx hb dX5_checkPiece_4 rfl (lv_at hl 1 rfl) ?_
  obtain ⟨r1, hr0, h⟩ := bn1_elim h
  refine mp_call1 (As := [.int p1]) (rest := []) X (c_X2_isPiece l D y a hr0) (mp_cw (k := 1) hts mM_X5_227 mI_X2_isPiece mS_X2_isPiece mN_X2 mC_X2_isPiece rfl rfl (by decide +kernel) ⟨Nat.le_of_ble_eq_true rfl, Nat.le_of_ble_eq_true rfl⟩) hK hP hD hS hA 1 pwC_1 rfl rfl hl.1 rfl (Nat.le_of_ble_eq_true rfl) dX5_checkPiece_5 ⟨Nat.zero_le _, Nat.zero_le _⟩ (fun H locs hP hD hS => ?_)
  refine lv_if_ne (tgt := 21) hx hb dX5_checkPiece_8 (by decide) (fun hc => ?_) (fun hc => ?_)
  · replace h := iff_ hc h
    exact mpr_v X hK hP hD hS dX5_checkPiece_21
  · replace h := ift hc h
    exact nons h
def f_X2_canPlay (x : PD) (p1 : Int32) : Option (Int32) :=
  bn1 (f_X2_isPiece x p1) fun r1 =>
  if r1 = 0 then
  (some ((0 : Int32)))
  else
  gd (inR p1 20) (if (rA x 2 (Int32.toNatClampNeg p1)) = 0 then
  (some ((1 : Int32)))
  else
  gd (inR p1 20) (if (rA x 2 (Int32.toNatClampNeg p1)) = ((1 : Int32)) then
  some ((1 : Int32))
  else
  some ((0 : Int32))))
set_option maxHeartbeats 4000000 in
set_option maxRecDepth 100000 in
theorem c_X2_canPlay (l : Launch) (D : va_G) (y : CY) (a : Nat → Nat) {x : PD} {r : Int32} {p1 : Int32} (h : f_X2_canPlay x p1 = some r) : mpM l D y yX2_canPlay cX2_canPlay 2 (some .boolean) { frames := 1, cells := 0, slots := 0, locals := 21 } (pw y a x) (pw y a x) [.ref (a 1), .int p1] (some (.int r)) := by
  refine mpM.mk (own := RX2) (by decide) rfl (Nat.le_of_ble_eq_true rfl) ?_
  intro p e s m below meth c A ls X hK hA hP hD hl
  have hS : va_S A s.heap s.heap [] := va_S.rf
  obtain ⟨⟨hx, hb, hml, hown, hts⟩, hr, hlk⟩ := id X
  have hl : lv_has ls 2 [(0, .ref (a 1)), (1, .int p1)] := hl
  unfold f_X2_canPlay at h
  refine lv_aload_n hx hb dX2_canPlay_0 rfl (lv_at hl 0 rfl) ?_
  refine lv_iload_n hx hb dX2_canPlay_1 rfl (lv_at hl 1 rfl) ?_
  obtain ⟨r1, hr0, h⟩ := bn1_elim h
  refine mp_call1 (As := [.int p1]) (rest := []) X (c_X2_isPiece l D y a hr0) (mp_cw (k := 1) hts mM_X2_57 mI_X2_isPiece mS_X2_isPiece mN_X2 mC_X2_isPiece rfl rfl (by decide +kernel) ⟨Nat.le_of_ble_eq_true rfl, Nat.le_of_ble_eq_true rfl⟩) hK hP hD hS hA 1 pwC_1 rfl rfl hl.1 rfl (Nat.le_of_ble_eq_true rfl) dX2_canPlay_2 ⟨Nat.zero_le _, Nat.zero_le _⟩ (fun H locs hP hD hS => ?_)
  refine lv_if_eq (tgt := 31) hx hb dX2_canPlay_5 (by decide) (fun hc => ?_) (fun hc => ?_)
  · replace h := ift hc h
    refine lv_iconst (v := 0) hx hb dX2_canPlay_31 (by decide) ?_
    cases h
    exact mpr_z X hK hP hD hS rfl rfl dX2_canPlay_32
  · replace h := iff_ hc h
    refine lv_aload_n hx hb dX2_canPlay_8 rfl (lv_at hl 0 rfl) ?_
    refine pwG_1_0 X hK hP mF_X2_9 dX2_canPlay_9 ?_
    refine lv_iload_n hx hb dX2_canPlay_12 rfl (lv_at hl 1 rfl) ?_
    obtain ⟨hg, h⟩ := gd_elim h
    refine pwL_2 X hK hP hg dX2_canPlay_13 ?_
    refine lv_if_eq (tgt := 27) hx hb dX2_canPlay_14 (by decide) (fun hc => ?_) (fun hc => ?_)
    · replace h := ift hc h
      refine lv_iconst (v := 1) hx hb dX2_canPlay_27 (by decide) ?_
      refine lv_goto (tgt := 32) hx hb dX2_canPlay_28 (by decide) ?_
      cases h
      exact mpr_z X hK hP hD hS rfl rfl dX2_canPlay_32
    · replace h := iff_ hc h
      refine lv_aload_n hx hb dX2_canPlay_17 rfl (lv_at hl 0 rfl) ?_
      refine pwG_1_0 X hK hP mF_X2_9 dX2_canPlay_18 ?_
      refine lv_iload_n hx hb dX2_canPlay_21 rfl (lv_at hl 1 rfl) ?_
      obtain ⟨hg, h⟩ := gd_elim h
      refine pwL_2 X hK hP hg dX2_canPlay_22 ?_
      refine lv_iconst (v := 1) hx hb dX2_canPlay_23 (by decide) ?_
      refine lv_icmp_ne (tgt := 31) hx hb dX2_canPlay_24 (by decide) (fun hc => ?_) (fun hc => ?_)
      · replace h := iff_ hc h
        refine lv_iconst (v := 0) hx hb dX2_canPlay_31 (by decide) ?_
        cases h
        exact mpr_z X hK hP hD hS rfl rfl dX2_canPlay_32
      · replace h := ift hc h
        refine lv_iconst (v := 1) hx hb dX2_canPlay_27 (by decide) ?_
        refine lv_goto (tgt := 32) hx hb dX2_canPlay_28 (by decide) ?_
        cases h
        exact mpr_z X hK hP hD hS rfl rfl dX2_canPlay_32
def f_X2_isJoint_b3 (x : PD) : Nat → Int32 → Int32 → Int32 → Int32 → Option (Int32)
  | 0, _, _, _, _ => none
  | n + 1, v1, v2, v3, v4 =>
    if (rI x 42) ≤ v4 then
  (some ((0 : Int32)))
  else
  gd (inR v4 100) (if (rA x 7 (Int32.toNatClampNeg v4)) = v1 then
  gd (inR v4 100) (if (rA x 8 (Int32.toNatClampNeg v4)) = v2 then
  gd (inR v4 100) (if (rA x 9 (Int32.toNatClampNeg v4)) = v3 then
  some ((1 : Int32))
  else
  ((f_X2_isJoint_b3 x n) v1 v2 v3 (v4 + 1)))
  else
  ((f_X2_isJoint_b3 x n) v1 v2 v3 (v4 + 1)))
  else
  ((f_X2_isJoint_b3 x n) v1 v2 v3 (v4 + 1)))
set_option maxHeartbeats 4000000 in
set_option maxRecDepth 100000 in
theorem w_X2_isJoint_b3 {p : Program} {l : Launch} {e : Env} {s : State} {m : MethodId} {args : Array Value} {below : List Frame} {meth : Method} {c : Code} {D : va_G} {y : CY} {a : Nat → Nat} {A : Nat → Prop} {x : PD} {r : Int32} (X : mpX p s m args meth c cX2_isJoint 5 (some .boolean) RX2) (hK : va_K D vwCl (mpT y) s) (hA : ∀ q, s.heap.size ≤ q → A q) : ∀ (n : Nat), ∀ (v1 : Int32) (v2 : Int32) (v3 : Int32) (v4 : Int32) (H : Heap) (locs : List Loc) (ls : Array Slot), va_P D vwCl (pw y a x) H → va_D A (pw y a x) → va_S A s.heap H locs → lv_has ls 5 [(0, .ref (a 1)), (1, .int v1), (2, .int v2), (3, .int v3), (4, .int v4)] → f_X2_isJoint_b3 x n v1 v2 v3 v4 = some r → W p l e { frames := 0, cells := 0, slots := 0, locals := 0 } s m args below meth c H locs 0 0 (MQ below (mpC D y A (pw y a x) (some (.int r))) args s 0 0 A) (F0 m 3 ls []) := by
  obtain ⟨⟨hx, hb, hml, hown, hts⟩, hr, hlk⟩ := id X
  intro n
  induction n with
  | zero =>
    intro v1 v2 v3 v4 H locs ls hP hD hS hl h
    rw [f_X2_isJoint_b3] at h
    exact nons h
  | succ n ih =>
    intro v1 v2 v3 v4 H locs ls hP hD hS hl h
    rw [f_X2_isJoint_b3] at h
    refine lv_iload hx hb dX2_isJoint_3 (lv_at hl 4 rfl) ?_
    refine lv_aload_n hx hb dX2_isJoint_5 rfl (lv_at hl 0 rfl) ?_
    refine pwG_1_10 X hK hP mF_X2_50 dX2_isJoint_6 ?_
    refine lv_icmp_ge (tgt := 53) hx hb dX2_isJoint_9 (by decide) (fun hc => ?_) (fun hc => ?_)
    · replace h := ift hc h
      refine lv_iconst (v := 0) hx hb dX2_isJoint_53 (by decide) ?_
      cases h
      exact mpr_z X hK hP hD hS rfl rfl dX2_isJoint_54
    · replace h := iff_ hc h
      refine lv_aload_n hx hb dX2_isJoint_12 rfl (lv_at hl 0 rfl) ?_
      refine pwG_1_6 X hK hP mF_X2_27 dX2_isJoint_13 ?_
      refine lv_iload hx hb dX2_isJoint_16 (lv_at hl 4 rfl) ?_
      obtain ⟨hg, h⟩ := gd_elim h
      refine pwL_7 X hK hP hg dX2_isJoint_18 ?_
      refine lv_iload_n hx hb dX2_isJoint_19 rfl (lv_at hl 1 rfl) ?_
      refine lv_icmp_ne (tgt := 47) hx hb dX2_isJoint_20 (by decide) (fun hc => ?_) (fun hc => ?_)
      · replace h := iff_ hc h
        refine lv_iinc (v := v4 + 1) (lv' := [(4, .int (v4 + 1)), (0, .ref (a 1)), (1, .int v1), (2, .int v2), (3, .int v3)]) hx hb dX2_isJoint_47 hl (k := 4) rfl rfl (by decide) rfl (fun ls hl => ?_)
        refine lv_goto (tgt := 3) hx hb dX2_isJoint_50 (by decide) ?_
        exact ih v1 v2 v3 (v4 + 1) _ _ _ hP hD hS (lv_sub hl [1, 2, 3, 4, 0] rfl) h
      · replace h := ift hc h
        refine lv_aload_n hx hb dX2_isJoint_23 rfl (lv_at hl 0 rfl) ?_
        refine pwG_1_7 X hK hP mF_X2_30 dX2_isJoint_24 ?_
        refine lv_iload hx hb dX2_isJoint_27 (lv_at hl 4 rfl) ?_
        obtain ⟨hg, h⟩ := gd_elim h
        refine pwL_8 X hK hP hg dX2_isJoint_29 ?_
        refine lv_iload_n hx hb dX2_isJoint_30 rfl (lv_at hl 2 rfl) ?_
        refine lv_icmp_ne (tgt := 47) hx hb dX2_isJoint_31 (by decide) (fun hc => ?_) (fun hc => ?_)
        · replace h := iff_ hc h
          refine lv_iinc (v := v4 + 1) (lv' := [(4, .int (v4 + 1)), (0, .ref (a 1)), (1, .int v1), (2, .int v2), (3, .int v3)]) hx hb dX2_isJoint_47 hl (k := 4) rfl rfl (by decide) rfl (fun ls hl => ?_)
          refine lv_goto (tgt := 3) hx hb dX2_isJoint_50 (by decide) ?_
          exact ih v1 v2 v3 (v4 + 1) _ _ _ hP hD hS (lv_sub hl [1, 2, 3, 4, 0] rfl) h
        · replace h := ift hc h
          refine lv_aload_n hx hb dX2_isJoint_34 rfl (lv_at hl 0 rfl) ?_
          refine pwG_1_8 X hK hP mF_X2_33 dX2_isJoint_35 ?_
          refine lv_iload hx hb dX2_isJoint_38 (lv_at hl 4 rfl) ?_
          obtain ⟨hg, h⟩ := gd_elim h
          refine pwL_9 X hK hP hg dX2_isJoint_40 ?_
          refine lv_iload_n hx hb dX2_isJoint_41 rfl (lv_at hl 3 rfl) ?_
          refine lv_icmp_ne (tgt := 47) hx hb dX2_isJoint_42 (by decide) (fun hc => ?_) (fun hc => ?_)
          · replace h := iff_ hc h
            refine lv_iinc (v := v4 + 1) (lv' := [(4, .int (v4 + 1)), (0, .ref (a 1)), (1, .int v1), (2, .int v2), (3, .int v3)]) hx hb dX2_isJoint_47 hl (k := 4) rfl rfl (by decide) rfl (fun ls hl => ?_)
            refine lv_goto (tgt := 3) hx hb dX2_isJoint_50 (by decide) ?_
            exact ih v1 v2 v3 (v4 + 1) _ _ _ hP hD hS (lv_sub hl [1, 2, 3, 4, 0] rfl) h
          · replace h := ift hc h
            refine lv_iconst (v := 1) hx hb dX2_isJoint_45 (by decide) ?_
            cases h
            exact mpr_z X hK hP hD hS rfl rfl dX2_isJoint_46
def f_X2_isJoint (x : PD) (p1 : Int32) (p2 : Int32) (p3 : Int32) : Option (Int32) :=
  (f_X2_isJoint_b3 x FU p1 p2 p3 ((0 : Int32)))
set_option maxHeartbeats 4000000 in
set_option maxRecDepth 100000 in
theorem c_X2_isJoint (l : Launch) (D : va_G) (y : CY) (a : Nat → Nat) {x : PD} {r : Int32} {p1 : Int32} {p2 : Int32} {p3 : Int32} (h : f_X2_isJoint x p1 p2 p3 = some r) : mpM l D y yX2_isJoint cX2_isJoint 5 (some .boolean) { frames := 0, cells := 0, slots := 0, locals := 0 } (pw y a x) (pw y a x) [.ref (a 1), .int p1, .int p2, .int p3] (some (.int r)) := by
  refine mpM.mk (own := RX2) (by decide) rfl (Nat.le_of_ble_eq_true rfl) ?_
  intro p e s m below meth c A ls X hK hA hP hD hl
  have hS : va_S A s.heap s.heap [] := va_S.rf
  obtain ⟨⟨hx, hb, hml, hown, hts⟩, hr, hlk⟩ := id X
  have hl : lv_has ls 5 [(0, .ref (a 1)), (1, .int p1), (2, .int p2), (3, .int p3)] := hl
  unfold f_X2_isJoint at h
  refine lv_iconst (v := 0) hx hb dX2_isJoint_0 (by decide) ?_
  refine lv_istore (lv' := [(4, .int ((0 : Int32))), (0, .ref (a 1)), (1, .int p1), (2, .int p2), (3, .int p3)]) hx hb dX2_isJoint_1 hl (by decide) rfl (fun ls hl => ?_)
  exact w_X2_isJoint_b3 X hK hA FU p1 p2 p3 ((0 : Int32)) _ _ _ hP hD hS (lv_sub hl [1, 2, 3, 4, 0] rfl) h
def f_X2_addJoint_b48 (x : PD) (v1 : Int32) (v2 : Int32) (v3 : Int32) (v4 : Int32) (t0 : Int32) : Option (Int32 × PD) :=
  if t0 = 0 then
  (some ((-1 : Int32), x))
  else
  if ((100 : Int32)) ≤ (rI x 42) then
  (some ((-1 : Int32), x))
  else
  bn1 (f_X2_isJoint x v1 v2 v3) fun r2 =>
  if r2 = 0 then
  (gd (inR (rI x 42) 100) (letv (wA x 7 (upd (rA x 7) (Int32.toNatClampNeg (rI x 42)) v1)) fun x3 =>
  gd (inR (rI x3 42) 100) (letv (wA x3 8 (upd (rA x3 8) (Int32.toNatClampNeg (rI x3 42)) v2)) fun x4 =>
  gd (inR (rI x4 42) 100) (letv (wA x4 9 (upd (rA x4 9) (Int32.toNatClampNeg (rI x4 42)) v3)) fun x5 =>
  gd (inR (rI x5 42) 100) (letv (wA x5 10 (upd (rA x5 10) (Int32.toNatClampNeg (rI x5 42)) v4)) fun x6 =>
  letv (wI x6 42 ((rI x6 42) + ((1 : Int32)))) fun x7 =>
  some ((rI x7 42) - ((1 : Int32)), x7))))))
  else
  some ((-1 : Int32), x)
set_option maxHeartbeats 4000000 in
set_option maxRecDepth 100000 in
theorem w_X2_addJoint_b48 {p : Program} {l : Launch} {e : Env} {s : State} {m : MethodId} {args : Array Value} {below : List Frame} {meth : Method} {c : Code} {D : va_G} {y : CY} {a : Nat → Nat} {A : Nat → Prop} {x' : PD} {r : Int32} (X : mpX p s m args meth c cX2_addJoint 6 (some .int) RX2) (hK : va_K D vwCl (mpT y) s) (hA : ∀ q, s.heap.size ≤ q → A q) : ∀ (x : PD) (v1 : Int32) (v2 : Int32) (v3 : Int32) (v4 : Int32) (t0 : Int32) (H : Heap) (locs : List Loc) (ls : Array Slot), va_P D vwCl (pw y a x) H → va_D A (pw y a x) → va_S A s.heap H locs → lv_has ls 6 [(0, .ref (a 1)), (1, .int v1), (2, .int v2), (3, .int v3), (4, .int v4)] → f_X2_addJoint_b48 x v1 v2 v3 v4 t0 = some (r, x') → W p l e { frames := 2, cells := 0, slots := 0, locals := 42 } s m args below meth c H locs 0 0 (MQ below (mpC D y A (pw y a x') (some (.int r))) args s 0 0 A) (F0 m 48 ls [.int t0]) := by
  obtain ⟨⟨hx, hb, hml, hown, hts⟩, hr, hlk⟩ := id X
  intro x v1 v2 v3 v4 t0 H locs ls hP hD hS hl h
  unfold f_X2_addJoint_b48 at h
  refine lv_istore (lv' := [(5, .int t0), (0, .ref (a 1)), (1, .int v1), (2, .int v2), (3, .int v3), (4, .int v4)]) hx hb dX2_addJoint_48 hl (by decide) rfl (fun ls hl => ?_)
  refine lv_iload hx hb dX2_addJoint_50 (lv_at hl 0 rfl) ?_
  refine lv_if_eq (tgt := 74) hx hb dX2_addJoint_52 (by decide) (fun hc => ?_) (fun hc => ?_)
  · replace h := ift hc h
    refine lv_iconst (v := -1) hx hb dX2_addJoint_74 (by decide) ?_
    cases h
    exact mpr_i X hK hP hD hS rfl dX2_addJoint_75
  · replace h := iff_ hc h
    refine lv_aload_n hx hb dX2_addJoint_55 rfl (lv_at hl 1 rfl) ?_
    refine pwG_1_10 X hK hP mF_X2_50 dX2_addJoint_56 ?_
    refine lv_bipush (v := 100) hx hb dX2_addJoint_59 (by decide) ?_
    refine lv_icmp_ge (tgt := 74) hx hb dX2_addJoint_61 (by decide) (fun hc => ?_) (fun hc => ?_)
    · replace h := ift hc h
      refine lv_iconst (v := -1) hx hb dX2_addJoint_74 (by decide) ?_
      cases h
      exact mpr_i X hK hP hD hS rfl dX2_addJoint_75
    · replace h := iff_ hc h
      refine lv_aload_n hx hb dX2_addJoint_64 rfl (lv_at hl 1 rfl) ?_
      refine lv_iload_n hx hb dX2_addJoint_65 rfl (lv_at hl 2 rfl) ?_
      refine lv_iload_n hx hb dX2_addJoint_66 rfl (lv_at hl 3 rfl) ?_
      refine lv_iload_n hx hb dX2_addJoint_67 rfl (lv_at hl 4 rfl) ?_
      obtain ⟨r2, hr0, h⟩ := bn1_elim h
      refine mp_call1 (As := [.int v1, .int v2, .int v3]) (rest := []) X (c_X2_isJoint l D y a hr0) (mp_cw (k := 3) hts mM_X2_53 mI_X2_isJoint mS_X2_isJoint mN_X2 mC_X2_isJoint rfl rfl (by decide +kernel) ⟨Nat.le_of_ble_eq_true rfl, Nat.le_of_ble_eq_true rfl⟩) hK hP hD hS hA 1 pwC_1 rfl rfl hl.1 rfl (Nat.le_of_ble_eq_true rfl) dX2_addJoint_68 ⟨Nat.zero_le _, Nat.zero_le _⟩ (fun H locs hP hD hS => ?_)
      refine lv_if_eq (tgt := 76) hx hb dX2_addJoint_71 (by decide) (fun hc => ?_) (fun hc => ?_)
      · replace h := ift hc h
        refine lv_aload_n hx hb dX2_addJoint_76 rfl (lv_at hl 1 rfl) ?_
        refine pwG_1_6 X hK hP mF_X2_27 dX2_addJoint_77 ?_
        refine lv_aload_n hx hb dX2_addJoint_80 rfl (lv_at hl 1 rfl) ?_
        refine pwG_1_10 X hK hP mF_X2_50 dX2_addJoint_81 ?_
        refine lv_iload_n hx hb dX2_addJoint_84 rfl (lv_at hl 2 rfl) ?_
        obtain ⟨hg, h⟩ := gd_elim h
        obtain ⟨x3, e1, h⟩ := letv_elim h
        refine pwS_7 X hK hP hD hS hg e1 dX2_addJoint_85 (fun H locs hP hD hS => ?_)
        refine lv_aload_n hx hb dX2_addJoint_86 rfl (lv_at hl 1 rfl) ?_
        refine pwG_1_7 X hK hP mF_X2_30 dX2_addJoint_87 ?_
        refine lv_aload_n hx hb dX2_addJoint_90 rfl (lv_at hl 1 rfl) ?_
        refine pwG_1_10 X hK hP mF_X2_50 dX2_addJoint_91 ?_
        refine lv_iload_n hx hb dX2_addJoint_94 rfl (lv_at hl 3 rfl) ?_
        obtain ⟨hg, h⟩ := gd_elim h
        obtain ⟨x4, e1, h⟩ := letv_elim h
        refine pwS_8 X hK hP hD hS hg e1 dX2_addJoint_95 (fun H locs hP hD hS => ?_)
        refine lv_aload_n hx hb dX2_addJoint_96 rfl (lv_at hl 1 rfl) ?_
        refine pwG_1_8 X hK hP mF_X2_33 dX2_addJoint_97 ?_
        refine lv_aload_n hx hb dX2_addJoint_100 rfl (lv_at hl 1 rfl) ?_
        refine pwG_1_10 X hK hP mF_X2_50 dX2_addJoint_101 ?_
        refine lv_iload_n hx hb dX2_addJoint_104 rfl (lv_at hl 4 rfl) ?_
        obtain ⟨hg, h⟩ := gd_elim h
        obtain ⟨x5, e1, h⟩ := letv_elim h
        refine pwS_9 X hK hP hD hS hg e1 dX2_addJoint_105 (fun H locs hP hD hS => ?_)
        refine lv_aload_n hx hb dX2_addJoint_106 rfl (lv_at hl 1 rfl) ?_
        refine pwG_1_9 X hK hP mF_X2_36 dX2_addJoint_107 ?_
        refine lv_aload_n hx hb dX2_addJoint_110 rfl (lv_at hl 1 rfl) ?_
        refine pwG_1_10 X hK hP mF_X2_50 dX2_addJoint_111 ?_
        refine lv_iload hx hb dX2_addJoint_114 (lv_at hl 5 rfl) ?_
        obtain ⟨hg, h⟩ := gd_elim h
        obtain ⟨x6, e1, h⟩ := letv_elim h
        refine pwS_10 X hK hP hD hS hg e1 dX2_addJoint_116 (fun H locs hP hD hS => ?_)
        refine lv_aload_n hx hb dX2_addJoint_117 rfl (lv_at hl 1 rfl) ?_
        refine lv_dup hx hb dX2_addJoint_118 rfl ?_
        refine pwG_1_10 X hK hP mF_X2_50 dX2_addJoint_119 ?_
        refine lv_iconst (v := 1) hx hb dX2_addJoint_122 (by decide) ?_
        refine lv_iadd hx hb dX2_addJoint_123 ?_
        obtain ⟨x7, e1, h⟩ := letv_elim h
        refine pwP_1_10 X hK hP hD hS mF_X2_50 e1 dX2_addJoint_124 (fun H locs hP hD hS => ?_)
        refine lv_aload_n hx hb dX2_addJoint_127 rfl (lv_at hl 1 rfl) ?_
        refine pwG_1_10 X hK hP mF_X2_50 dX2_addJoint_128 ?_
        refine lv_iconst (v := 1) hx hb dX2_addJoint_131 (by decide) ?_
        refine lv_isub hx hb dX2_addJoint_132 ?_
        cases h
        exact mpr_i X hK hP hD hS rfl dX2_addJoint_133
      · replace h := iff_ hc h
        refine lv_iconst (v := -1) hx hb dX2_addJoint_74 (by decide) ?_
        cases h
        exact mpr_i X hK hP hD hS rfl dX2_addJoint_75
def f_X2_addJoint (x : PD) (p1 : Int32) (p2 : Int32) (p3 : Int32) (p4 : Int32) : Option (Int32 × PD) :=
  bn1 (f_X2_canPlay x p1) fun r1 =>
  if r1 = 0 then
  ((f_X2_addJoint_b48 x p1 p2 p3 p4 ((0 : Int32))))
  else
  bn1 (f_X2_canPlay x p3) fun r8 =>
  if r8 = 0 then
  ((f_X2_addJoint_b48 x p1 p2 p3 p4 ((0 : Int32))))
  else
  if p2 < ((1 : Int32)) then
  ((f_X2_addJoint_b48 x p1 p2 p3 p4 ((0 : Int32))))
  else
  gd (inR p1 20) (if (rA x 3 (Int32.toNatClampNeg p1)) < p2 then
  ((f_X2_addJoint_b48 x p1 p2 p3 p4 ((0 : Int32))))
  else
  if p4 < 0 then
  ((f_X2_addJoint_b48 x p1 p2 p3 p4 ((0 : Int32))))
  else
  if ((99 : Int32)) < p4 then
  ((f_X2_addJoint_b48 x p1 p2 p3 p4 ((0 : Int32))))
  else
  (f_X2_addJoint_b48 x p1 p2 p3 p4 ((1 : Int32))))
set_option maxHeartbeats 4000000 in
set_option maxRecDepth 100000 in
theorem c_X2_addJoint (l : Launch) (D : va_G) (y : CY) (a : Nat → Nat) {x : PD} {x' : PD} {r : Int32} {p1 : Int32} {p2 : Int32} {p3 : Int32} {p4 : Int32} (h : f_X2_addJoint x p1 p2 p3 p4 = some (r, x')) : mpM l D y yX2_addJoint cX2_addJoint 6 (some .int) { frames := 2, cells := 0, slots := 0, locals := 42 } (pw y a x) (pw y a x') [.ref (a 1), .int p1, .int p2, .int p3, .int p4] (some (.int r)) := by
  refine mpM.mk (own := RX2) (by decide) rfl (Nat.le_of_ble_eq_true rfl) ?_
  intro p e s m below meth c A ls X hK hA hP hD hl
  have hS : va_S A s.heap s.heap [] := va_S.rf
  obtain ⟨⟨hx, hb, hml, hown, hts⟩, hr, hlk⟩ := id X
  have hl : lv_has ls 6 [(0, .ref (a 1)), (1, .int p1), (2, .int p2), (3, .int p3), (4, .int p4)] := hl
  unfold f_X2_addJoint at h
  refine lv_aload_n hx hb dX2_addJoint_0 rfl (lv_at hl 0 rfl) ?_
  refine lv_iload_n hx hb dX2_addJoint_1 rfl (lv_at hl 1 rfl) ?_
  obtain ⟨r1, hr0, h⟩ := bn1_elim h
  refine mp_call1 (As := [.int p1]) (rest := []) X (c_X2_canPlay l D y a hr0) (mp_cw (k := 1) hts mM_X2_46 mI_X2_canPlay mS_X2_canPlay mN_X2 mC_X2_canPlay rfl rfl (by decide +kernel) ⟨Nat.le_of_ble_eq_true rfl, Nat.le_of_ble_eq_true rfl⟩) hK hP hD hS hA 1 pwC_1 rfl rfl hl.1 rfl (Nat.le_of_ble_eq_true rfl) dX2_addJoint_2 ⟨Nat.zero_le _, Nat.zero_le _⟩ (fun H locs hP hD hS => ?_)
  refine lv_if_eq (tgt := 47) hx hb dX2_addJoint_5 (by decide) (fun hc => ?_) (fun hc => ?_)
  · replace h := ift hc h
    refine lv_iconst (v := 0) hx hb dX2_addJoint_47 (by decide) ?_
    exact w_X2_addJoint_b48 X hK hA x p1 p2 p3 p4 ((0 : Int32)) _ _ _ hP hD hS (lv_sub hl [0, 1, 2, 3, 4] rfl) h
  · replace h := iff_ hc h
    refine lv_aload_n hx hb dX2_addJoint_8 rfl (lv_at hl 0 rfl) ?_
    refine lv_iload_n hx hb dX2_addJoint_9 rfl (lv_at hl 3 rfl) ?_
    obtain ⟨r8, hr0, h⟩ := bn1_elim h
    refine mp_call1 (As := [.int p3]) (rest := []) X (c_X2_canPlay l D y a hr0) (mp_cw (k := 1) hts mM_X2_46 mI_X2_canPlay mS_X2_canPlay mN_X2 mC_X2_canPlay rfl rfl (by decide +kernel) ⟨Nat.le_of_ble_eq_true rfl, Nat.le_of_ble_eq_true rfl⟩) hK hP hD hS hA 1 pwC_1 rfl rfl hl.1 rfl (Nat.le_of_ble_eq_true rfl) dX2_addJoint_10 ⟨Nat.zero_le _, Nat.zero_le _⟩ (fun H locs hP hD hS => ?_)
    refine lv_if_eq (tgt := 47) hx hb dX2_addJoint_13 (by decide) (fun hc => ?_) (fun hc => ?_)
    · replace h := ift hc h
      refine lv_iconst (v := 0) hx hb dX2_addJoint_47 (by decide) ?_
      exact w_X2_addJoint_b48 X hK hA x p1 p2 p3 p4 ((0 : Int32)) _ _ _ hP hD hS (lv_sub hl [0, 1, 2, 3, 4] rfl) h
    · replace h := iff_ hc h
      refine lv_iload_n hx hb dX2_addJoint_16 rfl (lv_at hl 2 rfl) ?_
      refine lv_iconst (v := 1) hx hb dX2_addJoint_17 (by decide) ?_
      refine lv_icmp_lt (tgt := 47) hx hb dX2_addJoint_18 (by decide) (fun hc => ?_) (fun hc => ?_)
      · replace h := ift hc h
        refine lv_iconst (v := 0) hx hb dX2_addJoint_47 (by decide) ?_
        exact w_X2_addJoint_b48 X hK hA x p1 p2 p3 p4 ((0 : Int32)) _ _ _ hP hD hS (lv_sub hl [0, 1, 2, 3, 4] rfl) h
      · replace h := iff_ hc h
        refine lv_iload_n hx hb dX2_addJoint_21 rfl (lv_at hl 2 rfl) ?_
        refine lv_aload_n hx hb dX2_addJoint_22 rfl (lv_at hl 0 rfl) ?_
        refine pwG_1_1 X hK hP mF_X2_15 dX2_addJoint_23 ?_
        refine lv_iload_n hx hb dX2_addJoint_26 rfl (lv_at hl 1 rfl) ?_
        obtain ⟨hg, h⟩ := gd_elim h
        refine pwL_3 X hK hP hg dX2_addJoint_27 ?_
        refine lv_icmp_gt (tgt := 47) hx hb dX2_addJoint_28 (by decide) (fun hc => ?_) (fun hc => ?_)
        · replace h := ift hc h
          refine lv_iconst (v := 0) hx hb dX2_addJoint_47 (by decide) ?_
          exact w_X2_addJoint_b48 X hK hA x p1 p2 p3 p4 ((0 : Int32)) _ _ _ hP hD hS (lv_sub hl [0, 1, 2, 3, 4] rfl) h
        · replace h := iff_ hc h
          refine lv_iload hx hb dX2_addJoint_31 (lv_at hl 4 rfl) ?_
          refine lv_if_lt (tgt := 47) hx hb dX2_addJoint_33 (by decide) (fun hc => ?_) (fun hc => ?_)
          · replace h := ift hc h
            refine lv_iconst (v := 0) hx hb dX2_addJoint_47 (by decide) ?_
            exact w_X2_addJoint_b48 X hK hA x p1 p2 p3 p4 ((0 : Int32)) _ _ _ hP hD hS (lv_sub hl [0, 1, 2, 3, 4] rfl) h
          · replace h := iff_ hc h
            refine lv_iload hx hb dX2_addJoint_36 (lv_at hl 4 rfl) ?_
            refine lv_bipush (v := 99) hx hb dX2_addJoint_38 (by decide) ?_
            refine lv_icmp_gt (tgt := 47) hx hb dX2_addJoint_40 (by decide) (fun hc => ?_) (fun hc => ?_)
            · replace h := ift hc h
              refine lv_iconst (v := 0) hx hb dX2_addJoint_47 (by decide) ?_
              exact w_X2_addJoint_b48 X hK hA x p1 p2 p3 p4 ((0 : Int32)) _ _ _ hP hD hS (lv_sub hl [0, 1, 2, 3, 4] rfl) h
            · replace h := iff_ hc h
              refine lv_iconst (v := 1) hx hb dX2_addJoint_43 (by decide) ?_
              refine lv_goto (tgt := 48) hx hb dX2_addJoint_44 (by decide) ?_
              exact w_X2_addJoint_b48 X hK hA x p1 p2 p3 p4 ((1 : Int32)) _ _ _ hP hD hS (lv_sub hl [0, 1, 2, 3, 4] rfl) h
def f_X5_joint (x : PD) (p1 : Int32) (p2 : Int32) (p3 : Int32) (p4 : Int32) : Option (Int32 × PD) :=
  bn1 (f_X5_checkPiece x p1) fun _u =>
  bn1 (f_X5_checkPiece x p3) fun _u =>
  bn2 (f_X2_addJoint x p1 p2 p3 p4) fun r1 x2 =>
  if r1 = ((-1 : Int32)) then
  (some (r1, x2))
  else
  bn1 (f_X1_scoreChanged x2) fun x3 =>
  some (r1, x3)
set_option maxHeartbeats 4000000 in
set_option maxRecDepth 100000 in
theorem c_X5_joint (l : Launch) (D : va_G) (y : CY) (a : Nat → Nat) {x : PD} {x' : PD} {r : Int32} {p1 : Int32} {p2 : Int32} {p3 : Int32} {p4 : Int32} (h : f_X5_joint x p1 p2 p3 p4 = some (r, x')) : mpM l D y yX5_joint cX5_joint 6 (some .int) { frames := 5, cells := 0, slots := 0, locals := 121 } (pw y a x) (pw y a x') [.ref (a 0), .int p1, .int p2, .int p3, .int p4] (some (.int r)) := by
  refine mpM.mk (own := RX5) (by decide) rfl (Nat.le_of_ble_eq_true rfl) ?_
  intro p e s m below meth c A ls X hK hA hP hD hl
  have hS : va_S A s.heap s.heap [] := va_S.rf
  obtain ⟨⟨hx, hb, hml, hown, hts⟩, hr, hlk⟩ := id X
  have hl : lv_has ls 6 [(0, .ref (a 0)), (1, .int p1), (2, .int p2), (3, .int p3), (4, .int p4)] := hl
  unfold f_X5_joint at h
  refine lv_aload_n hx hb dX5_joint_0 rfl (lv_at hl 0 rfl) ?_
  refine lv_iload_n hx hb dX5_joint_1 rfl (lv_at hl 1 rfl) ?_
  obtain ⟨u0, hr0, h⟩ := bn1_elim h
  refine mp_callv (As := [.int p1]) (rest := []) X (c_X5_checkPiece l D y a hr0) (mp_cw (k := 1) hts mM_X5_59 mI_X5_checkPiece mS_X5_checkPiece mN_X5 mC_X5_checkPiece rfl rfl (by decide +kernel) ⟨Nat.le_of_ble_eq_true rfl, Nat.le_of_ble_eq_true rfl⟩) hK hP hD hS hA 0 pwC_0 rfl rfl hl.1 rfl (Nat.le_of_ble_eq_true rfl) dX5_joint_2 ⟨Nat.zero_le _, Nat.zero_le _⟩ (fun H locs hP hD hS => ?_)
  refine lv_aload_n hx hb dX5_joint_5 rfl (lv_at hl 0 rfl) ?_
  refine lv_iload_n hx hb dX5_joint_6 rfl (lv_at hl 3 rfl) ?_
  obtain ⟨u0, hr0, h⟩ := bn1_elim h
  refine mp_callv (As := [.int p3]) (rest := []) X (c_X5_checkPiece l D y a hr0) (mp_cw (k := 1) hts mM_X5_59 mI_X5_checkPiece mS_X5_checkPiece mN_X5 mC_X5_checkPiece rfl rfl (by decide +kernel) ⟨Nat.le_of_ble_eq_true rfl, Nat.le_of_ble_eq_true rfl⟩) hK hP hD hS hA 0 pwC_0 rfl rfl hl.1 rfl (Nat.le_of_ble_eq_true rfl) dX5_joint_7 ⟨Nat.zero_le _, Nat.zero_le _⟩ (fun H locs hP hD hS => ?_)
  refine lv_aload_n hx hb dX5_joint_10 rfl (lv_at hl 0 rfl) ?_
  refine pwG_0_0 X hK hP mF_X5_12 dX5_joint_11 ?_
  refine lv_iload_n hx hb dX5_joint_14 rfl (lv_at hl 1 rfl) ?_
  refine lv_iload_n hx hb dX5_joint_15 rfl (lv_at hl 2 rfl) ?_
  refine lv_iload_n hx hb dX5_joint_16 rfl (lv_at hl 3 rfl) ?_
  refine lv_iload hx hb dX5_joint_17 (lv_at hl 4 rfl) ?_
  obtain ⟨r1, x2, hr0, h⟩ := bn2_elim h
  refine mp_call1 (As := [.int p1, .int p2, .int p3, .int p4]) (rest := []) X (c_X2_addJoint l D y a hr0) (mp_cw (k := 4) hts mM_X5_63 mI_X2_addJoint mS_X2_addJoint mN_X2 mC_X2_addJoint rfl rfl (by decide +kernel) ⟨Nat.le_of_ble_eq_true rfl, Nat.le_of_ble_eq_true rfl⟩) hK hP hD hS hA 1 pwC_1 rfl rfl hl.1 rfl (Nat.le_of_ble_eq_true rfl) dX5_joint_19 ⟨Nat.zero_le _, Nat.zero_le _⟩ (fun H locs hP hD hS => ?_)
  refine lv_istore (lv' := [(5, .int r1), (0, .ref (a 0)), (1, .int p1), (2, .int p2), (3, .int p3), (4, .int p4)]) hx hb dX5_joint_22 hl (by decide) rfl (fun ls hl => ?_)
  refine lv_iload hx hb dX5_joint_24 (lv_at hl 0 rfl) ?_
  refine lv_iconst (v := -1) hx hb dX5_joint_26 (by decide) ?_
  refine lv_icmp_eq (tgt := 37) hx hb dX5_joint_27 (by decide) (fun hc => ?_) (fun hc => ?_)
  · replace h := ift hc h
    refine lv_iload hx hb dX5_joint_37 (lv_at hl 0 rfl) ?_
    cases h
    exact mpr_i X hK hP hD hS rfl dX5_joint_39
  · replace h := iff_ hc h
    refine lv_aload_n hx hb dX5_joint_30 rfl (lv_at hl 1 rfl) ?_
    refine pwG_0_5 X hK hP mF_X5_48 dX5_joint_31 ?_
    obtain ⟨x3, hr0, h⟩ := bn1_elim h
    refine mp_callv (As := []) (rest := []) X (c_X1_scoreChanged l D y a hr0) (mp_cw (k := 0) hts mM_X5_56 mI_X1_scoreChanged mS_X1_scoreChanged mN_X1 mC_X1_scoreChanged rfl rfl (by decide +kernel) ⟨Nat.le_of_ble_eq_true rfl, Nat.le_of_ble_eq_true rfl⟩) hK hP hD hS hA 40 pwC_40 rfl rfl hl.1 rfl (Nat.le_of_ble_eq_true rfl) dX5_joint_34 ⟨Nat.zero_le _, Nat.zero_le _⟩ (fun H locs hP hD hS => ?_)
    refine lv_iload hx hb dX5_joint_37 (lv_at hl 0 rfl) ?_
    cases h
    exact mpr_i X hK hP hD hS rfl dX5_joint_39
