set_option maxHeartbeats 4000000 in
set_option maxRecDepth 100000 in
theorem lc_piece {p : Program} {e : Env} {s : State} {m : MethodId} {below : List Frame} {meth : Method} {c : Code} {l : Launch} {b L : Nat} {xs : Nat → Int32} {D : va_G} {y : CY} {a am : Nat → Nat} {x z z1 : PD} {x1 : PD} {r0 r : Int32} {x4 : Int32} {H : Heap} {locs : List Loc} {ls : Array Slot} {cells slots : Nat} {Q : State → Prop} {A : Nat → Prop} (X : mpX p s m #[Value.ref b] meth c code 8 ret RL) (hlt : l.stackTraces = false) (hT : thE A s s.heap) (hK : va_K D vwCl (mpT y) s) (hA : ∀ q, s.heap.size ≤ q → A q) (hX : va_X b L xs s s.heap) (hbl : b < s.heap.size) (hbA : ¬ A b) (hf : f_X5_piece x (xs (Int32.toNatClampNeg (x4 + 1))) (xs (Int32.toNatClampNeg (x4 + 2))) (xs (Int32.toNatClampNeg (x4 + 3))) (xs (Int32.toNatClampNeg (x4 + 4))) (xs (Int32.toNatClampNeg (x4 + 5))) = some (r0, x1)) (hm : f_X6_piece z (xs (Int32.toNatClampNeg (x4 + 1))) (xs (Int32.toNatClampNeg (x4 + 2))) (xs (Int32.toNatClampNeg (x4 + 3))) (xs (Int32.toNatClampNeg (x4 + 4))) (xs (Int32.toNatClampNeg (x4 + 5))) = some (r, z1)) (heq : r0 = r) (hi1 : vp_in (x4 + 1) L) (hi2 : vp_in (x4 + 2) L) (hi3 : vp_in (x4 + 3) L) (hi4 : vp_in (x4 + 4) L) (hi5 : vp_in (x4 + 5) L) (hroom : cells ≤ room_1.cells ∧ slots ≤ room_1.slots) (hP : va_P D vwCl (pw y a x ++ mw y am z) H) (hD : va_D A (pw y a x ++ mw y am z)) (hS : va_S A s.heap H locs) (hl : lv_has ls 8 [(0, .ref b), (1, .ref (a 0)), (2, .ref (am 0)), (3, .ref (a 45)), (4, .int x4)])
    (kk : ∀ (H : Heap) (locs : List Loc) (ls : Array Slot), va_P D vwCl (pw y a x1 ++ mw y am z1) H → va_D A (pw y a x1 ++ mw y am z1) → va_S A s.heap H locs → lv_has ls 8 [(0, .ref b), (1, .ref (a 0)), (2, .ref (am 0)), (3, .ref (a 45)), (4, .int x4)] → W p l e room_1 s m #[Value.ref b] below meth c H locs cells slots Q (F0 m 1182 ls [])) :
    W p l e room_1 s m #[Value.ref b] below meth c H locs cells slots Q (F0 m 128 ls []) := by
  obtain ⟨⟨hx, hb, hml, hown, hts⟩, hr, hlk⟩ := id X
  refine lv_aload_n hx hb dL_law_128 rfl (lv_at hl 1 rfl) ?_
  refine lv_aload_n hx hb dL_law_129 rfl (lv_at hl 0 rfl) ?_
  refine lv_iload hx hb dL_law_130 (lv_at hl 4 rfl) ?_
  refine lv_iconst (v := 1) hx hb dL_law_132 (by decide) ?_
  refine lv_iadd hx hb dL_law_133 ?_
  refine va_sld hx hb hX hbl hbA hS hi1 dL_law_134 ?_
  refine lv_aload_n hx hb dL_law_135 rfl (lv_at hl 0 rfl) ?_
  refine lv_iload hx hb dL_law_136 (lv_at hl 4 rfl) ?_
  refine lv_iconst (v := 2) hx hb dL_law_138 (by decide) ?_
  refine lv_iadd hx hb dL_law_139 ?_
  refine va_sld hx hb hX hbl hbA hS hi2 dL_law_140 ?_
  refine lv_aload_n hx hb dL_law_141 rfl (lv_at hl 0 rfl) ?_
  refine lv_iload hx hb dL_law_142 (lv_at hl 4 rfl) ?_
  refine lv_iconst (v := 3) hx hb dL_law_144 (by decide) ?_
  refine lv_iadd hx hb dL_law_145 ?_
  refine va_sld hx hb hX hbl hbA hS hi3 dL_law_146 ?_
  refine lv_aload_n hx hb dL_law_147 rfl (lv_at hl 0 rfl) ?_
  refine lv_iload hx hb dL_law_148 (lv_at hl 4 rfl) ?_
  refine lv_iconst (v := 4) hx hb dL_law_150 (by decide) ?_
  refine lv_iadd hx hb dL_law_151 ?_
  refine va_sld hx hb hX hbl hbA hS hi4 dL_law_152 ?_
  refine lv_aload_n hx hb dL_law_153 rfl (lv_at hl 0 rfl) ?_
  refine lv_iload hx hb dL_law_154 (lv_at hl 4 rfl) ?_
  refine lv_iconst (v := 5) hx hb dL_law_156 (by decide) ?_
  refine lv_iadd hx hb dL_law_157 ?_
  refine va_sld hx hb hX hbl hbA hS hi5 dL_law_158 ?_
  refine lw_callP (As := [.int (xs (Int32.toNatClampNeg (x4 + 1))), .int (xs (Int32.toNatClampNeg (x4 + 2))), .int (xs (Int32.toNatClampNeg (x4 + 3))), .int (xs (Int32.toNatClampNeg (x4 + 4))), .int (xs (Int32.toNatClampNeg (x4 + 5)))]) (rest := []) X (c_X5_piece l D y a hf) (mp_cw (k := 5) hts mM_L_68 mI_X5_piece mS_X5_piece mN_X5 mC_X5_piece rfl rfl (by decide +kernel) ⟨(Nat.le_of_ble_eq_true rfl), (Nat.le_of_ble_eq_true rfl)⟩) hK hP hD hS hA 0 pwC_0 rfl rfl hl.1 rfl (Nat.le_of_ble_eq_true rfl) dL_law_159 hroom (fun H locs hP hD hS => ?_)
  refine lv_aload_n hx hb dL_law_162 rfl (lv_at hl 2 rfl) ?_
  refine lv_aload_n hx hb dL_law_163 rfl (lv_at hl 0 rfl) ?_
  refine lv_iload hx hb dL_law_164 (lv_at hl 4 rfl) ?_
  refine lv_iconst (v := 1) hx hb dL_law_166 (by decide) ?_
  refine lv_iadd hx hb dL_law_167 ?_
  refine va_sld hx hb hX hbl hbA hS hi1 dL_law_168 ?_
  refine lv_aload_n hx hb dL_law_169 rfl (lv_at hl 0 rfl) ?_
  refine lv_iload hx hb dL_law_170 (lv_at hl 4 rfl) ?_
  refine lv_iconst (v := 2) hx hb dL_law_172 (by decide) ?_
  refine lv_iadd hx hb dL_law_173 ?_
  refine va_sld hx hb hX hbl hbA hS hi2 dL_law_174 ?_
  refine lv_aload_n hx hb dL_law_175 rfl (lv_at hl 0 rfl) ?_
  refine lv_iload hx hb dL_law_176 (lv_at hl 4 rfl) ?_
  refine lv_iconst (v := 3) hx hb dL_law_178 (by decide) ?_
  refine lv_iadd hx hb dL_law_179 ?_
  refine va_sld hx hb hX hbl hbA hS hi3 dL_law_180 ?_
  refine lv_aload_n hx hb dL_law_181 rfl (lv_at hl 0 rfl) ?_
  refine lv_iload hx hb dL_law_182 (lv_at hl 4 rfl) ?_
  refine lv_iconst (v := 4) hx hb dL_law_184 (by decide) ?_
  refine lv_iadd hx hb dL_law_185 ?_
  refine va_sld hx hb hX hbl hbA hS hi4 dL_law_186 ?_
  refine lv_aload_n hx hb dL_law_187 rfl (lv_at hl 0 rfl) ?_
  refine lv_iload hx hb dL_law_188 (lv_at hl 4 rfl) ?_
  refine lv_iconst (v := 5) hx hb dL_law_190 (by decide) ?_
  refine lv_iadd hx hb dL_law_191 ?_
  refine va_sld hx hb hX hbl hbA hS hi5 dL_law_192 ?_
  refine lw_callM (As := [.int (xs (Int32.toNatClampNeg (x4 + 1))), .int (xs (Int32.toNatClampNeg (x4 + 2))), .int (xs (Int32.toNatClampNeg (x4 + 3))), .int (xs (Int32.toNatClampNeg (x4 + 4))), .int (xs (Int32.toNatClampNeg (x4 + 5)))]) (rest := [.int r0]) X (c_X6_piece l D y am hm) (mp_cw (k := 5) hts mM_L_72 mI_X6_piece mS_X6_piece mN_X6 mC_X6_piece rfl rfl (by decide +kernel) ⟨(Nat.le_of_ble_eq_true rfl), (Nat.le_of_ble_eq_true rfl)⟩) hK hP hD hS hA 0 mwC_0 rfl rfl hl.1 rfl (Nat.le_of_ble_eq_true rfl) dL_law_193 hroom (fun H locs hP hD hS => ?_)
  refine lv_icmp_eq (tgt := 1182) hx hb dL_law_196 (by decide) (fun _ => ?_) (fun hc => absurd heq hc)
  exact kk _ _ _ hP hD hS (lv_sub hl [0, 1, 2, 3, 4] rfl)
set_option maxHeartbeats 4000000 in
set_option maxRecDepth 100000 in
theorem lc_joint {p : Program} {e : Env} {s : State} {m : MethodId} {below : List Frame} {meth : Method} {c : Code} {l : Launch} {b L : Nat} {xs : Nat → Int32} {D : va_G} {y : CY} {a am : Nat → Nat} {x z z1 : PD} {x1 : PD} {r : Int32} {th : Int32} {o0 : Int64} {x4 : Int32} {H : Heap} {locs : List Loc} {ls : Array Slot} {cells slots : Nat} {Q : State → Prop} {A : Nat → Prop} (X : mpX p s m #[Value.ref b] meth c code 8 ret RL) (hlt : l.stackTraces = false) (hT : thE A s s.heap) (hK : va_K D vwCl (mpT y) s) (hA : ∀ q, s.heap.size ≤ q → A q) (hX : va_X b L xs s s.heap) (hbl : b < s.heap.size) (hbA : ¬ A b) (hf : f_L_joint x (xs (Int32.toNatClampNeg (x4 + 1))) (xs (Int32.toNatClampNeg (x4 + 2))) (xs (Int32.toNatClampNeg (x4 + 3))) (xs (Int32.toNatClampNeg (x4 + 4))) = some (0, x1)) (hm : f_X6_joint z (xs (Int32.toNatClampNeg (x4 + 1))) (xs (Int32.toNatClampNeg (x4 + 2))) (xs (Int32.toNatClampNeg (x4 + 3))) (xs (Int32.toNatClampNeg (x4 + 4))) = some (r, z1)) (ht0 : f_X6_thrown z1 = some th) (hth : th = 0) (ho : rB x1 45 0 = o0) (heq : o0 = Int32.toInt64 r) (hi1 : vp_in (x4 + 1) L) (hi2 : vp_in (x4 + 2) L) (hi3 : vp_in (x4 + 3) L) (hi4 : vp_in (x4 + 4) L) (hroom : cells ≤ room_1.cells ∧ slots ≤ room_1.slots) (hP : va_P D vwCl (pw y a x ++ mw y am z) H) (hD : va_D A (pw y a x ++ mw y am z)) (hS : va_S A s.heap H locs) (hl : lv_has ls 8 [(0, .ref b), (1, .ref (a 0)), (2, .ref (am 0)), (3, .ref (a 45)), (4, .int x4)])
    (kk : ∀ (H : Heap) (locs : List Loc) (ls : Array Slot), va_P D vwCl (pw y a x1 ++ mw y am z1) H → va_D A (pw y a x1 ++ mw y am z1) → va_S A s.heap H locs → lv_has ls 8 [(0, .ref b), (1, .ref (a 0)), (2, .ref (am 0)), (3, .ref (a 45)), (4, .int x4)] → W p l e room_1 s m #[Value.ref b] below meth c H locs cells slots Q (F0 m 1182 ls [])) :
    W p l e room_1 s m #[Value.ref b] below meth c H locs cells slots Q (F0 m 201 ls []) := by
  obtain ⟨⟨hx, hb, hml, hown, hts⟩, hr, hlk⟩ := id X
  refine lv_aload_n hx hb dL_law_201 rfl (lv_at hl 1 rfl) ?_
  refine lv_aload_n hx hb dL_law_202 rfl (lv_at hl 0 rfl) ?_
  refine lv_iload hx hb dL_law_203 (lv_at hl 4 rfl) ?_
  refine lv_iconst (v := 1) hx hb dL_law_205 (by decide) ?_
  refine lv_iadd hx hb dL_law_206 ?_
  refine va_sld hx hb hX hbl hbA hS hi1 dL_law_207 ?_
  refine lv_aload_n hx hb dL_law_208 rfl (lv_at hl 0 rfl) ?_
  refine lv_iload hx hb dL_law_209 (lv_at hl 4 rfl) ?_
  refine lv_iconst (v := 2) hx hb dL_law_211 (by decide) ?_
  refine lv_iadd hx hb dL_law_212 ?_
  refine va_sld hx hb hX hbl hbA hS hi2 dL_law_213 ?_
  refine lv_aload_n hx hb dL_law_214 rfl (lv_at hl 0 rfl) ?_
  refine lv_iload hx hb dL_law_215 (lv_at hl 4 rfl) ?_
  refine lv_iconst (v := 3) hx hb dL_law_217 (by decide) ?_
  refine lv_iadd hx hb dL_law_218 ?_
  refine va_sld hx hb hX hbl hbA hS hi3 dL_law_219 ?_
  refine lv_aload_n hx hb dL_law_220 rfl (lv_at hl 0 rfl) ?_
  refine lv_iload hx hb dL_law_221 (lv_at hl 4 rfl) ?_
  refine lv_iconst (v := 4) hx hb dL_law_223 (by decide) ?_
  refine lv_iadd hx hb dL_law_224 ?_
  refine va_sld hx hb hX hbl hbA hS hi4 dL_law_225 ?_
  refine lv_aload_n hx hb dL_law_226 rfl (lv_at hl 3 rfl) ?_
  refine lw_callH (As := [.ref (a 0), .int (xs (Int32.toNatClampNeg (x4 + 1))), .int (xs (Int32.toNatClampNeg (x4 + 2))), .int (xs (Int32.toNatClampNeg (x4 + 3))), .int (xs (Int32.toNatClampNeg (x4 + 4))), .ref (a 45)]) (rest := []) X (c_L_joint l D y a hf) (mp_csH (k := 6) hts mM_L_73 mT_L_joint mN_L mH_L_joint rfl rfl (by decide +kernel) ⟨(Nat.le_of_ble_eq_true rfl), (Nat.le_of_ble_eq_true rfl)⟩) hK hP hD hS hA rfl hl.1 rfl (Nat.le_of_ble_eq_true rfl) dL_law_227 hroom (fun H locs hP hD hS => ?_)
  refine lv_istore (lv' := [(5, .int 0), (0, .ref b), (1, .ref (a 0)), (2, .ref (am 0)), (3, .ref (a 45)), (4, .int x4)]) hx hb dL_law_230 hl (by decide) rfl (fun ls hl => ?_)
  refine lv_aload_n hx hb dL_law_232 rfl (lv_at hl 3 rfl) ?_
  refine lv_aload_n hx hb dL_law_233 rfl (lv_at hl 1 rfl) ?_
  refine lv_iload hx hb dL_law_234 (lv_at hl 5 rfl) ?_
  refine lv_iconst (v := 1) hx hb dL_law_236 (by decide) ?_
  refine lv_iadd hx hb dL_law_237 ?_
  refine va_sld hx hb hX hbl hbA hS hi1 dL_law_238 ?_
  refine lv_aload_n hx hb dL_law_239 rfl (lv_at hl 1 rfl) ?_
  refine lv_iload hx hb dL_law_240 (lv_at hl 5 rfl) ?_
  refine lv_iconst (v := 2) hx hb dL_law_242 (by decide) ?_
  refine lv_iadd hx hb dL_law_243 ?_
  refine va_sld hx hb hX hbl hbA hS hi2 dL_law_244 ?_
  refine lv_aload_n hx hb dL_law_245 rfl (lv_at hl 1 rfl) ?_
  refine lv_iload hx hb dL_law_246 (lv_at hl 5 rfl) ?_
  refine lv_iconst (v := 3) hx hb dL_law_248 (by decide) ?_
  refine lv_iadd hx hb dL_law_249 ?_
  refine va_sld hx hb hX hbl hbA hS hi3 dL_law_250 ?_
  refine lv_aload_n hx hb dL_law_251 rfl (lv_at hl 1 rfl) ?_
  refine lv_iload hx hb dL_law_252 (lv_at hl 5 rfl) ?_
  refine lv_iconst (v := 4) hx hb dL_law_254 (by decide) ?_
  refine lv_iadd hx hb dL_law_255 ?_
  refine va_sld hx hb hX hbl hbA hS hi4 dL_law_256 ?_
  refine lw_callM (As := [.int (xs (Int32.toNatClampNeg (x4 + 1))), .int (xs (Int32.toNatClampNeg (x4 + 2))), .int (xs (Int32.toNatClampNeg (x4 + 3))), .int (xs (Int32.toNatClampNeg (x4 + 4)))]) (rest := []) X (c_X6_joint l D y am hm) (mp_cw (k := 4) hts mM_L_78 mI_X6_joint mS_X6_joint mN_X6 mC_X6_joint rfl rfl (by decide +kernel) ⟨(Nat.le_of_ble_eq_true rfl), (Nat.le_of_ble_eq_true rfl)⟩) hK hP hD hS hA 0 mwC_0 rfl rfl hl.1 rfl (Nat.le_of_ble_eq_true rfl) dL_law_257 hroom (fun H locs hP hD hS => ?_)
  refine lv_istore (lv' := [(6, .int r), (5, .int 0), (0, .ref b), (1, .ref (a 0)), (2, .ref (am 0)), (3, .ref (a 45)), (4, .int x4)]) hx hb dL_law_260 hl (by decide) rfl (fun ls hl => ?_)
  refine lv_aload_n hx hb dL_law_262 rfl (lv_at hl 4 rfl) ?_
  refine lw_callM (As := []) (rest := []) X (c_X6_thrown l D y am ht0) (mp_cw (k := 0) hts mM_L_79 mI_X6_thrown mS_X6_thrown mN_X6 mC_X6_thrown rfl rfl (by decide +kernel) ⟨(Nat.le_of_ble_eq_true rfl), (Nat.le_of_ble_eq_true rfl)⟩) hK hP hD hS hA 0 mwC_0 rfl rfl hl.1 rfl (Nat.le_of_ble_eq_true rfl) dL_law_263 hroom (fun H locs hP hD hS => ?_)
  refine lv_iload hx hb dL_law_266 (lv_at hl 1 rfl) ?_
  refine lv_icmp_eq (tgt := 273) hx hb dL_law_268 (by decide) (fun _ => ?_) (fun hc => absurd hth hc)
  refine lv_iload hx hb dL_law_273 (lv_at hl 1 rfl) ?_
  refine lv_if_ne (tgt := 290) hx hb dL_law_275 (by decide) (fun hc => absurd rfl hc) (fun _ => ?_)
  refine lv_aload_n hx hb dL_law_278 rfl (lv_at hl 5 rfl) ?_
  refine lv_iconst (v := 0) hx hb dL_law_279 (by decide) ?_
  refine va_lald hx hb hK hP 45 1 rfl rfl (inR_vp (by decide)) dL_law_280 ?_
  refine W.eq (g2 := F0 m 281 ls (.long o0 :: [])) (congrArg (fun v => F0 m 281 ls (.long v :: [])) ho) ?_
  refine lv_iload hx hb dL_law_281 (lv_at hl 0 rfl) ?_
  refine lv_i2l (v := Int32.toInt64 r) hx hb dL_law_283 rfl ?_
  refine W.lcmp hx hb dL_law_284 ?_
  refine lv_if_eq (tgt := 290) hx hb dL_law_285 (by decide) (fun _ => ?_) (fun hc => absurd ((lg_cmp_eq _ _).mpr heq) hc)
  refine lv_goto (tgt := 1182) hx hb dL_law_290 (by decide) ?_
  exact kk _ _ _ hP hD hS (lv_sub hl [2, 3, 4, 5, 6] rfl)
set_option maxHeartbeats 4000000 in
set_option maxRecDepth 100000 in
theorem lc_joint_t1 {p : Program} {e : Env} {s : State} {m : MethodId} {below : List Frame} {meth : Method} {c : Code} {l : Launch} {b L : Nat} {xs : Nat → Int32} {D : va_G} {y : CY} {a am : Nat → Nat} {x z z1 : PD} {r : Int32} {th : Int32} {x4 : Int32} {H : Heap} {locs : List Loc} {ls : Array Slot} {cells slots : Nat} {Q : State → Prop} {A : Nat → Prop} (X : mpX p s m #[Value.ref b] meth c code 8 ret RL) (hlt : l.stackTraces = false) (hT : thE A s s.heap) (hK : va_K D vwCl (mpT y) s) (hA : ∀ q, s.heap.size ≤ q → A q) (hX : va_X b L xs s s.heap) (hbl : b < s.heap.size) (hbA : ¬ A b) (hf : g_X5_joint x (xs (Int32.toNatClampNeg (x4 + 1))) (xs (Int32.toNatClampNeg (x4 + 2))) (xs (Int32.toNatClampNeg (x4 + 3))) (xs (Int32.toNatClampNeg (x4 + 4))) = some 1) (hm : f_X6_joint z (xs (Int32.toNatClampNeg (x4 + 1))) (xs (Int32.toNatClampNeg (x4 + 2))) (xs (Int32.toNatClampNeg (x4 + 3))) (xs (Int32.toNatClampNeg (x4 + 4))) = some (r, z1)) (ht0 : f_X6_thrown z1 = some th) (hth : th = 1) (hi1 : vp_in (x4 + 1) L) (hi2 : vp_in (x4 + 2) L) (hi3 : vp_in (x4 + 3) L) (hi4 : vp_in (x4 + 4) L) (hroom : cells + 1 ≤ room_1.cells ∧ slots + 6 ≤ room_1.slots) (hP : va_P D vwCl (pw y a x ++ mw y am z) H) (hD : va_D A (pw y a x ++ mw y am z)) (hS : va_S A s.heap H locs) (hl : lv_has ls 8 [(0, .ref b), (1, .ref (a 0)), (2, .ref (am 0)), (3, .ref (a 45)), (4, .int x4)])
    (kk : ∀ (H : Heap) (locs : List Loc) (ls : Array Slot), va_P D vwCl (pw y a x ++ mw y am z1) H → va_D A (pw y a x ++ mw y am z1) → va_S A s.heap H locs → lv_has ls 8 [(0, .ref b), (1, .ref (a 0)), (2, .ref (am 0)), (3, .ref (a 45)), (4, .int x4)] → W p l e room_1 s m #[Value.ref b] below meth c H locs (cells + 1) (slots + 6) Q (F0 m 1182 ls [])) :
    W p l e room_1 s m #[Value.ref b] below meth c H locs cells slots Q (F0 m 201 ls []) := by
  obtain ⟨⟨hx, hb, hml, hown, hts⟩, hr, hlk⟩ := id X
  have hroom2 := hroom
  refine lv_aload_n hx hb dL_law_201 rfl (lv_at hl 1 rfl) ?_
  refine lv_aload_n hx hb dL_law_202 rfl (lv_at hl 0 rfl) ?_
  refine lv_iload hx hb dL_law_203 (lv_at hl 4 rfl) ?_
  refine lv_iconst (v := 1) hx hb dL_law_205 (by decide) ?_
  refine lv_iadd hx hb dL_law_206 ?_
  refine va_sld hx hb hX hbl hbA hS hi1 dL_law_207 ?_
  refine lv_aload_n hx hb dL_law_208 rfl (lv_at hl 0 rfl) ?_
  refine lv_iload hx hb dL_law_209 (lv_at hl 4 rfl) ?_
  refine lv_iconst (v := 2) hx hb dL_law_211 (by decide) ?_
  refine lv_iadd hx hb dL_law_212 ?_
  refine va_sld hx hb hX hbl hbA hS hi2 dL_law_213 ?_
  refine lv_aload_n hx hb dL_law_214 rfl (lv_at hl 0 rfl) ?_
  refine lv_iload hx hb dL_law_215 (lv_at hl 4 rfl) ?_
  refine lv_iconst (v := 3) hx hb dL_law_217 (by decide) ?_
  refine lv_iadd hx hb dL_law_218 ?_
  refine va_sld hx hb hX hbl hbA hS hi3 dL_law_219 ?_
  refine lv_aload_n hx hb dL_law_220 rfl (lv_at hl 0 rfl) ?_
  refine lv_iload hx hb dL_law_221 (lv_at hl 4 rfl) ?_
  refine lv_iconst (v := 4) hx hb dL_law_223 (by decide) ?_
  refine lv_iadd hx hb dL_law_224 ?_
  refine va_sld hx hb hX hbl hbA hS hi4 dL_law_225 ?_
  refine lv_aload_n hx hb dL_law_226 rfl (lv_at hl 3 rfl) ?_
  refine lw_callT (As := [.ref (a 0), .int (xs (Int32.toNatClampNeg (x4 + 1))), .int (xs (Int32.toNatClampNeg (x4 + 2))), .int (xs (Int32.toNatClampNeg (x4 + 3))), .int (xs (Int32.toNatClampNeg (x4 + 4))), .ref (a 45)]) (rest := []) X hT (th_L_joint_1 l hlt D y a hf) (mp_csH (k := 6) hts mM_L_73 mT_L_joint mN_L mH_L_joint rfl rfl (by decide +kernel) ⟨(Nat.le_of_ble_eq_true rfl), (Nat.le_of_ble_eq_true rfl)⟩) hK hP hD hS hA rfl hl.1 rfl (Nat.le_of_ble_eq_true rfl) dL_law_227 hroom (fun H locs hP hD hS => ?_)
  refine lv_istore (lv' := [(5, .int 1), (0, .ref b), (1, .ref (a 0)), (2, .ref (am 0)), (3, .ref (a 45)), (4, .int x4)]) hx hb dL_law_230 hl (by decide) rfl (fun ls hl => ?_)
  refine lv_aload_n hx hb dL_law_232 rfl (lv_at hl 3 rfl) ?_
  refine lv_aload_n hx hb dL_law_233 rfl (lv_at hl 1 rfl) ?_
  refine lv_iload hx hb dL_law_234 (lv_at hl 5 rfl) ?_
  refine lv_iconst (v := 1) hx hb dL_law_236 (by decide) ?_
  refine lv_iadd hx hb dL_law_237 ?_
  refine va_sld hx hb hX hbl hbA hS hi1 dL_law_238 ?_
  refine lv_aload_n hx hb dL_law_239 rfl (lv_at hl 1 rfl) ?_
  refine lv_iload hx hb dL_law_240 (lv_at hl 5 rfl) ?_
  refine lv_iconst (v := 2) hx hb dL_law_242 (by decide) ?_
  refine lv_iadd hx hb dL_law_243 ?_
  refine va_sld hx hb hX hbl hbA hS hi2 dL_law_244 ?_
  refine lv_aload_n hx hb dL_law_245 rfl (lv_at hl 1 rfl) ?_
  refine lv_iload hx hb dL_law_246 (lv_at hl 5 rfl) ?_
  refine lv_iconst (v := 3) hx hb dL_law_248 (by decide) ?_
  refine lv_iadd hx hb dL_law_249 ?_
  refine va_sld hx hb hX hbl hbA hS hi3 dL_law_250 ?_
  refine lv_aload_n hx hb dL_law_251 rfl (lv_at hl 1 rfl) ?_
  refine lv_iload hx hb dL_law_252 (lv_at hl 5 rfl) ?_
  refine lv_iconst (v := 4) hx hb dL_law_254 (by decide) ?_
  refine lv_iadd hx hb dL_law_255 ?_
  refine va_sld hx hb hX hbl hbA hS hi4 dL_law_256 ?_
  refine lw_callM (As := [.int (xs (Int32.toNatClampNeg (x4 + 1))), .int (xs (Int32.toNatClampNeg (x4 + 2))), .int (xs (Int32.toNatClampNeg (x4 + 3))), .int (xs (Int32.toNatClampNeg (x4 + 4)))]) (rest := []) X (c_X6_joint l D y am hm) (mp_cw (k := 4) hts mM_L_78 mI_X6_joint mS_X6_joint mN_X6 mC_X6_joint rfl rfl (by decide +kernel) ⟨(Nat.le_of_ble_eq_true rfl), (Nat.le_of_ble_eq_true rfl)⟩) hK hP hD hS hA 0 mwC_0 rfl rfl hl.1 rfl (Nat.le_of_ble_eq_true rfl) dL_law_257 hroom2 (fun H locs hP hD hS => ?_)
  refine lv_istore (lv' := [(6, .int r), (5, .int 1), (0, .ref b), (1, .ref (a 0)), (2, .ref (am 0)), (3, .ref (a 45)), (4, .int x4)]) hx hb dL_law_260 hl (by decide) rfl (fun ls hl => ?_)
  refine lv_aload_n hx hb dL_law_262 rfl (lv_at hl 4 rfl) ?_
  refine lw_callM (As := []) (rest := []) X (c_X6_thrown l D y am ht0) (mp_cw (k := 0) hts mM_L_79 mI_X6_thrown mS_X6_thrown mN_X6 mC_X6_thrown rfl rfl (by decide +kernel) ⟨(Nat.le_of_ble_eq_true rfl), (Nat.le_of_ble_eq_true rfl)⟩) hK hP hD hS hA 0 mwC_0 rfl rfl hl.1 rfl (Nat.le_of_ble_eq_true rfl) dL_law_263 hroom2 (fun H locs hP hD hS => ?_)
  refine lv_iload hx hb dL_law_266 (lv_at hl 1 rfl) ?_
  refine lv_icmp_eq (tgt := 273) hx hb dL_law_268 (by decide) (fun _ => ?_) (fun hc => absurd hth hc)
  refine lv_iload hx hb dL_law_273 (lv_at hl 1 rfl) ?_
  refine lv_if_ne (tgt := 290) hx hb dL_law_275 (by decide) (fun _ => ?_) (fun hc => absurd hc (by decide))
  refine lv_goto (tgt := 1182) hx hb dL_law_290 (by decide) ?_
  exact kk _ _ _ hP hD hS (lv_sub hl [2, 3, 4, 5, 6] rfl)
set_option maxHeartbeats 4000000 in
set_option maxRecDepth 100000 in
theorem lc_price {p : Program} {e : Env} {s : State} {m : MethodId} {below : List Frame} {meth : Method} {c : Code} {l : Launch} {b L : Nat} {xs : Nat → Int32} {D : va_G} {y : CY} {a am : Nat → Nat} {x z z1 : PD} {x1 : PD} {r : Int32} {th : Int32} {o0 : Int64} {x4 : Int32} {H : Heap} {locs : List Loc} {ls : Array Slot} {cells slots : Nat} {Q : State → Prop} {A : Nat → Prop} (X : mpX p s m #[Value.ref b] meth c code 8 ret RL) (hlt : l.stackTraces = false) (hT : thE A s s.heap) (hK : va_K D vwCl (mpT y) s) (hA : ∀ q, s.heap.size ≤ q → A q) (hX : va_X b L xs s s.heap) (hbl : b < s.heap.size) (hbA : ¬ A b) (hf : f_L_price x (xs (Int32.toNatClampNeg (x4 + 1))) (xs (Int32.toNatClampNeg (x4 + 2))) = some (0, x1)) (hm : f_X6_price z (xs (Int32.toNatClampNeg (x4 + 1))) (xs (Int32.toNatClampNeg (x4 + 2))) = some (r, z1)) (ht0 : f_X6_thrown z1 = some th) (hth : th = 0) (ho : rB x1 45 0 = o0) (heq : o0 = Int32.toInt64 r) (hi1 : vp_in (x4 + 1) L) (hi2 : vp_in (x4 + 2) L) (hroom : cells ≤ room_1.cells ∧ slots ≤ room_1.slots) (hP : va_P D vwCl (pw y a x ++ mw y am z) H) (hD : va_D A (pw y a x ++ mw y am z)) (hS : va_S A s.heap H locs) (hl : lv_has ls 8 [(0, .ref b), (1, .ref (a 0)), (2, .ref (am 0)), (3, .ref (a 45)), (4, .int x4)])
    (kk : ∀ (H : Heap) (locs : List Loc) (ls : Array Slot), va_P D vwCl (pw y a x1 ++ mw y am z1) H → va_D A (pw y a x1 ++ mw y am z1) → va_S A s.heap H locs → lv_has ls 8 [(0, .ref b), (1, .ref (a 0)), (2, .ref (am 0)), (3, .ref (a 45)), (4, .int x4)] → W p l e room_1 s m #[Value.ref b] below meth c H locs cells slots Q (F0 m 1182 ls [])) :
    W p l e room_1 s m #[Value.ref b] below meth c H locs cells slots Q (F0 m 293 ls []) := by
  obtain ⟨⟨hx, hb, hml, hown, hts⟩, hr, hlk⟩ := id X
  refine lv_aload_n hx hb dL_law_293 rfl (lv_at hl 1 rfl) ?_
  refine lv_aload_n hx hb dL_law_294 rfl (lv_at hl 0 rfl) ?_
  refine lv_iload hx hb dL_law_295 (lv_at hl 4 rfl) ?_
  refine lv_iconst (v := 1) hx hb dL_law_297 (by decide) ?_
  refine lv_iadd hx hb dL_law_298 ?_
  refine va_sld hx hb hX hbl hbA hS hi1 dL_law_299 ?_
  refine lv_aload_n hx hb dL_law_300 rfl (lv_at hl 0 rfl) ?_
  refine lv_iload hx hb dL_law_301 (lv_at hl 4 rfl) ?_
  refine lv_iconst (v := 2) hx hb dL_law_303 (by decide) ?_
  refine lv_iadd hx hb dL_law_304 ?_
  refine va_sld hx hb hX hbl hbA hS hi2 dL_law_305 ?_
  refine lv_aload_n hx hb dL_law_306 rfl (lv_at hl 3 rfl) ?_
  refine lw_callH (As := [.ref (a 0), .int (xs (Int32.toNatClampNeg (x4 + 1))), .int (xs (Int32.toNatClampNeg (x4 + 2))), .ref (a 45)]) (rest := []) X (c_L_price l D y a hf) (mp_csH (k := 4) hts mM_L_83 mT_L_price mN_L mH_L_price rfl rfl (by decide +kernel) ⟨(Nat.le_of_ble_eq_true rfl), (Nat.le_of_ble_eq_true rfl)⟩) hK hP hD hS hA rfl hl.1 rfl (Nat.le_of_ble_eq_true rfl) dL_law_307 hroom (fun H locs hP hD hS => ?_)
  refine lv_istore (lv' := [(5, .int 0), (0, .ref b), (1, .ref (a 0)), (2, .ref (am 0)), (3, .ref (a 45)), (4, .int x4)]) hx hb dL_law_310 hl (by decide) rfl (fun ls hl => ?_)
  refine lv_aload_n hx hb dL_law_312 rfl (lv_at hl 3 rfl) ?_
  refine lv_aload_n hx hb dL_law_313 rfl (lv_at hl 1 rfl) ?_
  refine lv_iload hx hb dL_law_314 (lv_at hl 5 rfl) ?_
  refine lv_iconst (v := 1) hx hb dL_law_316 (by decide) ?_
  refine lv_iadd hx hb dL_law_317 ?_
  refine va_sld hx hb hX hbl hbA hS hi1 dL_law_318 ?_
  refine lv_aload_n hx hb dL_law_319 rfl (lv_at hl 1 rfl) ?_
  refine lv_iload hx hb dL_law_320 (lv_at hl 5 rfl) ?_
  refine lv_iconst (v := 2) hx hb dL_law_322 (by decide) ?_
  refine lv_iadd hx hb dL_law_323 ?_
  refine va_sld hx hb hX hbl hbA hS hi2 dL_law_324 ?_
  refine lw_callM (As := [.int (xs (Int32.toNatClampNeg (x4 + 1))), .int (xs (Int32.toNatClampNeg (x4 + 2)))]) (rest := []) X (c_X6_price l D y am hm) (mp_cw (k := 2) hts mM_L_86 mI_X6_price mS_X6_price mN_X6 mC_X6_price rfl rfl (by decide +kernel) ⟨(Nat.le_of_ble_eq_true rfl), (Nat.le_of_ble_eq_true rfl)⟩) hK hP hD hS hA 0 mwC_0 rfl rfl hl.1 rfl (Nat.le_of_ble_eq_true rfl) dL_law_325 hroom (fun H locs hP hD hS => ?_)
  refine lv_istore (lv' := [(6, .int r), (5, .int 0), (0, .ref b), (1, .ref (a 0)), (2, .ref (am 0)), (3, .ref (a 45)), (4, .int x4)]) hx hb dL_law_328 hl (by decide) rfl (fun ls hl => ?_)
  refine lv_aload_n hx hb dL_law_330 rfl (lv_at hl 4 rfl) ?_
  refine lw_callM (As := []) (rest := []) X (c_X6_thrown l D y am ht0) (mp_cw (k := 0) hts mM_L_79 mI_X6_thrown mS_X6_thrown mN_X6 mC_X6_thrown rfl rfl (by decide +kernel) ⟨(Nat.le_of_ble_eq_true rfl), (Nat.le_of_ble_eq_true rfl)⟩) hK hP hD hS hA 0 mwC_0 rfl rfl hl.1 rfl (Nat.le_of_ble_eq_true rfl) dL_law_331 hroom (fun H locs hP hD hS => ?_)
  refine lv_iload hx hb dL_law_334 (lv_at hl 1 rfl) ?_
  refine lv_icmp_eq (tgt := 341) hx hb dL_law_336 (by decide) (fun _ => ?_) (fun hc => absurd hth hc)
  refine lv_iload hx hb dL_law_341 (lv_at hl 1 rfl) ?_
  refine lv_if_ne (tgt := 358) hx hb dL_law_343 (by decide) (fun hc => absurd rfl hc) (fun _ => ?_)
  refine lv_aload_n hx hb dL_law_346 rfl (lv_at hl 5 rfl) ?_
  refine lv_iconst (v := 0) hx hb dL_law_347 (by decide) ?_
  refine va_lald hx hb hK hP 45 1 rfl rfl (inR_vp (by decide)) dL_law_348 ?_
  refine W.eq (g2 := F0 m 349 ls (.long o0 :: [])) (congrArg (fun v => F0 m 349 ls (.long v :: [])) ho) ?_
  refine lv_iload hx hb dL_law_349 (lv_at hl 0 rfl) ?_
  refine lv_i2l (v := Int32.toInt64 r) hx hb dL_law_351 rfl ?_
  refine W.lcmp hx hb dL_law_352 ?_
  refine lv_if_eq (tgt := 358) hx hb dL_law_353 (by decide) (fun _ => ?_) (fun hc => absurd ((lg_cmp_eq _ _).mpr heq) hc)
  refine lv_goto (tgt := 1182) hx hb dL_law_358 (by decide) ?_
  exact kk _ _ _ hP hD hS (lv_sub hl [2, 3, 4, 5, 6] rfl)
set_option maxHeartbeats 4000000 in
set_option maxRecDepth 100000 in
theorem lc_price_t2 {p : Program} {e : Env} {s : State} {m : MethodId} {below : List Frame} {meth : Method} {c : Code} {l : Launch} {b L : Nat} {xs : Nat → Int32} {D : va_G} {y : CY} {a am : Nat → Nat} {x z z1 : PD} {r : Int32} {th : Int32} {x4 : Int32} {H : Heap} {locs : List Loc} {ls : Array Slot} {cells slots : Nat} {Q : State → Prop} {A : Nat → Prop} (X : mpX p s m #[Value.ref b] meth c code 8 ret RL) (hlt : l.stackTraces = false) (hT : thE A s s.heap) (hK : va_K D vwCl (mpT y) s) (hA : ∀ q, s.heap.size ≤ q → A q) (hX : va_X b L xs s s.heap) (hbl : b < s.heap.size) (hbA : ¬ A b) (hf : g_X5_price x (xs (Int32.toNatClampNeg (x4 + 1))) (xs (Int32.toNatClampNeg (x4 + 2))) = some 2) (hm : f_X6_price z (xs (Int32.toNatClampNeg (x4 + 1))) (xs (Int32.toNatClampNeg (x4 + 2))) = some (r, z1)) (ht0 : f_X6_thrown z1 = some th) (hth : th = 1) (hi1 : vp_in (x4 + 1) L) (hi2 : vp_in (x4 + 2) L) (hroom : cells + 1 ≤ room_1.cells ∧ slots + 6 ≤ room_1.slots) (hP : va_P D vwCl (pw y a x ++ mw y am z) H) (hD : va_D A (pw y a x ++ mw y am z)) (hS : va_S A s.heap H locs) (hl : lv_has ls 8 [(0, .ref b), (1, .ref (a 0)), (2, .ref (am 0)), (3, .ref (a 45)), (4, .int x4)])
    (kk : ∀ (H : Heap) (locs : List Loc) (ls : Array Slot), va_P D vwCl (pw y a x ++ mw y am z1) H → va_D A (pw y a x ++ mw y am z1) → va_S A s.heap H locs → lv_has ls 8 [(0, .ref b), (1, .ref (a 0)), (2, .ref (am 0)), (3, .ref (a 45)), (4, .int x4)] → W p l e room_1 s m #[Value.ref b] below meth c H locs (cells + 1) (slots + 6) Q (F0 m 1182 ls [])) :
    W p l e room_1 s m #[Value.ref b] below meth c H locs cells slots Q (F0 m 293 ls []) := by
  obtain ⟨⟨hx, hb, hml, hown, hts⟩, hr, hlk⟩ := id X
  have hroom2 := hroom
  refine lv_aload_n hx hb dL_law_293 rfl (lv_at hl 1 rfl) ?_
  refine lv_aload_n hx hb dL_law_294 rfl (lv_at hl 0 rfl) ?_
  refine lv_iload hx hb dL_law_295 (lv_at hl 4 rfl) ?_
  refine lv_iconst (v := 1) hx hb dL_law_297 (by decide) ?_
  refine lv_iadd hx hb dL_law_298 ?_
  refine va_sld hx hb hX hbl hbA hS hi1 dL_law_299 ?_
  refine lv_aload_n hx hb dL_law_300 rfl (lv_at hl 0 rfl) ?_
  refine lv_iload hx hb dL_law_301 (lv_at hl 4 rfl) ?_
  refine lv_iconst (v := 2) hx hb dL_law_303 (by decide) ?_
  refine lv_iadd hx hb dL_law_304 ?_
  refine va_sld hx hb hX hbl hbA hS hi2 dL_law_305 ?_
  refine lv_aload_n hx hb dL_law_306 rfl (lv_at hl 3 rfl) ?_
  refine lw_callT (As := [.ref (a 0), .int (xs (Int32.toNatClampNeg (x4 + 1))), .int (xs (Int32.toNatClampNeg (x4 + 2))), .ref (a 45)]) (rest := []) X hT (th_L_price_2 l hlt D y a hf) (mp_csH (k := 4) hts mM_L_83 mT_L_price mN_L mH_L_price rfl rfl (by decide +kernel) ⟨(Nat.le_of_ble_eq_true rfl), (Nat.le_of_ble_eq_true rfl)⟩) hK hP hD hS hA rfl hl.1 rfl (Nat.le_of_ble_eq_true rfl) dL_law_307 hroom (fun H locs hP hD hS => ?_)
  refine lv_istore (lv' := [(5, .int 1), (0, .ref b), (1, .ref (a 0)), (2, .ref (am 0)), (3, .ref (a 45)), (4, .int x4)]) hx hb dL_law_310 hl (by decide) rfl (fun ls hl => ?_)
  refine lv_aload_n hx hb dL_law_312 rfl (lv_at hl 3 rfl) ?_
  refine lv_aload_n hx hb dL_law_313 rfl (lv_at hl 1 rfl) ?_
  refine lv_iload hx hb dL_law_314 (lv_at hl 5 rfl) ?_
  refine lv_iconst (v := 1) hx hb dL_law_316 (by decide) ?_
  refine lv_iadd hx hb dL_law_317 ?_
  refine va_sld hx hb hX hbl hbA hS hi1 dL_law_318 ?_
  refine lv_aload_n hx hb dL_law_319 rfl (lv_at hl 1 rfl) ?_
  refine lv_iload hx hb dL_law_320 (lv_at hl 5 rfl) ?_
  refine lv_iconst (v := 2) hx hb dL_law_322 (by decide) ?_
  refine lv_iadd hx hb dL_law_323 ?_
  refine va_sld hx hb hX hbl hbA hS hi2 dL_law_324 ?_
  refine lw_callM (As := [.int (xs (Int32.toNatClampNeg (x4 + 1))), .int (xs (Int32.toNatClampNeg (x4 + 2)))]) (rest := []) X (c_X6_price l D y am hm) (mp_cw (k := 2) hts mM_L_86 mI_X6_price mS_X6_price mN_X6 mC_X6_price rfl rfl (by decide +kernel) ⟨(Nat.le_of_ble_eq_true rfl), (Nat.le_of_ble_eq_true rfl)⟩) hK hP hD hS hA 0 mwC_0 rfl rfl hl.1 rfl (Nat.le_of_ble_eq_true rfl) dL_law_325 hroom2 (fun H locs hP hD hS => ?_)
  refine lv_istore (lv' := [(6, .int r), (5, .int 1), (0, .ref b), (1, .ref (a 0)), (2, .ref (am 0)), (3, .ref (a 45)), (4, .int x4)]) hx hb dL_law_328 hl (by decide) rfl (fun ls hl => ?_)
  refine lv_aload_n hx hb dL_law_330 rfl (lv_at hl 4 rfl) ?_
  refine lw_callM (As := []) (rest := []) X (c_X6_thrown l D y am ht0) (mp_cw (k := 0) hts mM_L_79 mI_X6_thrown mS_X6_thrown mN_X6 mC_X6_thrown rfl rfl (by decide +kernel) ⟨(Nat.le_of_ble_eq_true rfl), (Nat.le_of_ble_eq_true rfl)⟩) hK hP hD hS hA 0 mwC_0 rfl rfl hl.1 rfl (Nat.le_of_ble_eq_true rfl) dL_law_331 hroom2 (fun H locs hP hD hS => ?_)
  refine lv_iload hx hb dL_law_334 (lv_at hl 1 rfl) ?_
  refine lv_icmp_eq (tgt := 341) hx hb dL_law_336 (by decide) (fun _ => ?_) (fun hc => absurd hth hc)
  refine lv_iload hx hb dL_law_341 (lv_at hl 1 rfl) ?_
  refine lv_if_ne (tgt := 358) hx hb dL_law_343 (by decide) (fun _ => ?_) (fun hc => absurd hc (by decide))
  refine lv_goto (tgt := 1182) hx hb dL_law_358 (by decide) ?_
  exact kk _ _ _ hP hD hS (lv_sub hl [2, 3, 4, 5, 6] rfl)
set_option maxHeartbeats 4000000 in
set_option maxRecDepth 100000 in
theorem lc_play {p : Program} {e : Env} {s : State} {m : MethodId} {below : List Frame} {meth : Method} {c : Code} {l : Launch} {b L : Nat} {xs : Nat → Int32} {D : va_G} {y : CY} {a am : Nat → Nat} {x z z1 : PD} {x1 : PD} {r : Int32} {th : Int32} {o0 : Int64} {x4 : Int32} {H : Heap} {locs : List Loc} {ls : Array Slot} {cells slots : Nat} {Q : State → Prop} {A : Nat → Prop} (X : mpX p s m #[Value.ref b] meth c code 8 ret RL) (hlt : l.stackTraces = false) (hT : thE A s s.heap) (hK : va_K D vwCl (mpT y) s) (hA : ∀ q, s.heap.size ≤ q → A q) (hX : va_X b L xs s s.heap) (hbl : b < s.heap.size) (hbA : ¬ A b) (hf : f_L_play x (xs (Int32.toNatClampNeg (x4 + 1))) = some (0, x1)) (hm : f_X6_play z (xs (Int32.toNatClampNeg (x4 + 1))) = some (r, z1)) (ht0 : f_X6_thrown z1 = some th) (hth : th = 0) (ho : rB x1 45 0 = o0) (heq : (r = 0 → o0 = 0) ∧ (¬ r = 0 → o0 = 1)) (hi1 : vp_in (x4 + 1) L) (hroom : cells ≤ room_1.cells ∧ slots ≤ room_1.slots) (hP : va_P D vwCl (pw y a x ++ mw y am z) H) (hD : va_D A (pw y a x ++ mw y am z)) (hS : va_S A s.heap H locs) (hl : lv_has ls 8 [(0, .ref b), (1, .ref (a 0)), (2, .ref (am 0)), (3, .ref (a 45)), (4, .int x4)])
    (kk : ∀ (H : Heap) (locs : List Loc) (ls : Array Slot), va_P D vwCl (pw y a x1 ++ mw y am z1) H → va_D A (pw y a x1 ++ mw y am z1) → va_S A s.heap H locs → lv_has ls 8 [(0, .ref b), (1, .ref (a 0)), (2, .ref (am 0)), (3, .ref (a 45)), (4, .int x4)] → W p l e room_1 s m #[Value.ref b] below meth c H locs cells slots Q (F0 m 1182 ls [])) :
    W p l e room_1 s m #[Value.ref b] below meth c H locs cells slots Q (F0 m 361 ls []) := by
  obtain ⟨⟨hx, hb, hml, hown, hts⟩, hr, hlk⟩ := id X
  refine lv_aload_n hx hb dL_law_361 rfl (lv_at hl 1 rfl) ?_
  refine lv_aload_n hx hb dL_law_362 rfl (lv_at hl 0 rfl) ?_
  refine lv_iload hx hb dL_law_363 (lv_at hl 4 rfl) ?_
  refine lv_iconst (v := 1) hx hb dL_law_365 (by decide) ?_
  refine lv_iadd hx hb dL_law_366 ?_
  refine va_sld hx hb hX hbl hbA hS hi1 dL_law_367 ?_
  refine lv_aload_n hx hb dL_law_368 rfl (lv_at hl 3 rfl) ?_
  refine lw_callH (As := [.ref (a 0), .int (xs (Int32.toNatClampNeg (x4 + 1))), .ref (a 45)]) (rest := []) X (c_L_play l D y a hf) (mp_csH (k := 3) hts mM_L_87 mT_L_play mN_L mH_L_play rfl rfl (by decide +kernel) ⟨(Nat.le_of_ble_eq_true rfl), (Nat.le_of_ble_eq_true rfl)⟩) hK hP hD hS hA rfl hl.1 rfl (Nat.le_of_ble_eq_true rfl) dL_law_369 hroom (fun H locs hP hD hS => ?_)
  refine lv_istore (lv' := [(5, .int 0), (0, .ref b), (1, .ref (a 0)), (2, .ref (am 0)), (3, .ref (a 45)), (4, .int x4)]) hx hb dL_law_372 hl (by decide) rfl (fun ls hl => ?_)
  refine lv_aload_n hx hb dL_law_374 rfl (lv_at hl 3 rfl) ?_
  refine lv_aload_n hx hb dL_law_375 rfl (lv_at hl 1 rfl) ?_
  refine lv_iload hx hb dL_law_376 (lv_at hl 5 rfl) ?_
  refine lv_iconst (v := 1) hx hb dL_law_378 (by decide) ?_
  refine lv_iadd hx hb dL_law_379 ?_
  refine va_sld hx hb hX hbl hbA hS hi1 dL_law_380 ?_
  refine lw_callM (As := [.int (xs (Int32.toNatClampNeg (x4 + 1)))]) (rest := []) X (c_X6_play l D y am hm) (mp_cw (k := 1) hts mM_L_90 mI_X6_play mS_X6_play mN_X6 mC_X6_play rfl rfl (by decide +kernel) ⟨(Nat.le_of_ble_eq_true rfl), (Nat.le_of_ble_eq_true rfl)⟩) hK hP hD hS hA 0 mwC_0 rfl rfl hl.1 rfl (Nat.le_of_ble_eq_true rfl) dL_law_381 hroom (fun H locs hP hD hS => ?_)
  refine lv_istore (lv' := [(6, .int r), (5, .int 0), (0, .ref b), (1, .ref (a 0)), (2, .ref (am 0)), (3, .ref (a 45)), (4, .int x4)]) hx hb dL_law_384 hl (by decide) rfl (fun ls hl => ?_)
  refine lv_aload_n hx hb dL_law_386 rfl (lv_at hl 4 rfl) ?_
  refine lw_callM (As := []) (rest := []) X (c_X6_thrown l D y am ht0) (mp_cw (k := 0) hts mM_L_79 mI_X6_thrown mS_X6_thrown mN_X6 mC_X6_thrown rfl rfl (by decide +kernel) ⟨(Nat.le_of_ble_eq_true rfl), (Nat.le_of_ble_eq_true rfl)⟩) hK hP hD hS hA 0 mwC_0 rfl rfl hl.1 rfl (Nat.le_of_ble_eq_true rfl) dL_law_387 hroom (fun H locs hP hD hS => ?_)
  refine lv_iload hx hb dL_law_390 (lv_at hl 1 rfl) ?_
  refine lv_icmp_eq (tgt := 397) hx hb dL_law_392 (by decide) (fun _ => ?_) (fun hc => absurd hth hc)
  refine lv_iload hx hb dL_law_397 (lv_at hl 1 rfl) ?_
  refine lv_if_ne (tgt := 421) hx hb dL_law_399 (by decide) (fun hc => absurd rfl hc) (fun _ => ?_)
  refine lv_aload_n hx hb dL_law_402 rfl (lv_at hl 5 rfl) ?_
  refine lv_iconst (v := 0) hx hb dL_law_403 (by decide) ?_
  refine va_lald hx hb hK hP 45 1 rfl rfl (inR_vp (by decide)) dL_law_404 ?_
  refine W.eq (g2 := F0 m 405 ls (.long o0 :: [])) (congrArg (fun v => F0 m 405 ls (.long v :: [])) ho) ?_
  refine lv_iload hx hb dL_law_405 (lv_at hl 0 rfl) ?_
  refine lv_if_eq (tgt := 414) hx hb dL_law_407 (by decide) (fun hc => ?_) (fun hc => ?_)
  · refine lv_lconst (v := 0) hx hb dL_law_414 (by decide) ?_
    refine W.lcmp hx hb dL_law_415 ?_
    refine lv_if_eq (tgt := 421) hx hb dL_law_416 (by decide) (fun _ => ?_) (fun hc2 => absurd ((lg_cmp_eq _ _).mpr (heq.1 hc)) hc2)
    refine lv_goto (tgt := 1182) hx hb dL_law_421 (by decide) ?_
    exact kk _ _ _ hP hD hS (lv_sub hl [2, 3, 4, 5, 6] rfl)
  · refine lv_lconst (v := 1) hx hb dL_law_410 (by decide) ?_
    refine lv_goto (tgt := 415) hx hb dL_law_411 (by decide) ?_
    refine W.lcmp hx hb dL_law_415 ?_
    refine lv_if_eq (tgt := 421) hx hb dL_law_416 (by decide) (fun _ => ?_) (fun hc2 => absurd ((lg_cmp_eq _ _).mpr (heq.2 hc)) hc2)
    refine lv_goto (tgt := 1182) hx hb dL_law_421 (by decide) ?_
    exact kk _ _ _ hP hD hS (lv_sub hl [2, 3, 4, 5, 6] rfl)
set_option maxHeartbeats 4000000 in
set_option maxRecDepth 100000 in
theorem lc_play_t1 {p : Program} {e : Env} {s : State} {m : MethodId} {below : List Frame} {meth : Method} {c : Code} {l : Launch} {b L : Nat} {xs : Nat → Int32} {D : va_G} {y : CY} {a am : Nat → Nat} {x z z1 : PD} {r : Int32} {th : Int32} {x4 : Int32} {H : Heap} {locs : List Loc} {ls : Array Slot} {cells slots : Nat} {Q : State → Prop} {A : Nat → Prop} (X : mpX p s m #[Value.ref b] meth c code 8 ret RL) (hlt : l.stackTraces = false) (hT : thE A s s.heap) (hK : va_K D vwCl (mpT y) s) (hA : ∀ q, s.heap.size ≤ q → A q) (hX : va_X b L xs s s.heap) (hbl : b < s.heap.size) (hbA : ¬ A b) (hf : g_X5_play x (xs (Int32.toNatClampNeg (x4 + 1))) = some 1) (hm : f_X6_play z (xs (Int32.toNatClampNeg (x4 + 1))) = some (r, z1)) (ht0 : f_X6_thrown z1 = some th) (hth : th = 1) (hi1 : vp_in (x4 + 1) L) (hroom : cells + 1 ≤ room_1.cells ∧ slots + 6 ≤ room_1.slots) (hP : va_P D vwCl (pw y a x ++ mw y am z) H) (hD : va_D A (pw y a x ++ mw y am z)) (hS : va_S A s.heap H locs) (hl : lv_has ls 8 [(0, .ref b), (1, .ref (a 0)), (2, .ref (am 0)), (3, .ref (a 45)), (4, .int x4)])
    (kk : ∀ (H : Heap) (locs : List Loc) (ls : Array Slot), va_P D vwCl (pw y a x ++ mw y am z1) H → va_D A (pw y a x ++ mw y am z1) → va_S A s.heap H locs → lv_has ls 8 [(0, .ref b), (1, .ref (a 0)), (2, .ref (am 0)), (3, .ref (a 45)), (4, .int x4)] → W p l e room_1 s m #[Value.ref b] below meth c H locs (cells + 1) (slots + 6) Q (F0 m 1182 ls [])) :
    W p l e room_1 s m #[Value.ref b] below meth c H locs cells slots Q (F0 m 361 ls []) := by
  obtain ⟨⟨hx, hb, hml, hown, hts⟩, hr, hlk⟩ := id X
  have hroom2 := hroom
  refine lv_aload_n hx hb dL_law_361 rfl (lv_at hl 1 rfl) ?_
  refine lv_aload_n hx hb dL_law_362 rfl (lv_at hl 0 rfl) ?_
  refine lv_iload hx hb dL_law_363 (lv_at hl 4 rfl) ?_
  refine lv_iconst (v := 1) hx hb dL_law_365 (by decide) ?_
  refine lv_iadd hx hb dL_law_366 ?_
  refine va_sld hx hb hX hbl hbA hS hi1 dL_law_367 ?_
  refine lv_aload_n hx hb dL_law_368 rfl (lv_at hl 3 rfl) ?_
  refine lw_callT (As := [.ref (a 0), .int (xs (Int32.toNatClampNeg (x4 + 1))), .ref (a 45)]) (rest := []) X hT (th_L_play_1 l hlt D y a hf) (mp_csH (k := 3) hts mM_L_87 mT_L_play mN_L mH_L_play rfl rfl (by decide +kernel) ⟨(Nat.le_of_ble_eq_true rfl), (Nat.le_of_ble_eq_true rfl)⟩) hK hP hD hS hA rfl hl.1 rfl (Nat.le_of_ble_eq_true rfl) dL_law_369 hroom (fun H locs hP hD hS => ?_)
  refine lv_istore (lv' := [(5, .int 1), (0, .ref b), (1, .ref (a 0)), (2, .ref (am 0)), (3, .ref (a 45)), (4, .int x4)]) hx hb dL_law_372 hl (by decide) rfl (fun ls hl => ?_)
  refine lv_aload_n hx hb dL_law_374 rfl (lv_at hl 3 rfl) ?_
  refine lv_aload_n hx hb dL_law_375 rfl (lv_at hl 1 rfl) ?_
  refine lv_iload hx hb dL_law_376 (lv_at hl 5 rfl) ?_
  refine lv_iconst (v := 1) hx hb dL_law_378 (by decide) ?_
  refine lv_iadd hx hb dL_law_379 ?_
  refine va_sld hx hb hX hbl hbA hS hi1 dL_law_380 ?_
  refine lw_callM (As := [.int (xs (Int32.toNatClampNeg (x4 + 1)))]) (rest := []) X (c_X6_play l D y am hm) (mp_cw (k := 1) hts mM_L_90 mI_X6_play mS_X6_play mN_X6 mC_X6_play rfl rfl (by decide +kernel) ⟨(Nat.le_of_ble_eq_true rfl), (Nat.le_of_ble_eq_true rfl)⟩) hK hP hD hS hA 0 mwC_0 rfl rfl hl.1 rfl (Nat.le_of_ble_eq_true rfl) dL_law_381 hroom2 (fun H locs hP hD hS => ?_)
  refine lv_istore (lv' := [(6, .int r), (5, .int 1), (0, .ref b), (1, .ref (a 0)), (2, .ref (am 0)), (3, .ref (a 45)), (4, .int x4)]) hx hb dL_law_384 hl (by decide) rfl (fun ls hl => ?_)
  refine lv_aload_n hx hb dL_law_386 rfl (lv_at hl 4 rfl) ?_
  refine lw_callM (As := []) (rest := []) X (c_X6_thrown l D y am ht0) (mp_cw (k := 0) hts mM_L_79 mI_X6_thrown mS_X6_thrown mN_X6 mC_X6_thrown rfl rfl (by decide +kernel) ⟨(Nat.le_of_ble_eq_true rfl), (Nat.le_of_ble_eq_true rfl)⟩) hK hP hD hS hA 0 mwC_0 rfl rfl hl.1 rfl (Nat.le_of_ble_eq_true rfl) dL_law_387 hroom2 (fun H locs hP hD hS => ?_)
  refine lv_iload hx hb dL_law_390 (lv_at hl 1 rfl) ?_
  refine lv_icmp_eq (tgt := 397) hx hb dL_law_392 (by decide) (fun _ => ?_) (fun hc => absurd hth hc)
  refine lv_iload hx hb dL_law_397 (lv_at hl 1 rfl) ?_
  refine lv_if_ne (tgt := 421) hx hb dL_law_399 (by decide) (fun _ => ?_) (fun hc => absurd hc (by decide))
  refine lv_goto (tgt := 1182) hx hb dL_law_421 (by decide) ?_
  exact kk _ _ _ hP hD hS (lv_sub hl [2, 3, 4, 5, 6] rfl)
set_option maxHeartbeats 4000000 in
set_option maxRecDepth 100000 in
theorem lc_ask {p : Program} {e : Env} {s : State} {m : MethodId} {below : List Frame} {meth : Method} {c : Code} {l : Launch} {b L : Nat} {xs : Nat → Int32} {D : va_G} {y : CY} {a am : Nat → Nat} {x z z1 : PD} {x1 : PD} {r : Int32} {th : Int32} {o0 : Int64} {x4 : Int32} {H : Heap} {locs : List Loc} {ls : Array Slot} {cells slots : Nat} {Q : State → Prop} {A : Nat → Prop} (X : mpX p s m #[Value.ref b] meth c code 8 ret RL) (hlt : l.stackTraces = false) (hT : thE A s s.heap) (hK : va_K D vwCl (mpT y) s) (hA : ∀ q, s.heap.size ≤ q → A q) (hX : va_X b L xs s s.heap) (hbl : b < s.heap.size) (hbA : ¬ A b) (hf : f_L_ask x (xs (Int32.toNatClampNeg (x4 + 1))) = some (0, x1)) (hm : f_X6_ask z (xs (Int32.toNatClampNeg (x4 + 1))) = some (r, z1)) (ht0 : f_X6_thrown z1 = some th) (hth : th = 0) (ho : rB x1 45 0 = o0) (heq : o0 = Int32.toInt64 r) (hi1 : vp_in (x4 + 1) L) (hroom : cells ≤ room_1.cells ∧ slots ≤ room_1.slots) (hP : va_P D vwCl (pw y a x ++ mw y am z) H) (hD : va_D A (pw y a x ++ mw y am z)) (hS : va_S A s.heap H locs) (hl : lv_has ls 8 [(0, .ref b), (1, .ref (a 0)), (2, .ref (am 0)), (3, .ref (a 45)), (4, .int x4)])
    (kk : ∀ (H : Heap) (locs : List Loc) (ls : Array Slot), va_P D vwCl (pw y a x1 ++ mw y am z1) H → va_D A (pw y a x1 ++ mw y am z1) → va_S A s.heap H locs → lv_has ls 8 [(0, .ref b), (1, .ref (a 0)), (2, .ref (am 0)), (3, .ref (a 45)), (4, .int x4)] → W p l e room_1 s m #[Value.ref b] below meth c H locs cells slots Q (F0 m 1182 ls [])) :
    W p l e room_1 s m #[Value.ref b] below meth c H locs cells slots Q (F0 m 424 ls []) := by
  obtain ⟨⟨hx, hb, hml, hown, hts⟩, hr, hlk⟩ := id X
  refine lv_aload_n hx hb dL_law_424 rfl (lv_at hl 1 rfl) ?_
  refine lv_aload_n hx hb dL_law_425 rfl (lv_at hl 0 rfl) ?_
  refine lv_iload hx hb dL_law_426 (lv_at hl 4 rfl) ?_
  refine lv_iconst (v := 1) hx hb dL_law_428 (by decide) ?_
  refine lv_iadd hx hb dL_law_429 ?_
  refine va_sld hx hb hX hbl hbA hS hi1 dL_law_430 ?_
  refine lv_aload_n hx hb dL_law_431 rfl (lv_at hl 3 rfl) ?_
  refine lw_callH (As := [.ref (a 0), .int (xs (Int32.toNatClampNeg (x4 + 1))), .ref (a 45)]) (rest := []) X (c_L_ask l D y a hf) (mp_csH (k := 3) hts mM_L_91 mT_L_ask mN_L mH_L_ask rfl rfl (by decide +kernel) ⟨(Nat.le_of_ble_eq_true rfl), (Nat.le_of_ble_eq_true rfl)⟩) hK hP hD hS hA rfl hl.1 rfl (Nat.le_of_ble_eq_true rfl) dL_law_432 hroom (fun H locs hP hD hS => ?_)
  refine lv_istore (lv' := [(5, .int 0), (0, .ref b), (1, .ref (a 0)), (2, .ref (am 0)), (3, .ref (a 45)), (4, .int x4)]) hx hb dL_law_435 hl (by decide) rfl (fun ls hl => ?_)
  refine lv_aload_n hx hb dL_law_437 rfl (lv_at hl 3 rfl) ?_
  refine lv_aload_n hx hb dL_law_438 rfl (lv_at hl 1 rfl) ?_
  refine lv_iload hx hb dL_law_439 (lv_at hl 5 rfl) ?_
  refine lv_iconst (v := 1) hx hb dL_law_441 (by decide) ?_
  refine lv_iadd hx hb dL_law_442 ?_
  refine va_sld hx hb hX hbl hbA hS hi1 dL_law_443 ?_
  refine lw_callM (As := [.int (xs (Int32.toNatClampNeg (x4 + 1)))]) (rest := []) X (c_X6_ask l D y am hm) (mp_cw (k := 1) hts mM_L_93 mI_X6_ask mS_X6_ask mN_X6 mC_X6_ask rfl rfl (by decide +kernel) ⟨(Nat.le_of_ble_eq_true rfl), (Nat.le_of_ble_eq_true rfl)⟩) hK hP hD hS hA 0 mwC_0 rfl rfl hl.1 rfl (Nat.le_of_ble_eq_true rfl) dL_law_444 hroom (fun H locs hP hD hS => ?_)
  refine lv_istore (lv' := [(6, .int r), (5, .int 0), (0, .ref b), (1, .ref (a 0)), (2, .ref (am 0)), (3, .ref (a 45)), (4, .int x4)]) hx hb dL_law_447 hl (by decide) rfl (fun ls hl => ?_)
  refine lv_aload_n hx hb dL_law_449 rfl (lv_at hl 4 rfl) ?_
  refine lw_callM (As := []) (rest := []) X (c_X6_thrown l D y am ht0) (mp_cw (k := 0) hts mM_L_79 mI_X6_thrown mS_X6_thrown mN_X6 mC_X6_thrown rfl rfl (by decide +kernel) ⟨(Nat.le_of_ble_eq_true rfl), (Nat.le_of_ble_eq_true rfl)⟩) hK hP hD hS hA 0 mwC_0 rfl rfl hl.1 rfl (Nat.le_of_ble_eq_true rfl) dL_law_450 hroom (fun H locs hP hD hS => ?_)
  refine lv_iload hx hb dL_law_453 (lv_at hl 1 rfl) ?_
  refine lv_icmp_eq (tgt := 460) hx hb dL_law_455 (by decide) (fun _ => ?_) (fun hc => absurd hth hc)
  refine lv_iload hx hb dL_law_460 (lv_at hl 1 rfl) ?_
  refine lv_if_ne (tgt := 477) hx hb dL_law_462 (by decide) (fun hc => absurd rfl hc) (fun _ => ?_)
  refine lv_aload_n hx hb dL_law_465 rfl (lv_at hl 5 rfl) ?_
  refine lv_iconst (v := 0) hx hb dL_law_466 (by decide) ?_
  refine va_lald hx hb hK hP 45 1 rfl rfl (inR_vp (by decide)) dL_law_467 ?_
  refine W.eq (g2 := F0 m 468 ls (.long o0 :: [])) (congrArg (fun v => F0 m 468 ls (.long v :: [])) ho) ?_
  refine lv_iload hx hb dL_law_468 (lv_at hl 0 rfl) ?_
  refine lv_i2l (v := Int32.toInt64 r) hx hb dL_law_470 rfl ?_
  refine W.lcmp hx hb dL_law_471 ?_
  refine lv_if_eq (tgt := 477) hx hb dL_law_472 (by decide) (fun _ => ?_) (fun hc => absurd ((lg_cmp_eq _ _).mpr heq) hc)
  refine lv_goto (tgt := 1182) hx hb dL_law_477 (by decide) ?_
  exact kk _ _ _ hP hD hS (lv_sub hl [2, 3, 4, 5, 6] rfl)
set_option maxHeartbeats 4000000 in
set_option maxRecDepth 100000 in
theorem lc_ask_t2 {p : Program} {e : Env} {s : State} {m : MethodId} {below : List Frame} {meth : Method} {c : Code} {l : Launch} {b L : Nat} {xs : Nat → Int32} {D : va_G} {y : CY} {a am : Nat → Nat} {x z z1 : PD} {r : Int32} {th : Int32} {x4 : Int32} {H : Heap} {locs : List Loc} {ls : Array Slot} {cells slots : Nat} {Q : State → Prop} {A : Nat → Prop} (X : mpX p s m #[Value.ref b] meth c code 8 ret RL) (hlt : l.stackTraces = false) (hT : thE A s s.heap) (hK : va_K D vwCl (mpT y) s) (hA : ∀ q, s.heap.size ≤ q → A q) (hX : va_X b L xs s s.heap) (hbl : b < s.heap.size) (hbA : ¬ A b) (hf : g_X5_ask x (xs (Int32.toNatClampNeg (x4 + 1))) = some 2) (hm : f_X6_ask z (xs (Int32.toNatClampNeg (x4 + 1))) = some (r, z1)) (ht0 : f_X6_thrown z1 = some th) (hth : th = 1) (hi1 : vp_in (x4 + 1) L) (hroom : cells + 1 ≤ room_1.cells ∧ slots + 6 ≤ room_1.slots) (hP : va_P D vwCl (pw y a x ++ mw y am z) H) (hD : va_D A (pw y a x ++ mw y am z)) (hS : va_S A s.heap H locs) (hl : lv_has ls 8 [(0, .ref b), (1, .ref (a 0)), (2, .ref (am 0)), (3, .ref (a 45)), (4, .int x4)])
    (kk : ∀ (H : Heap) (locs : List Loc) (ls : Array Slot), va_P D vwCl (pw y a x ++ mw y am z1) H → va_D A (pw y a x ++ mw y am z1) → va_S A s.heap H locs → lv_has ls 8 [(0, .ref b), (1, .ref (a 0)), (2, .ref (am 0)), (3, .ref (a 45)), (4, .int x4)] → W p l e room_1 s m #[Value.ref b] below meth c H locs (cells + 1) (slots + 6) Q (F0 m 1182 ls [])) :
    W p l e room_1 s m #[Value.ref b] below meth c H locs cells slots Q (F0 m 424 ls []) := by
  obtain ⟨⟨hx, hb, hml, hown, hts⟩, hr, hlk⟩ := id X
  have hroom2 := hroom
  refine lv_aload_n hx hb dL_law_424 rfl (lv_at hl 1 rfl) ?_
  refine lv_aload_n hx hb dL_law_425 rfl (lv_at hl 0 rfl) ?_
  refine lv_iload hx hb dL_law_426 (lv_at hl 4 rfl) ?_
  refine lv_iconst (v := 1) hx hb dL_law_428 (by decide) ?_
  refine lv_iadd hx hb dL_law_429 ?_
  refine va_sld hx hb hX hbl hbA hS hi1 dL_law_430 ?_
  refine lv_aload_n hx hb dL_law_431 rfl (lv_at hl 3 rfl) ?_
  refine lw_callT (As := [.ref (a 0), .int (xs (Int32.toNatClampNeg (x4 + 1))), .ref (a 45)]) (rest := []) X hT (th_L_ask_2 l hlt D y a hf) (mp_csH (k := 3) hts mM_L_91 mT_L_ask mN_L mH_L_ask rfl rfl (by decide +kernel) ⟨(Nat.le_of_ble_eq_true rfl), (Nat.le_of_ble_eq_true rfl)⟩) hK hP hD hS hA rfl hl.1 rfl (Nat.le_of_ble_eq_true rfl) dL_law_432 hroom (fun H locs hP hD hS => ?_)
  refine lv_istore (lv' := [(5, .int 1), (0, .ref b), (1, .ref (a 0)), (2, .ref (am 0)), (3, .ref (a 45)), (4, .int x4)]) hx hb dL_law_435 hl (by decide) rfl (fun ls hl => ?_)
  refine lv_aload_n hx hb dL_law_437 rfl (lv_at hl 3 rfl) ?_
  refine lv_aload_n hx hb dL_law_438 rfl (lv_at hl 1 rfl) ?_
  refine lv_iload hx hb dL_law_439 (lv_at hl 5 rfl) ?_
  refine lv_iconst (v := 1) hx hb dL_law_441 (by decide) ?_
  refine lv_iadd hx hb dL_law_442 ?_
  refine va_sld hx hb hX hbl hbA hS hi1 dL_law_443 ?_
  refine lw_callM (As := [.int (xs (Int32.toNatClampNeg (x4 + 1)))]) (rest := []) X (c_X6_ask l D y am hm) (mp_cw (k := 1) hts mM_L_93 mI_X6_ask mS_X6_ask mN_X6 mC_X6_ask rfl rfl (by decide +kernel) ⟨(Nat.le_of_ble_eq_true rfl), (Nat.le_of_ble_eq_true rfl)⟩) hK hP hD hS hA 0 mwC_0 rfl rfl hl.1 rfl (Nat.le_of_ble_eq_true rfl) dL_law_444 hroom2 (fun H locs hP hD hS => ?_)
  refine lv_istore (lv' := [(6, .int r), (5, .int 1), (0, .ref b), (1, .ref (a 0)), (2, .ref (am 0)), (3, .ref (a 45)), (4, .int x4)]) hx hb dL_law_447 hl (by decide) rfl (fun ls hl => ?_)
  refine lv_aload_n hx hb dL_law_449 rfl (lv_at hl 4 rfl) ?_
  refine lw_callM (As := []) (rest := []) X (c_X6_thrown l D y am ht0) (mp_cw (k := 0) hts mM_L_79 mI_X6_thrown mS_X6_thrown mN_X6 mC_X6_thrown rfl rfl (by decide +kernel) ⟨(Nat.le_of_ble_eq_true rfl), (Nat.le_of_ble_eq_true rfl)⟩) hK hP hD hS hA 0 mwC_0 rfl rfl hl.1 rfl (Nat.le_of_ble_eq_true rfl) dL_law_450 hroom2 (fun H locs hP hD hS => ?_)
  refine lv_iload hx hb dL_law_453 (lv_at hl 1 rfl) ?_
  refine lv_icmp_eq (tgt := 460) hx hb dL_law_455 (by decide) (fun _ => ?_) (fun hc => absurd hth hc)
  refine lv_iload hx hb dL_law_460 (lv_at hl 1 rfl) ?_
  refine lv_if_ne (tgt := 477) hx hb dL_law_462 (by decide) (fun _ => ?_) (fun hc => absurd hc (by decide))
  refine lv_goto (tgt := 1182) hx hb dL_law_477 (by decide) ?_
  exact kk _ _ _ hP hD hS (lv_sub hl [2, 3, 4, 5, 6] rfl)
set_option maxHeartbeats 4000000 in
set_option maxRecDepth 100000 in
theorem lc_leave {p : Program} {e : Env} {s : State} {m : MethodId} {below : List Frame} {meth : Method} {c : Code} {l : Launch} {b L : Nat} {xs : Nat → Int32} {D : va_G} {y : CY} {a am : Nat → Nat} {x z z1 : PD} {x1 : PD} {r0 r : Int32} {x4 : Int32} {H : Heap} {locs : List Loc} {ls : Array Slot} {cells slots : Nat} {Q : State → Prop} {A : Nat → Prop} (X : mpX p s m #[Value.ref b] meth c code 8 ret RL) (hlt : l.stackTraces = false) (hT : thE A s s.heap) (hK : va_K D vwCl (mpT y) s) (hA : ∀ q, s.heap.size ≤ q → A q) (hX : va_X b L xs s s.heap) (hbl : b < s.heap.size) (hbA : ¬ A b) (hf : f_X5_leave x = some (r0, x1)) (hm : f_X6_leave z = some (r, z1)) (heq : r0 = r) (hroom : cells ≤ room_1.cells ∧ slots ≤ room_1.slots) (hP : va_P D vwCl (pw y a x ++ mw y am z) H) (hD : va_D A (pw y a x ++ mw y am z)) (hS : va_S A s.heap H locs) (hl : lv_has ls 8 [(0, .ref b), (1, .ref (a 0)), (2, .ref (am 0)), (3, .ref (a 45)), (4, .int x4)])
    (kk : ∀ (H : Heap) (locs : List Loc) (ls : Array Slot), va_P D vwCl (pw y a x1 ++ mw y am z1) H → va_D A (pw y a x1 ++ mw y am z1) → va_S A s.heap H locs → lv_has ls 8 [(0, .ref b), (1, .ref (a 0)), (2, .ref (am 0)), (3, .ref (a 45)), (4, .int x4)] → W p l e room_1 s m #[Value.ref b] below meth c H locs cells slots Q (F0 m 1182 ls [])) :
    W p l e room_1 s m #[Value.ref b] below meth c H locs cells slots Q (F0 m 480 ls []) := by
  obtain ⟨⟨hx, hb, hml, hown, hts⟩, hr, hlk⟩ := id X
  refine lv_aload_n hx hb dL_law_480 rfl (lv_at hl 1 rfl) ?_
  refine lw_callP (As := []) (rest := []) X (c_X5_leave l D y a hf) (mp_cw (k := 0) hts mM_L_94 mI_X5_leave mS_X5_leave mN_X5 mC_X5_leave rfl rfl (by decide +kernel) ⟨(Nat.le_of_ble_eq_true rfl), (Nat.le_of_ble_eq_true rfl)⟩) hK hP hD hS hA 0 pwC_0 rfl rfl hl.1 rfl (Nat.le_of_ble_eq_true rfl) dL_law_481 hroom (fun H locs hP hD hS => ?_)
  refine lv_aload_n hx hb dL_law_484 rfl (lv_at hl 2 rfl) ?_
  refine lw_callM (As := []) (rest := [.int r0]) X (c_X6_leave l D y am hm) (mp_cw (k := 0) hts mM_L_97 mI_X6_leave mS_X6_leave mN_X6 mC_X6_leave rfl rfl (by decide +kernel) ⟨(Nat.le_of_ble_eq_true rfl), (Nat.le_of_ble_eq_true rfl)⟩) hK hP hD hS hA 0 mwC_0 rfl rfl hl.1 rfl (Nat.le_of_ble_eq_true rfl) dL_law_485 hroom (fun H locs hP hD hS => ?_)
  refine lv_icmp_eq (tgt := 1182) hx hb dL_law_488 (by decide) (fun _ => ?_) (fun hc => absurd heq hc)
  exact kk _ _ _ hP hD hS (lv_sub hl [0, 1, 2, 3, 4] rfl)
set_option maxHeartbeats 4000000 in
set_option maxRecDepth 100000 in
theorem lc_way {p : Program} {e : Env} {s : State} {m : MethodId} {below : List Frame} {meth : Method} {c : Code} {l : Launch} {b L : Nat} {xs : Nat → Int32} {D : va_G} {y : CY} {a am : Nat → Nat} {x z z1 : PD} {x1 : PD} {r : Int32} {th : Int32} {o0 : Int64} {x4 : Int32} {H : Heap} {locs : List Loc} {ls : Array Slot} {cells slots : Nat} {Q : State → Prop} {A : Nat → Prop} (X : mpX p s m #[Value.ref b] meth c code 8 ret RL) (hlt : l.stackTraces = false) (hT : thE A s s.heap) (hK : va_K D vwCl (mpT y) s) (hA : ∀ q, s.heap.size ≤ q → A q) (hX : va_X b L xs s s.heap) (hbl : b < s.heap.size) (hbA : ¬ A b) (hf : f_L_way x (xs (Int32.toNatClampNeg (x4 + 1))) = some (0, x1)) (hm : f_X6_way z (xs (Int32.toNatClampNeg (x4 + 1))) = some (r, z1)) (ht0 : f_X6_thrown z1 = some th) (hth : th = 0) (ho : rB x1 45 0 = o0) (heq : o0 = Int32.toInt64 r) (hi1 : vp_in (x4 + 1) L) (hroom : cells ≤ room_1.cells ∧ slots ≤ room_1.slots) (hP : va_P D vwCl (pw y a x ++ mw y am z) H) (hD : va_D A (pw y a x ++ mw y am z)) (hS : va_S A s.heap H locs) (hl : lv_has ls 8 [(0, .ref b), (1, .ref (a 0)), (2, .ref (am 0)), (3, .ref (a 45)), (4, .int x4)])
    (kk : ∀ (H : Heap) (locs : List Loc) (ls : Array Slot), va_P D vwCl (pw y a x1 ++ mw y am z1) H → va_D A (pw y a x1 ++ mw y am z1) → va_S A s.heap H locs → lv_has ls 8 [(0, .ref b), (1, .ref (a 0)), (2, .ref (am 0)), (3, .ref (a 45)), (4, .int x4)] → W p l e room_1 s m #[Value.ref b] below meth c H locs cells slots Q (F0 m 1182 ls [])) :
    W p l e room_1 s m #[Value.ref b] below meth c H locs cells slots Q (F0 m 493 ls []) := by
  obtain ⟨⟨hx, hb, hml, hown, hts⟩, hr, hlk⟩ := id X
  refine lv_aload_n hx hb dL_law_493 rfl (lv_at hl 1 rfl) ?_
  refine lv_aload_n hx hb dL_law_494 rfl (lv_at hl 0 rfl) ?_
  refine lv_iload hx hb dL_law_495 (lv_at hl 4 rfl) ?_
  refine lv_iconst (v := 1) hx hb dL_law_497 (by decide) ?_
  refine lv_iadd hx hb dL_law_498 ?_
  refine va_sld hx hb hX hbl hbA hS hi1 dL_law_499 ?_
  refine lv_aload_n hx hb dL_law_500 rfl (lv_at hl 3 rfl) ?_
  refine lw_callH (As := [.ref (a 0), .int (xs (Int32.toNatClampNeg (x4 + 1))), .ref (a 45)]) (rest := []) X (c_L_way l D y a hf) (mp_csH (k := 3) hts mM_L_98 mT_L_way mN_L mH_L_way rfl rfl (by decide +kernel) ⟨(Nat.le_of_ble_eq_true rfl), (Nat.le_of_ble_eq_true rfl)⟩) hK hP hD hS hA rfl hl.1 rfl (Nat.le_of_ble_eq_true rfl) dL_law_501 hroom (fun H locs hP hD hS => ?_)
  refine lv_istore (lv' := [(5, .int 0), (0, .ref b), (1, .ref (a 0)), (2, .ref (am 0)), (3, .ref (a 45)), (4, .int x4)]) hx hb dL_law_504 hl (by decide) rfl (fun ls hl => ?_)
  refine lv_aload_n hx hb dL_law_506 rfl (lv_at hl 3 rfl) ?_
  refine lv_aload_n hx hb dL_law_507 rfl (lv_at hl 1 rfl) ?_
  refine lv_iload hx hb dL_law_508 (lv_at hl 5 rfl) ?_
  refine lv_iconst (v := 1) hx hb dL_law_510 (by decide) ?_
  refine lv_iadd hx hb dL_law_511 ?_
  refine va_sld hx hb hX hbl hbA hS hi1 dL_law_512 ?_
  refine lw_callM (As := [.int (xs (Int32.toNatClampNeg (x4 + 1)))]) (rest := []) X (c_X6_way l D y am hm) (mp_cw (k := 1) hts mM_L_100 mI_X6_way mS_X6_way mN_X6 mC_X6_way rfl rfl (by decide +kernel) ⟨(Nat.le_of_ble_eq_true rfl), (Nat.le_of_ble_eq_true rfl)⟩) hK hP hD hS hA 0 mwC_0 rfl rfl hl.1 rfl (Nat.le_of_ble_eq_true rfl) dL_law_513 hroom (fun H locs hP hD hS => ?_)
  refine lv_istore (lv' := [(6, .int r), (5, .int 0), (0, .ref b), (1, .ref (a 0)), (2, .ref (am 0)), (3, .ref (a 45)), (4, .int x4)]) hx hb dL_law_516 hl (by decide) rfl (fun ls hl => ?_)
  refine lv_aload_n hx hb dL_law_518 rfl (lv_at hl 4 rfl) ?_
  refine lw_callM (As := []) (rest := []) X (c_X6_thrown l D y am ht0) (mp_cw (k := 0) hts mM_L_79 mI_X6_thrown mS_X6_thrown mN_X6 mC_X6_thrown rfl rfl (by decide +kernel) ⟨(Nat.le_of_ble_eq_true rfl), (Nat.le_of_ble_eq_true rfl)⟩) hK hP hD hS hA 0 mwC_0 rfl rfl hl.1 rfl (Nat.le_of_ble_eq_true rfl) dL_law_519 hroom (fun H locs hP hD hS => ?_)
  refine lv_iload hx hb dL_law_522 (lv_at hl 1 rfl) ?_
  refine lv_icmp_eq (tgt := 529) hx hb dL_law_524 (by decide) (fun _ => ?_) (fun hc => absurd hth hc)
  refine lv_iload hx hb dL_law_529 (lv_at hl 1 rfl) ?_
  refine lv_if_ne (tgt := 546) hx hb dL_law_531 (by decide) (fun hc => absurd rfl hc) (fun _ => ?_)
  refine lv_aload_n hx hb dL_law_534 rfl (lv_at hl 5 rfl) ?_
  refine lv_iconst (v := 0) hx hb dL_law_535 (by decide) ?_
  refine va_lald hx hb hK hP 45 1 rfl rfl (inR_vp (by decide)) dL_law_536 ?_
  refine W.eq (g2 := F0 m 537 ls (.long o0 :: [])) (congrArg (fun v => F0 m 537 ls (.long v :: [])) ho) ?_
  refine lv_iload hx hb dL_law_537 (lv_at hl 0 rfl) ?_
  refine lv_i2l (v := Int32.toInt64 r) hx hb dL_law_539 rfl ?_
  refine W.lcmp hx hb dL_law_540 ?_
  refine lv_if_eq (tgt := 546) hx hb dL_law_541 (by decide) (fun _ => ?_) (fun hc => absurd ((lg_cmp_eq _ _).mpr heq) hc)
  refine lv_goto (tgt := 1182) hx hb dL_law_546 (by decide) ?_
  exact kk _ _ _ hP hD hS (lv_sub hl [2, 3, 4, 5, 6] rfl)
set_option maxHeartbeats 4000000 in
set_option maxRecDepth 100000 in
theorem lc_way_t1 {p : Program} {e : Env} {s : State} {m : MethodId} {below : List Frame} {meth : Method} {c : Code} {l : Launch} {b L : Nat} {xs : Nat → Int32} {D : va_G} {y : CY} {a am : Nat → Nat} {x z z1 : PD} {r : Int32} {th : Int32} {x4 : Int32} {H : Heap} {locs : List Loc} {ls : Array Slot} {cells slots : Nat} {Q : State → Prop} {A : Nat → Prop} (X : mpX p s m #[Value.ref b] meth c code 8 ret RL) (hlt : l.stackTraces = false) (hT : thE A s s.heap) (hK : va_K D vwCl (mpT y) s) (hA : ∀ q, s.heap.size ≤ q → A q) (hX : va_X b L xs s s.heap) (hbl : b < s.heap.size) (hbA : ¬ A b) (hf : g_X5_way x (xs (Int32.toNatClampNeg (x4 + 1))) = some 1) (hm : f_X6_way z (xs (Int32.toNatClampNeg (x4 + 1))) = some (r, z1)) (ht0 : f_X6_thrown z1 = some th) (hth : th = 1) (hi1 : vp_in (x4 + 1) L) (hroom : cells + 1 ≤ room_1.cells ∧ slots + 6 ≤ room_1.slots) (hP : va_P D vwCl (pw y a x ++ mw y am z) H) (hD : va_D A (pw y a x ++ mw y am z)) (hS : va_S A s.heap H locs) (hl : lv_has ls 8 [(0, .ref b), (1, .ref (a 0)), (2, .ref (am 0)), (3, .ref (a 45)), (4, .int x4)])
    (kk : ∀ (H : Heap) (locs : List Loc) (ls : Array Slot), va_P D vwCl (pw y a x ++ mw y am z1) H → va_D A (pw y a x ++ mw y am z1) → va_S A s.heap H locs → lv_has ls 8 [(0, .ref b), (1, .ref (a 0)), (2, .ref (am 0)), (3, .ref (a 45)), (4, .int x4)] → W p l e room_1 s m #[Value.ref b] below meth c H locs (cells + 1) (slots + 6) Q (F0 m 1182 ls [])) :
    W p l e room_1 s m #[Value.ref b] below meth c H locs cells slots Q (F0 m 493 ls []) := by
  obtain ⟨⟨hx, hb, hml, hown, hts⟩, hr, hlk⟩ := id X
  have hroom2 := hroom
  refine lv_aload_n hx hb dL_law_493 rfl (lv_at hl 1 rfl) ?_
  refine lv_aload_n hx hb dL_law_494 rfl (lv_at hl 0 rfl) ?_
  refine lv_iload hx hb dL_law_495 (lv_at hl 4 rfl) ?_
  refine lv_iconst (v := 1) hx hb dL_law_497 (by decide) ?_
  refine lv_iadd hx hb dL_law_498 ?_
  refine va_sld hx hb hX hbl hbA hS hi1 dL_law_499 ?_
  refine lv_aload_n hx hb dL_law_500 rfl (lv_at hl 3 rfl) ?_
  refine lw_callT (As := [.ref (a 0), .int (xs (Int32.toNatClampNeg (x4 + 1))), .ref (a 45)]) (rest := []) X hT (th_L_way_1 l hlt D y a hf) (mp_csH (k := 3) hts mM_L_98 mT_L_way mN_L mH_L_way rfl rfl (by decide +kernel) ⟨(Nat.le_of_ble_eq_true rfl), (Nat.le_of_ble_eq_true rfl)⟩) hK hP hD hS hA rfl hl.1 rfl (Nat.le_of_ble_eq_true rfl) dL_law_501 hroom (fun H locs hP hD hS => ?_)
  refine lv_istore (lv' := [(5, .int 1), (0, .ref b), (1, .ref (a 0)), (2, .ref (am 0)), (3, .ref (a 45)), (4, .int x4)]) hx hb dL_law_504 hl (by decide) rfl (fun ls hl => ?_)
  refine lv_aload_n hx hb dL_law_506 rfl (lv_at hl 3 rfl) ?_
  refine lv_aload_n hx hb dL_law_507 rfl (lv_at hl 1 rfl) ?_
  refine lv_iload hx hb dL_law_508 (lv_at hl 5 rfl) ?_
  refine lv_iconst (v := 1) hx hb dL_law_510 (by decide) ?_
  refine lv_iadd hx hb dL_law_511 ?_
  refine va_sld hx hb hX hbl hbA hS hi1 dL_law_512 ?_
  refine lw_callM (As := [.int (xs (Int32.toNatClampNeg (x4 + 1)))]) (rest := []) X (c_X6_way l D y am hm) (mp_cw (k := 1) hts mM_L_100 mI_X6_way mS_X6_way mN_X6 mC_X6_way rfl rfl (by decide +kernel) ⟨(Nat.le_of_ble_eq_true rfl), (Nat.le_of_ble_eq_true rfl)⟩) hK hP hD hS hA 0 mwC_0 rfl rfl hl.1 rfl (Nat.le_of_ble_eq_true rfl) dL_law_513 hroom2 (fun H locs hP hD hS => ?_)
  refine lv_istore (lv' := [(6, .int r), (5, .int 1), (0, .ref b), (1, .ref (a 0)), (2, .ref (am 0)), (3, .ref (a 45)), (4, .int x4)]) hx hb dL_law_516 hl (by decide) rfl (fun ls hl => ?_)
  refine lv_aload_n hx hb dL_law_518 rfl (lv_at hl 4 rfl) ?_
  refine lw_callM (As := []) (rest := []) X (c_X6_thrown l D y am ht0) (mp_cw (k := 0) hts mM_L_79 mI_X6_thrown mS_X6_thrown mN_X6 mC_X6_thrown rfl rfl (by decide +kernel) ⟨(Nat.le_of_ble_eq_true rfl), (Nat.le_of_ble_eq_true rfl)⟩) hK hP hD hS hA 0 mwC_0 rfl rfl hl.1 rfl (Nat.le_of_ble_eq_true rfl) dL_law_519 hroom2 (fun H locs hP hD hS => ?_)
  refine lv_iload hx hb dL_law_522 (lv_at hl 1 rfl) ?_
  refine lv_icmp_eq (tgt := 529) hx hb dL_law_524 (by decide) (fun _ => ?_) (fun hc => absurd hth hc)
  refine lv_iload hx hb dL_law_529 (lv_at hl 1 rfl) ?_
  refine lv_if_ne (tgt := 546) hx hb dL_law_531 (by decide) (fun _ => ?_) (fun hc => absurd hc (by decide))
  refine lv_goto (tgt := 1182) hx hb dL_law_546 (by decide) ?_
  exact kk _ _ _ hP hD hS (lv_sub hl [2, 3, 4, 5, 6] rfl)
set_option maxHeartbeats 4000000 in
set_option maxRecDepth 100000 in
theorem lc_cost {p : Program} {e : Env} {s : State} {m : MethodId} {below : List Frame} {meth : Method} {c : Code} {l : Launch} {b L : Nat} {xs : Nat → Int32} {D : va_G} {y : CY} {a am : Nat → Nat} {x z z1 : PD} {r0 r : Int64} {x4 : Int32} {H : Heap} {locs : List Loc} {ls : Array Slot} {cells slots : Nat} {Q : State → Prop} {A : Nat → Prop} (X : mpX p s m #[Value.ref b] meth c code 8 ret RL) (hlt : l.stackTraces = false) (hT : thE A s s.heap) (hK : va_K D vwCl (mpT y) s) (hA : ∀ q, s.heap.size ≤ q → A q) (hX : va_X b L xs s s.heap) (hbl : b < s.heap.size) (hbA : ¬ A b) (hf : f_X5_cost x = some r0) (hm : f_X6_cost z = some (r, z1)) (heq : r0 = r) (hroom : cells ≤ room_1.cells ∧ slots ≤ room_1.slots) (hP : va_P D vwCl (pw y a x ++ mw y am z) H) (hD : va_D A (pw y a x ++ mw y am z)) (hS : va_S A s.heap H locs) (hl : lv_has ls 8 [(0, .ref b), (1, .ref (a 0)), (2, .ref (am 0)), (3, .ref (a 45)), (4, .int x4)])
    (kk : ∀ (H : Heap) (locs : List Loc) (ls : Array Slot), va_P D vwCl (pw y a x ++ mw y am z1) H → va_D A (pw y a x ++ mw y am z1) → va_S A s.heap H locs → lv_has ls 8 [(0, .ref b), (1, .ref (a 0)), (2, .ref (am 0)), (3, .ref (a 45)), (4, .int x4)] → W p l e room_1 s m #[Value.ref b] below meth c H locs cells slots Q (F0 m 1182 ls [])) :
    W p l e room_1 s m #[Value.ref b] below meth c H locs cells slots Q (F0 m 549 ls []) := by
  obtain ⟨⟨hx, hb, hml, hown, hts⟩, hr, hlk⟩ := id X
  refine lv_aload_n hx hb dL_law_549 rfl (lv_at hl 1 rfl) ?_
  refine lw_callP (As := []) (rest := []) X (c_X5_cost l D y a hf) (mp_cw (k := 0) hts mM_L_101 mI_X5_cost mS_X5_cost mN_X5 mC_X5_cost rfl rfl (by decide +kernel) ⟨(Nat.le_of_ble_eq_true rfl), (Nat.le_of_ble_eq_true rfl)⟩) hK hP hD hS hA 0 pwC_0 rfl rfl hl.1 rfl (Nat.le_of_ble_eq_true rfl) dL_law_550 hroom (fun H locs hP hD hS => ?_)
  refine lv_aload_n hx hb dL_law_553 rfl (lv_at hl 2 rfl) ?_
  refine lw_callM (As := []) (rest := [.long r0]) X (c_X6_cost l D y am hm) (mp_cw (k := 0) hts mM_L_105 mI_X6_cost mS_X6_cost mN_X6 mC_X6_cost rfl rfl (by decide +kernel) ⟨(Nat.le_of_ble_eq_true rfl), (Nat.le_of_ble_eq_true rfl)⟩) hK hP hD hS hA 0 mwC_0 rfl rfl hl.1 rfl (Nat.le_of_ble_eq_true rfl) dL_law_554 hroom (fun H locs hP hD hS => ?_)
  refine W.lcmp hx hb dL_law_557 ?_
  refine lv_if_eq (tgt := 1182) hx hb dL_law_558 (by decide) (fun _ => ?_) (fun hc => absurd ((lg_cmp_eq _ _).mpr heq) hc)
  exact kk _ _ _ hP hD hS (lv_sub hl [0, 1, 2, 3, 4] rfl)
set_option maxHeartbeats 4000000 in
set_option maxRecDepth 100000 in
theorem lc_reach {p : Program} {e : Env} {s : State} {m : MethodId} {below : List Frame} {meth : Method} {c : Code} {l : Launch} {b L : Nat} {xs : Nat → Int32} {D : va_G} {y : CY} {a am : Nat → Nat} {x z z1 : PD} {x1 : PD} {r : Int64} {th : Int32} {o0 : Int64} {x4 : Int32} {H : Heap} {locs : List Loc} {ls : Array Slot} {cells slots : Nat} {Q : State → Prop} {A : Nat → Prop} (X : mpX p s m #[Value.ref b] meth c code 8 ret RL) (hlt : l.stackTraces = false) (hT : thE A s s.heap) (hK : va_K D vwCl (mpT y) s) (hA : ∀ q, s.heap.size ≤ q → A q) (hX : va_X b L xs s s.heap) (hbl : b < s.heap.size) (hbA : ¬ A b) (hf : f_L_reach x (xs (Int32.toNatClampNeg (x4 + 1))) (xs (Int32.toNatClampNeg (x4 + 2))) = some (0, x1)) (hm : f_X6_reach z (xs (Int32.toNatClampNeg (x4 + 1))) (xs (Int32.toNatClampNeg (x4 + 2))) = some (r, z1)) (ht0 : f_X6_thrown z1 = some th) (hth : th = 0) (ho : rB x1 45 0 = o0) (heq : o0 = r) (hi1 : vp_in (x4 + 1) L) (hi2 : vp_in (x4 + 2) L) (hroom : cells ≤ room_1.cells ∧ slots ≤ room_1.slots) (hP : va_P D vwCl (pw y a x ++ mw y am z) H) (hD : va_D A (pw y a x ++ mw y am z)) (hS : va_S A s.heap H locs) (hl : lv_has ls 8 [(0, .ref b), (1, .ref (a 0)), (2, .ref (am 0)), (3, .ref (a 45)), (4, .int x4)])
    (kk : ∀ (H : Heap) (locs : List Loc) (ls : Array Slot), va_P D vwCl (pw y a x1 ++ mw y am z1) H → va_D A (pw y a x1 ++ mw y am z1) → va_S A s.heap H locs → lv_has ls 8 [(0, .ref b), (1, .ref (a 0)), (2, .ref (am 0)), (3, .ref (a 45)), (4, .int x4)] → W p l e room_1 s m #[Value.ref b] below meth c H locs cells slots Q (F0 m 1182 ls [])) :
    W p l e room_1 s m #[Value.ref b] below meth c H locs cells slots Q (F0 m 563 ls []) := by
  obtain ⟨⟨hx, hb, hml, hown, hts⟩, hr, hlk⟩ := id X
  refine lv_aload_n hx hb dL_law_563 rfl (lv_at hl 1 rfl) ?_
  refine lv_aload_n hx hb dL_law_564 rfl (lv_at hl 0 rfl) ?_
  refine lv_iload hx hb dL_law_565 (lv_at hl 4 rfl) ?_
  refine lv_iconst (v := 1) hx hb dL_law_567 (by decide) ?_
  refine lv_iadd hx hb dL_law_568 ?_
  refine va_sld hx hb hX hbl hbA hS hi1 dL_law_569 ?_
  refine lv_aload_n hx hb dL_law_570 rfl (lv_at hl 0 rfl) ?_
  refine lv_iload hx hb dL_law_571 (lv_at hl 4 rfl) ?_
  refine lv_iconst (v := 2) hx hb dL_law_573 (by decide) ?_
  refine lv_iadd hx hb dL_law_574 ?_
  refine va_sld hx hb hX hbl hbA hS hi2 dL_law_575 ?_
  refine lv_aload_n hx hb dL_law_576 rfl (lv_at hl 3 rfl) ?_
  refine lw_callH (As := [.ref (a 0), .int (xs (Int32.toNatClampNeg (x4 + 1))), .int (xs (Int32.toNatClampNeg (x4 + 2))), .ref (a 45)]) (rest := []) X (c_L_reach l D y a hf) (mp_csH (k := 4) hts mM_L_106 mT_L_reach mN_L mH_L_reach rfl rfl (by decide +kernel) ⟨(Nat.le_of_ble_eq_true rfl), (Nat.le_of_ble_eq_true rfl)⟩) hK hP hD hS hA rfl hl.1 rfl (Nat.le_of_ble_eq_true rfl) dL_law_577 hroom (fun H locs hP hD hS => ?_)
  refine lv_istore (lv' := [(5, .int 0), (0, .ref b), (1, .ref (a 0)), (2, .ref (am 0)), (3, .ref (a 45)), (4, .int x4)]) hx hb dL_law_580 hl (by decide) rfl (fun ls hl => ?_)
  refine lv_aload_n hx hb dL_law_582 rfl (lv_at hl 3 rfl) ?_
  refine lv_aload_n hx hb dL_law_583 rfl (lv_at hl 1 rfl) ?_
  refine lv_iload hx hb dL_law_584 (lv_at hl 5 rfl) ?_
  refine lv_iconst (v := 1) hx hb dL_law_586 (by decide) ?_
  refine lv_iadd hx hb dL_law_587 ?_
  refine va_sld hx hb hX hbl hbA hS hi1 dL_law_588 ?_
  refine lv_aload_n hx hb dL_law_589 rfl (lv_at hl 1 rfl) ?_
  refine lv_iload hx hb dL_law_590 (lv_at hl 5 rfl) ?_
  refine lv_iconst (v := 2) hx hb dL_law_592 (by decide) ?_
  refine lv_iadd hx hb dL_law_593 ?_
  refine va_sld hx hb hX hbl hbA hS hi2 dL_law_594 ?_
  refine lw_callM (As := [.int (xs (Int32.toNatClampNeg (x4 + 1))), .int (xs (Int32.toNatClampNeg (x4 + 2)))]) (rest := []) X (c_X6_reach l D y am hm) (mp_cw (k := 2) hts mM_L_108 mI_X6_reach mS_X6_reach mN_X6 mC_X6_reach rfl rfl (by decide +kernel) ⟨(Nat.le_of_ble_eq_true rfl), (Nat.le_of_ble_eq_true rfl)⟩) hK hP hD hS hA 0 mwC_0 rfl rfl hl.1 rfl (Nat.le_of_ble_eq_true rfl) dL_law_595 hroom (fun H locs hP hD hS => ?_)
  refine lv_lstore (lv' := [(6, .long r), (5, .int 0), (0, .ref b), (1, .ref (a 0)), (2, .ref (am 0)), (3, .ref (a 45)), (4, .int x4)]) hx hb dL_law_598 hl (by decide) rfl (fun ls hl => ?_)
  refine lv_aload_n hx hb dL_law_600 rfl (lv_at hl 4 rfl) ?_
  refine lw_callM (As := []) (rest := []) X (c_X6_thrown l D y am ht0) (mp_cw (k := 0) hts mM_L_79 mI_X6_thrown mS_X6_thrown mN_X6 mC_X6_thrown rfl rfl (by decide +kernel) ⟨(Nat.le_of_ble_eq_true rfl), (Nat.le_of_ble_eq_true rfl)⟩) hK hP hD hS hA 0 mwC_0 rfl rfl hl.1 rfl (Nat.le_of_ble_eq_true rfl) dL_law_601 hroom (fun H locs hP hD hS => ?_)
  refine lv_iload hx hb dL_law_604 (lv_at hl 1 rfl) ?_
  refine lv_icmp_eq (tgt := 611) hx hb dL_law_606 (by decide) (fun _ => ?_) (fun hc => absurd hth hc)
  refine lv_iload hx hb dL_law_611 (lv_at hl 1 rfl) ?_
  refine lv_if_ne (tgt := 627) hx hb dL_law_613 (by decide) (fun hc => absurd rfl hc) (fun _ => ?_)
  refine lv_aload_n hx hb dL_law_616 rfl (lv_at hl 5 rfl) ?_
  refine lv_iconst (v := 0) hx hb dL_law_617 (by decide) ?_
  refine va_lald hx hb hK hP 45 1 rfl rfl (inR_vp (by decide)) dL_law_618 ?_
  refine W.eq (g2 := F0 m 619 ls (.long o0 :: [])) (congrArg (fun v => F0 m 619 ls (.long v :: [])) ho) ?_
  refine lv_lload hx hb dL_law_619 (lv_at hl 0 rfl) ?_
  refine W.lcmp hx hb dL_law_621 ?_
  refine lv_if_eq (tgt := 627) hx hb dL_law_622 (by decide) (fun _ => ?_) (fun hc => absurd ((lg_cmp_eq _ _).mpr heq) hc)
  refine lv_goto (tgt := 1182) hx hb dL_law_627 (by decide) ?_
  exact kk _ _ _ hP hD hS (lv_sub hl [2, 3, 4, 5, 6] rfl)
set_option maxHeartbeats 4000000 in
set_option maxRecDepth 100000 in
theorem lc_reach_t1 {p : Program} {e : Env} {s : State} {m : MethodId} {below : List Frame} {meth : Method} {c : Code} {l : Launch} {b L : Nat} {xs : Nat → Int32} {D : va_G} {y : CY} {a am : Nat → Nat} {x z z1 : PD} {r : Int64} {th : Int32} {x4 : Int32} {H : Heap} {locs : List Loc} {ls : Array Slot} {cells slots : Nat} {Q : State → Prop} {A : Nat → Prop} (X : mpX p s m #[Value.ref b] meth c code 8 ret RL) (hlt : l.stackTraces = false) (hT : thE A s s.heap) (hK : va_K D vwCl (mpT y) s) (hA : ∀ q, s.heap.size ≤ q → A q) (hX : va_X b L xs s s.heap) (hbl : b < s.heap.size) (hbA : ¬ A b) (hf : g_X5_reach x (xs (Int32.toNatClampNeg (x4 + 1))) (xs (Int32.toNatClampNeg (x4 + 2))) = some 1) (hm : f_X6_reach z (xs (Int32.toNatClampNeg (x4 + 1))) (xs (Int32.toNatClampNeg (x4 + 2))) = some (r, z1)) (ht0 : f_X6_thrown z1 = some th) (hth : th = 1) (hi1 : vp_in (x4 + 1) L) (hi2 : vp_in (x4 + 2) L) (hroom : cells + 1 ≤ room_1.cells ∧ slots + 6 ≤ room_1.slots) (hP : va_P D vwCl (pw y a x ++ mw y am z) H) (hD : va_D A (pw y a x ++ mw y am z)) (hS : va_S A s.heap H locs) (hl : lv_has ls 8 [(0, .ref b), (1, .ref (a 0)), (2, .ref (am 0)), (3, .ref (a 45)), (4, .int x4)])
    (kk : ∀ (H : Heap) (locs : List Loc) (ls : Array Slot), va_P D vwCl (pw y a x ++ mw y am z1) H → va_D A (pw y a x ++ mw y am z1) → va_S A s.heap H locs → lv_has ls 8 [(0, .ref b), (1, .ref (a 0)), (2, .ref (am 0)), (3, .ref (a 45)), (4, .int x4)] → W p l e room_1 s m #[Value.ref b] below meth c H locs (cells + 1) (slots + 6) Q (F0 m 1182 ls [])) :
    W p l e room_1 s m #[Value.ref b] below meth c H locs cells slots Q (F0 m 563 ls []) := by
  obtain ⟨⟨hx, hb, hml, hown, hts⟩, hr, hlk⟩ := id X
  have hroom2 := hroom
  refine lv_aload_n hx hb dL_law_563 rfl (lv_at hl 1 rfl) ?_
  refine lv_aload_n hx hb dL_law_564 rfl (lv_at hl 0 rfl) ?_
  refine lv_iload hx hb dL_law_565 (lv_at hl 4 rfl) ?_
  refine lv_iconst (v := 1) hx hb dL_law_567 (by decide) ?_
  refine lv_iadd hx hb dL_law_568 ?_
  refine va_sld hx hb hX hbl hbA hS hi1 dL_law_569 ?_
  refine lv_aload_n hx hb dL_law_570 rfl (lv_at hl 0 rfl) ?_
  refine lv_iload hx hb dL_law_571 (lv_at hl 4 rfl) ?_
  refine lv_iconst (v := 2) hx hb dL_law_573 (by decide) ?_
  refine lv_iadd hx hb dL_law_574 ?_
  refine va_sld hx hb hX hbl hbA hS hi2 dL_law_575 ?_
  refine lv_aload_n hx hb dL_law_576 rfl (lv_at hl 3 rfl) ?_
  refine lw_callT (As := [.ref (a 0), .int (xs (Int32.toNatClampNeg (x4 + 1))), .int (xs (Int32.toNatClampNeg (x4 + 2))), .ref (a 45)]) (rest := []) X hT (th_L_reach_1 l hlt D y a hf) (mp_csH (k := 4) hts mM_L_106 mT_L_reach mN_L mH_L_reach rfl rfl (by decide +kernel) ⟨(Nat.le_of_ble_eq_true rfl), (Nat.le_of_ble_eq_true rfl)⟩) hK hP hD hS hA rfl hl.1 rfl (Nat.le_of_ble_eq_true rfl) dL_law_577 hroom (fun H locs hP hD hS => ?_)
  refine lv_istore (lv' := [(5, .int 1), (0, .ref b), (1, .ref (a 0)), (2, .ref (am 0)), (3, .ref (a 45)), (4, .int x4)]) hx hb dL_law_580 hl (by decide) rfl (fun ls hl => ?_)
  refine lv_aload_n hx hb dL_law_582 rfl (lv_at hl 3 rfl) ?_
  refine lv_aload_n hx hb dL_law_583 rfl (lv_at hl 1 rfl) ?_
  refine lv_iload hx hb dL_law_584 (lv_at hl 5 rfl) ?_
  refine lv_iconst (v := 1) hx hb dL_law_586 (by decide) ?_
  refine lv_iadd hx hb dL_law_587 ?_
  refine va_sld hx hb hX hbl hbA hS hi1 dL_law_588 ?_
  refine lv_aload_n hx hb dL_law_589 rfl (lv_at hl 1 rfl) ?_
  refine lv_iload hx hb dL_law_590 (lv_at hl 5 rfl) ?_
  refine lv_iconst (v := 2) hx hb dL_law_592 (by decide) ?_
  refine lv_iadd hx hb dL_law_593 ?_
  refine va_sld hx hb hX hbl hbA hS hi2 dL_law_594 ?_
  refine lw_callM (As := [.int (xs (Int32.toNatClampNeg (x4 + 1))), .int (xs (Int32.toNatClampNeg (x4 + 2)))]) (rest := []) X (c_X6_reach l D y am hm) (mp_cw (k := 2) hts mM_L_108 mI_X6_reach mS_X6_reach mN_X6 mC_X6_reach rfl rfl (by decide +kernel) ⟨(Nat.le_of_ble_eq_true rfl), (Nat.le_of_ble_eq_true rfl)⟩) hK hP hD hS hA 0 mwC_0 rfl rfl hl.1 rfl (Nat.le_of_ble_eq_true rfl) dL_law_595 hroom2 (fun H locs hP hD hS => ?_)
  refine lv_lstore (lv' := [(6, .long r), (5, .int 1), (0, .ref b), (1, .ref (a 0)), (2, .ref (am 0)), (3, .ref (a 45)), (4, .int x4)]) hx hb dL_law_598 hl (by decide) rfl (fun ls hl => ?_)
  refine lv_aload_n hx hb dL_law_600 rfl (lv_at hl 4 rfl) ?_
  refine lw_callM (As := []) (rest := []) X (c_X6_thrown l D y am ht0) (mp_cw (k := 0) hts mM_L_79 mI_X6_thrown mS_X6_thrown mN_X6 mC_X6_thrown rfl rfl (by decide +kernel) ⟨(Nat.le_of_ble_eq_true rfl), (Nat.le_of_ble_eq_true rfl)⟩) hK hP hD hS hA 0 mwC_0 rfl rfl hl.1 rfl (Nat.le_of_ble_eq_true rfl) dL_law_601 hroom2 (fun H locs hP hD hS => ?_)
  refine lv_iload hx hb dL_law_604 (lv_at hl 1 rfl) ?_
  refine lv_icmp_eq (tgt := 611) hx hb dL_law_606 (by decide) (fun _ => ?_) (fun hc => absurd hth hc)
  refine lv_iload hx hb dL_law_611 (lv_at hl 1 rfl) ?_
  refine lv_if_ne (tgt := 627) hx hb dL_law_613 (by decide) (fun _ => ?_) (fun hc => absurd hc (by decide))
  refine lv_goto (tgt := 1182) hx hb dL_law_627 (by decide) ?_
  exact kk _ _ _ hP hD hS (lv_sub hl [2, 3, 4, 5, 6] rfl)
set_option maxHeartbeats 4000000 in
set_option maxRecDepth 100000 in
theorem lc_reach_t2 {p : Program} {e : Env} {s : State} {m : MethodId} {below : List Frame} {meth : Method} {c : Code} {l : Launch} {b L : Nat} {xs : Nat → Int32} {D : va_G} {y : CY} {a am : Nat → Nat} {x z z1 : PD} {r : Int64} {th : Int32} {x4 : Int32} {H : Heap} {locs : List Loc} {ls : Array Slot} {cells slots : Nat} {Q : State → Prop} {A : Nat → Prop} (X : mpX p s m #[Value.ref b] meth c code 8 ret RL) (hlt : l.stackTraces = false) (hT : thE A s s.heap) (hK : va_K D vwCl (mpT y) s) (hA : ∀ q, s.heap.size ≤ q → A q) (hX : va_X b L xs s s.heap) (hbl : b < s.heap.size) (hbA : ¬ A b) (hf : g_X5_reach x (xs (Int32.toNatClampNeg (x4 + 1))) (xs (Int32.toNatClampNeg (x4 + 2))) = some 2) (hm : f_X6_reach z (xs (Int32.toNatClampNeg (x4 + 1))) (xs (Int32.toNatClampNeg (x4 + 2))) = some (r, z1)) (ht0 : f_X6_thrown z1 = some th) (hth : th = 2) (hi1 : vp_in (x4 + 1) L) (hi2 : vp_in (x4 + 2) L) (hroom : cells + 1 ≤ room_1.cells ∧ slots + 6 ≤ room_1.slots) (hP : va_P D vwCl (pw y a x ++ mw y am z) H) (hD : va_D A (pw y a x ++ mw y am z)) (hS : va_S A s.heap H locs) (hl : lv_has ls 8 [(0, .ref b), (1, .ref (a 0)), (2, .ref (am 0)), (3, .ref (a 45)), (4, .int x4)])
    (kk : ∀ (H : Heap) (locs : List Loc) (ls : Array Slot), va_P D vwCl (pw y a x ++ mw y am z1) H → va_D A (pw y a x ++ mw y am z1) → va_S A s.heap H locs → lv_has ls 8 [(0, .ref b), (1, .ref (a 0)), (2, .ref (am 0)), (3, .ref (a 45)), (4, .int x4)] → W p l e room_1 s m #[Value.ref b] below meth c H locs (cells + 1) (slots + 6) Q (F0 m 1182 ls [])) :
    W p l e room_1 s m #[Value.ref b] below meth c H locs cells slots Q (F0 m 563 ls []) := by
  obtain ⟨⟨hx, hb, hml, hown, hts⟩, hr, hlk⟩ := id X
  have hroom2 := hroom
  refine lv_aload_n hx hb dL_law_563 rfl (lv_at hl 1 rfl) ?_
  refine lv_aload_n hx hb dL_law_564 rfl (lv_at hl 0 rfl) ?_
  refine lv_iload hx hb dL_law_565 (lv_at hl 4 rfl) ?_
  refine lv_iconst (v := 1) hx hb dL_law_567 (by decide) ?_
  refine lv_iadd hx hb dL_law_568 ?_
  refine va_sld hx hb hX hbl hbA hS hi1 dL_law_569 ?_
  refine lv_aload_n hx hb dL_law_570 rfl (lv_at hl 0 rfl) ?_
  refine lv_iload hx hb dL_law_571 (lv_at hl 4 rfl) ?_
  refine lv_iconst (v := 2) hx hb dL_law_573 (by decide) ?_
  refine lv_iadd hx hb dL_law_574 ?_
  refine va_sld hx hb hX hbl hbA hS hi2 dL_law_575 ?_
  refine lv_aload_n hx hb dL_law_576 rfl (lv_at hl 3 rfl) ?_
  refine lw_callT (As := [.ref (a 0), .int (xs (Int32.toNatClampNeg (x4 + 1))), .int (xs (Int32.toNatClampNeg (x4 + 2))), .ref (a 45)]) (rest := []) X hT (th_L_reach_2 l hlt D y a hf) (mp_csH (k := 4) hts mM_L_106 mT_L_reach mN_L mH_L_reach rfl rfl (by decide +kernel) ⟨(Nat.le_of_ble_eq_true rfl), (Nat.le_of_ble_eq_true rfl)⟩) hK hP hD hS hA rfl hl.1 rfl (Nat.le_of_ble_eq_true rfl) dL_law_577 hroom (fun H locs hP hD hS => ?_)
  refine lv_istore (lv' := [(5, .int 2), (0, .ref b), (1, .ref (a 0)), (2, .ref (am 0)), (3, .ref (a 45)), (4, .int x4)]) hx hb dL_law_580 hl (by decide) rfl (fun ls hl => ?_)
  refine lv_aload_n hx hb dL_law_582 rfl (lv_at hl 3 rfl) ?_
  refine lv_aload_n hx hb dL_law_583 rfl (lv_at hl 1 rfl) ?_
  refine lv_iload hx hb dL_law_584 (lv_at hl 5 rfl) ?_
  refine lv_iconst (v := 1) hx hb dL_law_586 (by decide) ?_
  refine lv_iadd hx hb dL_law_587 ?_
  refine va_sld hx hb hX hbl hbA hS hi1 dL_law_588 ?_
  refine lv_aload_n hx hb dL_law_589 rfl (lv_at hl 1 rfl) ?_
  refine lv_iload hx hb dL_law_590 (lv_at hl 5 rfl) ?_
  refine lv_iconst (v := 2) hx hb dL_law_592 (by decide) ?_
  refine lv_iadd hx hb dL_law_593 ?_
  refine va_sld hx hb hX hbl hbA hS hi2 dL_law_594 ?_
  refine lw_callM (As := [.int (xs (Int32.toNatClampNeg (x4 + 1))), .int (xs (Int32.toNatClampNeg (x4 + 2)))]) (rest := []) X (c_X6_reach l D y am hm) (mp_cw (k := 2) hts mM_L_108 mI_X6_reach mS_X6_reach mN_X6 mC_X6_reach rfl rfl (by decide +kernel) ⟨(Nat.le_of_ble_eq_true rfl), (Nat.le_of_ble_eq_true rfl)⟩) hK hP hD hS hA 0 mwC_0 rfl rfl hl.1 rfl (Nat.le_of_ble_eq_true rfl) dL_law_595 hroom2 (fun H locs hP hD hS => ?_)
  refine lv_lstore (lv' := [(6, .long r), (5, .int 2), (0, .ref b), (1, .ref (a 0)), (2, .ref (am 0)), (3, .ref (a 45)), (4, .int x4)]) hx hb dL_law_598 hl (by decide) rfl (fun ls hl => ?_)
  refine lv_aload_n hx hb dL_law_600 rfl (lv_at hl 4 rfl) ?_
  refine lw_callM (As := []) (rest := []) X (c_X6_thrown l D y am ht0) (mp_cw (k := 0) hts mM_L_79 mI_X6_thrown mS_X6_thrown mN_X6 mC_X6_thrown rfl rfl (by decide +kernel) ⟨(Nat.le_of_ble_eq_true rfl), (Nat.le_of_ble_eq_true rfl)⟩) hK hP hD hS hA 0 mwC_0 rfl rfl hl.1 rfl (Nat.le_of_ble_eq_true rfl) dL_law_601 hroom2 (fun H locs hP hD hS => ?_)
  refine lv_iload hx hb dL_law_604 (lv_at hl 1 rfl) ?_
  refine lv_icmp_eq (tgt := 611) hx hb dL_law_606 (by decide) (fun _ => ?_) (fun hc => absurd hth hc)
  refine lv_iload hx hb dL_law_611 (lv_at hl 1 rfl) ?_
  refine lv_if_ne (tgt := 627) hx hb dL_law_613 (by decide) (fun _ => ?_) (fun hc => absurd hc (by decide))
  refine lv_goto (tgt := 1182) hx hb dL_law_627 (by decide) ?_
  exact kk _ _ _ hP hD hS (lv_sub hl [2, 3, 4, 5, 6] rfl)
set_option maxHeartbeats 4000000 in
set_option maxRecDepth 100000 in
theorem lc_lacks {p : Program} {e : Env} {s : State} {m : MethodId} {below : List Frame} {meth : Method} {c : Code} {l : Launch} {b L : Nat} {xs : Nat → Int32} {D : va_G} {y : CY} {a am : Nat → Nat} {x z z1 : PD} {x1 : PD} {r : Int32} {th : Int32} {o0 : Int64} {x4 : Int32} {H : Heap} {locs : List Loc} {ls : Array Slot} {cells slots : Nat} {Q : State → Prop} {A : Nat → Prop} (X : mpX p s m #[Value.ref b] meth c code 8 ret RL) (hlt : l.stackTraces = false) (hT : thE A s s.heap) (hK : va_K D vwCl (mpT y) s) (hA : ∀ q, s.heap.size ≤ q → A q) (hX : va_X b L xs s s.heap) (hbl : b < s.heap.size) (hbA : ¬ A b) (hf : f_L_lacks x (xs (Int32.toNatClampNeg (x4 + 1))) (xs (Int32.toNatClampNeg (x4 + 2))) = some (0, x1)) (hm : f_X6_lacks z (xs (Int32.toNatClampNeg (x4 + 1))) (xs (Int32.toNatClampNeg (x4 + 2))) = some (r, z1)) (ht0 : f_X6_thrown z1 = some th) (hth : th = 0) (ho : rB x1 45 0 = o0) (heq : o0 = Int32.toInt64 r) (hi1 : vp_in (x4 + 1) L) (hi2 : vp_in (x4 + 2) L) (hroom : cells ≤ room_1.cells ∧ slots ≤ room_1.slots) (hP : va_P D vwCl (pw y a x ++ mw y am z) H) (hD : va_D A (pw y a x ++ mw y am z)) (hS : va_S A s.heap H locs) (hl : lv_has ls 8 [(0, .ref b), (1, .ref (a 0)), (2, .ref (am 0)), (3, .ref (a 45)), (4, .int x4)])
    (kk : ∀ (H : Heap) (locs : List Loc) (ls : Array Slot), va_P D vwCl (pw y a x1 ++ mw y am z1) H → va_D A (pw y a x1 ++ mw y am z1) → va_S A s.heap H locs → lv_has ls 8 [(0, .ref b), (1, .ref (a 0)), (2, .ref (am 0)), (3, .ref (a 45)), (4, .int x4)] → W p l e room_1 s m #[Value.ref b] below meth c H locs cells slots Q (F0 m 1182 ls [])) :
    W p l e room_1 s m #[Value.ref b] below meth c H locs cells slots Q (F0 m 630 ls []) := by
  obtain ⟨⟨hx, hb, hml, hown, hts⟩, hr, hlk⟩ := id X
  refine lv_aload_n hx hb dL_law_630 rfl (lv_at hl 1 rfl) ?_
  refine lv_aload_n hx hb dL_law_631 rfl (lv_at hl 0 rfl) ?_
  refine lv_iload hx hb dL_law_632 (lv_at hl 4 rfl) ?_
  refine lv_iconst (v := 1) hx hb dL_law_634 (by decide) ?_
  refine lv_iadd hx hb dL_law_635 ?_
  refine va_sld hx hb hX hbl hbA hS hi1 dL_law_636 ?_
  refine lv_aload_n hx hb dL_law_637 rfl (lv_at hl 0 rfl) ?_
  refine lv_iload hx hb dL_law_638 (lv_at hl 4 rfl) ?_
  refine lv_iconst (v := 2) hx hb dL_law_640 (by decide) ?_
  refine lv_iadd hx hb dL_law_641 ?_
  refine va_sld hx hb hX hbl hbA hS hi2 dL_law_642 ?_
  refine lv_aload_n hx hb dL_law_643 rfl (lv_at hl 3 rfl) ?_
  refine lw_callH (As := [.ref (a 0), .int (xs (Int32.toNatClampNeg (x4 + 1))), .int (xs (Int32.toNatClampNeg (x4 + 2))), .ref (a 45)]) (rest := []) X (c_L_lacks l D y a hf) (mp_csH (k := 4) hts mM_L_109 mT_L_lacks mN_L mH_L_lacks rfl rfl (by decide +kernel) ⟨(Nat.le_of_ble_eq_true rfl), (Nat.le_of_ble_eq_true rfl)⟩) hK hP hD hS hA rfl hl.1 rfl (Nat.le_of_ble_eq_true rfl) dL_law_644 hroom (fun H locs hP hD hS => ?_)
  refine lv_istore (lv' := [(5, .int 0), (0, .ref b), (1, .ref (a 0)), (2, .ref (am 0)), (3, .ref (a 45)), (4, .int x4)]) hx hb dL_law_647 hl (by decide) rfl (fun ls hl => ?_)
  refine lv_aload_n hx hb dL_law_649 rfl (lv_at hl 3 rfl) ?_
  refine lv_aload_n hx hb dL_law_650 rfl (lv_at hl 1 rfl) ?_
  refine lv_iload hx hb dL_law_651 (lv_at hl 5 rfl) ?_
  refine lv_iconst (v := 1) hx hb dL_law_653 (by decide) ?_
  refine lv_iadd hx hb dL_law_654 ?_
  refine va_sld hx hb hX hbl hbA hS hi1 dL_law_655 ?_
  refine lv_aload_n hx hb dL_law_656 rfl (lv_at hl 1 rfl) ?_
  refine lv_iload hx hb dL_law_657 (lv_at hl 5 rfl) ?_
  refine lv_iconst (v := 2) hx hb dL_law_659 (by decide) ?_
  refine lv_iadd hx hb dL_law_660 ?_
  refine va_sld hx hb hX hbl hbA hS hi2 dL_law_661 ?_
  refine lw_callM (As := [.int (xs (Int32.toNatClampNeg (x4 + 1))), .int (xs (Int32.toNatClampNeg (x4 + 2)))]) (rest := []) X (c_X6_lacks l D y am hm) (mp_cw (k := 2) hts mM_L_111 mI_X6_lacks mS_X6_lacks mN_X6 mC_X6_lacks rfl rfl (by decide +kernel) ⟨(Nat.le_of_ble_eq_true rfl), (Nat.le_of_ble_eq_true rfl)⟩) hK hP hD hS hA 0 mwC_0 rfl rfl hl.1 rfl (Nat.le_of_ble_eq_true rfl) dL_law_662 hroom (fun H locs hP hD hS => ?_)
  refine lv_istore (lv' := [(6, .int r), (5, .int 0), (0, .ref b), (1, .ref (a 0)), (2, .ref (am 0)), (3, .ref (a 45)), (4, .int x4)]) hx hb dL_law_665 hl (by decide) rfl (fun ls hl => ?_)
  refine lv_aload_n hx hb dL_law_667 rfl (lv_at hl 4 rfl) ?_
  refine lw_callM (As := []) (rest := []) X (c_X6_thrown l D y am ht0) (mp_cw (k := 0) hts mM_L_79 mI_X6_thrown mS_X6_thrown mN_X6 mC_X6_thrown rfl rfl (by decide +kernel) ⟨(Nat.le_of_ble_eq_true rfl), (Nat.le_of_ble_eq_true rfl)⟩) hK hP hD hS hA 0 mwC_0 rfl rfl hl.1 rfl (Nat.le_of_ble_eq_true rfl) dL_law_668 hroom (fun H locs hP hD hS => ?_)
  refine lv_iload hx hb dL_law_671 (lv_at hl 1 rfl) ?_
  refine lv_icmp_eq (tgt := 678) hx hb dL_law_673 (by decide) (fun _ => ?_) (fun hc => absurd hth hc)
  refine lv_iload hx hb dL_law_678 (lv_at hl 1 rfl) ?_
  refine lv_if_ne (tgt := 695) hx hb dL_law_680 (by decide) (fun hc => absurd rfl hc) (fun _ => ?_)
  refine lv_aload_n hx hb dL_law_683 rfl (lv_at hl 5 rfl) ?_
  refine lv_iconst (v := 0) hx hb dL_law_684 (by decide) ?_
  refine va_lald hx hb hK hP 45 1 rfl rfl (inR_vp (by decide)) dL_law_685 ?_
  refine W.eq (g2 := F0 m 686 ls (.long o0 :: [])) (congrArg (fun v => F0 m 686 ls (.long v :: [])) ho) ?_
  refine lv_iload hx hb dL_law_686 (lv_at hl 0 rfl) ?_
  refine lv_i2l (v := Int32.toInt64 r) hx hb dL_law_688 rfl ?_
  refine W.lcmp hx hb dL_law_689 ?_
  refine lv_if_eq (tgt := 695) hx hb dL_law_690 (by decide) (fun _ => ?_) (fun hc => absurd ((lg_cmp_eq _ _).mpr heq) hc)
  refine lv_goto (tgt := 1182) hx hb dL_law_695 (by decide) ?_
  exact kk _ _ _ hP hD hS (lv_sub hl [2, 3, 4, 5, 6] rfl)
set_option maxHeartbeats 4000000 in
set_option maxRecDepth 100000 in
theorem lc_lacks_t1 {p : Program} {e : Env} {s : State} {m : MethodId} {below : List Frame} {meth : Method} {c : Code} {l : Launch} {b L : Nat} {xs : Nat → Int32} {D : va_G} {y : CY} {a am : Nat → Nat} {x z z1 : PD} {r : Int32} {th : Int32} {x4 : Int32} {H : Heap} {locs : List Loc} {ls : Array Slot} {cells slots : Nat} {Q : State → Prop} {A : Nat → Prop} (X : mpX p s m #[Value.ref b] meth c code 8 ret RL) (hlt : l.stackTraces = false) (hT : thE A s s.heap) (hK : va_K D vwCl (mpT y) s) (hA : ∀ q, s.heap.size ≤ q → A q) (hX : va_X b L xs s s.heap) (hbl : b < s.heap.size) (hbA : ¬ A b) (hf : g_X5_lacks x (xs (Int32.toNatClampNeg (x4 + 1))) (xs (Int32.toNatClampNeg (x4 + 2))) = some 1) (hm : f_X6_lacks z (xs (Int32.toNatClampNeg (x4 + 1))) (xs (Int32.toNatClampNeg (x4 + 2))) = some (r, z1)) (ht0 : f_X6_thrown z1 = some th) (hth : th = 1) (hi1 : vp_in (x4 + 1) L) (hi2 : vp_in (x4 + 2) L) (hroom : cells + 1 ≤ room_1.cells ∧ slots + 6 ≤ room_1.slots) (hP : va_P D vwCl (pw y a x ++ mw y am z) H) (hD : va_D A (pw y a x ++ mw y am z)) (hS : va_S A s.heap H locs) (hl : lv_has ls 8 [(0, .ref b), (1, .ref (a 0)), (2, .ref (am 0)), (3, .ref (a 45)), (4, .int x4)])
    (kk : ∀ (H : Heap) (locs : List Loc) (ls : Array Slot), va_P D vwCl (pw y a x ++ mw y am z1) H → va_D A (pw y a x ++ mw y am z1) → va_S A s.heap H locs → lv_has ls 8 [(0, .ref b), (1, .ref (a 0)), (2, .ref (am 0)), (3, .ref (a 45)), (4, .int x4)] → W p l e room_1 s m #[Value.ref b] below meth c H locs (cells + 1) (slots + 6) Q (F0 m 1182 ls [])) :
    W p l e room_1 s m #[Value.ref b] below meth c H locs cells slots Q (F0 m 630 ls []) := by
  obtain ⟨⟨hx, hb, hml, hown, hts⟩, hr, hlk⟩ := id X
  have hroom2 := hroom
  refine lv_aload_n hx hb dL_law_630 rfl (lv_at hl 1 rfl) ?_
  refine lv_aload_n hx hb dL_law_631 rfl (lv_at hl 0 rfl) ?_
  refine lv_iload hx hb dL_law_632 (lv_at hl 4 rfl) ?_
  refine lv_iconst (v := 1) hx hb dL_law_634 (by decide) ?_
  refine lv_iadd hx hb dL_law_635 ?_
  refine va_sld hx hb hX hbl hbA hS hi1 dL_law_636 ?_
  refine lv_aload_n hx hb dL_law_637 rfl (lv_at hl 0 rfl) ?_
  refine lv_iload hx hb dL_law_638 (lv_at hl 4 rfl) ?_
  refine lv_iconst (v := 2) hx hb dL_law_640 (by decide) ?_
  refine lv_iadd hx hb dL_law_641 ?_
  refine va_sld hx hb hX hbl hbA hS hi2 dL_law_642 ?_
  refine lv_aload_n hx hb dL_law_643 rfl (lv_at hl 3 rfl) ?_
  refine lw_callT (As := [.ref (a 0), .int (xs (Int32.toNatClampNeg (x4 + 1))), .int (xs (Int32.toNatClampNeg (x4 + 2))), .ref (a 45)]) (rest := []) X hT (th_L_lacks_1 l hlt D y a hf) (mp_csH (k := 4) hts mM_L_109 mT_L_lacks mN_L mH_L_lacks rfl rfl (by decide +kernel) ⟨(Nat.le_of_ble_eq_true rfl), (Nat.le_of_ble_eq_true rfl)⟩) hK hP hD hS hA rfl hl.1 rfl (Nat.le_of_ble_eq_true rfl) dL_law_644 hroom (fun H locs hP hD hS => ?_)
  refine lv_istore (lv' := [(5, .int 1), (0, .ref b), (1, .ref (a 0)), (2, .ref (am 0)), (3, .ref (a 45)), (4, .int x4)]) hx hb dL_law_647 hl (by decide) rfl (fun ls hl => ?_)
  refine lv_aload_n hx hb dL_law_649 rfl (lv_at hl 3 rfl) ?_
  refine lv_aload_n hx hb dL_law_650 rfl (lv_at hl 1 rfl) ?_
  refine lv_iload hx hb dL_law_651 (lv_at hl 5 rfl) ?_
  refine lv_iconst (v := 1) hx hb dL_law_653 (by decide) ?_
  refine lv_iadd hx hb dL_law_654 ?_
  refine va_sld hx hb hX hbl hbA hS hi1 dL_law_655 ?_
  refine lv_aload_n hx hb dL_law_656 rfl (lv_at hl 1 rfl) ?_
  refine lv_iload hx hb dL_law_657 (lv_at hl 5 rfl) ?_
  refine lv_iconst (v := 2) hx hb dL_law_659 (by decide) ?_
  refine lv_iadd hx hb dL_law_660 ?_
  refine va_sld hx hb hX hbl hbA hS hi2 dL_law_661 ?_
  refine lw_callM (As := [.int (xs (Int32.toNatClampNeg (x4 + 1))), .int (xs (Int32.toNatClampNeg (x4 + 2)))]) (rest := []) X (c_X6_lacks l D y am hm) (mp_cw (k := 2) hts mM_L_111 mI_X6_lacks mS_X6_lacks mN_X6 mC_X6_lacks rfl rfl (by decide +kernel) ⟨(Nat.le_of_ble_eq_true rfl), (Nat.le_of_ble_eq_true rfl)⟩) hK hP hD hS hA 0 mwC_0 rfl rfl hl.1 rfl (Nat.le_of_ble_eq_true rfl) dL_law_662 hroom2 (fun H locs hP hD hS => ?_)
  refine lv_istore (lv' := [(6, .int r), (5, .int 1), (0, .ref b), (1, .ref (a 0)), (2, .ref (am 0)), (3, .ref (a 45)), (4, .int x4)]) hx hb dL_law_665 hl (by decide) rfl (fun ls hl => ?_)
  refine lv_aload_n hx hb dL_law_667 rfl (lv_at hl 4 rfl) ?_
  refine lw_callM (As := []) (rest := []) X (c_X6_thrown l D y am ht0) (mp_cw (k := 0) hts mM_L_79 mI_X6_thrown mS_X6_thrown mN_X6 mC_X6_thrown rfl rfl (by decide +kernel) ⟨(Nat.le_of_ble_eq_true rfl), (Nat.le_of_ble_eq_true rfl)⟩) hK hP hD hS hA 0 mwC_0 rfl rfl hl.1 rfl (Nat.le_of_ble_eq_true rfl) dL_law_668 hroom2 (fun H locs hP hD hS => ?_)
  refine lv_iload hx hb dL_law_671 (lv_at hl 1 rfl) ?_
  refine lv_icmp_eq (tgt := 678) hx hb dL_law_673 (by decide) (fun _ => ?_) (fun hc => absurd hth hc)
  refine lv_iload hx hb dL_law_678 (lv_at hl 1 rfl) ?_
  refine lv_if_ne (tgt := 695) hx hb dL_law_680 (by decide) (fun _ => ?_) (fun hc => absurd hc (by decide))
  refine lv_goto (tgt := 1182) hx hb dL_law_695 (by decide) ?_
  exact kk _ _ _ hP hD hS (lv_sub hl [2, 3, 4, 5, 6] rfl)
set_option maxHeartbeats 4000000 in
set_option maxRecDepth 100000 in
theorem lc_lacks_t2 {p : Program} {e : Env} {s : State} {m : MethodId} {below : List Frame} {meth : Method} {c : Code} {l : Launch} {b L : Nat} {xs : Nat → Int32} {D : va_G} {y : CY} {a am : Nat → Nat} {x z z1 : PD} {r : Int32} {th : Int32} {x4 : Int32} {H : Heap} {locs : List Loc} {ls : Array Slot} {cells slots : Nat} {Q : State → Prop} {A : Nat → Prop} (X : mpX p s m #[Value.ref b] meth c code 8 ret RL) (hlt : l.stackTraces = false) (hT : thE A s s.heap) (hK : va_K D vwCl (mpT y) s) (hA : ∀ q, s.heap.size ≤ q → A q) (hX : va_X b L xs s s.heap) (hbl : b < s.heap.size) (hbA : ¬ A b) (hf : g_X5_lacks x (xs (Int32.toNatClampNeg (x4 + 1))) (xs (Int32.toNatClampNeg (x4 + 2))) = some 2) (hm : f_X6_lacks z (xs (Int32.toNatClampNeg (x4 + 1))) (xs (Int32.toNatClampNeg (x4 + 2))) = some (r, z1)) (ht0 : f_X6_thrown z1 = some th) (hth : th = 2) (hi1 : vp_in (x4 + 1) L) (hi2 : vp_in (x4 + 2) L) (hroom : cells + 1 ≤ room_1.cells ∧ slots + 6 ≤ room_1.slots) (hP : va_P D vwCl (pw y a x ++ mw y am z) H) (hD : va_D A (pw y a x ++ mw y am z)) (hS : va_S A s.heap H locs) (hl : lv_has ls 8 [(0, .ref b), (1, .ref (a 0)), (2, .ref (am 0)), (3, .ref (a 45)), (4, .int x4)])
    (kk : ∀ (H : Heap) (locs : List Loc) (ls : Array Slot), va_P D vwCl (pw y a x ++ mw y am z1) H → va_D A (pw y a x ++ mw y am z1) → va_S A s.heap H locs → lv_has ls 8 [(0, .ref b), (1, .ref (a 0)), (2, .ref (am 0)), (3, .ref (a 45)), (4, .int x4)] → W p l e room_1 s m #[Value.ref b] below meth c H locs (cells + 1) (slots + 6) Q (F0 m 1182 ls [])) :
    W p l e room_1 s m #[Value.ref b] below meth c H locs cells slots Q (F0 m 630 ls []) := by
  obtain ⟨⟨hx, hb, hml, hown, hts⟩, hr, hlk⟩ := id X
  have hroom2 := hroom
  refine lv_aload_n hx hb dL_law_630 rfl (lv_at hl 1 rfl) ?_
  refine lv_aload_n hx hb dL_law_631 rfl (lv_at hl 0 rfl) ?_
  refine lv_iload hx hb dL_law_632 (lv_at hl 4 rfl) ?_
  refine lv_iconst (v := 1) hx hb dL_law_634 (by decide) ?_
  refine lv_iadd hx hb dL_law_635 ?_
  refine va_sld hx hb hX hbl hbA hS hi1 dL_law_636 ?_
  refine lv_aload_n hx hb dL_law_637 rfl (lv_at hl 0 rfl) ?_
  refine lv_iload hx hb dL_law_638 (lv_at hl 4 rfl) ?_
  refine lv_iconst (v := 2) hx hb dL_law_640 (by decide) ?_
  refine lv_iadd hx hb dL_law_641 ?_
  refine va_sld hx hb hX hbl hbA hS hi2 dL_law_642 ?_
  refine lv_aload_n hx hb dL_law_643 rfl (lv_at hl 3 rfl) ?_
  refine lw_callT (As := [.ref (a 0), .int (xs (Int32.toNatClampNeg (x4 + 1))), .int (xs (Int32.toNatClampNeg (x4 + 2))), .ref (a 45)]) (rest := []) X hT (th_L_lacks_2 l hlt D y a hf) (mp_csH (k := 4) hts mM_L_109 mT_L_lacks mN_L mH_L_lacks rfl rfl (by decide +kernel) ⟨(Nat.le_of_ble_eq_true rfl), (Nat.le_of_ble_eq_true rfl)⟩) hK hP hD hS hA rfl hl.1 rfl (Nat.le_of_ble_eq_true rfl) dL_law_644 hroom (fun H locs hP hD hS => ?_)
  refine lv_istore (lv' := [(5, .int 2), (0, .ref b), (1, .ref (a 0)), (2, .ref (am 0)), (3, .ref (a 45)), (4, .int x4)]) hx hb dL_law_647 hl (by decide) rfl (fun ls hl => ?_)
  refine lv_aload_n hx hb dL_law_649 rfl (lv_at hl 3 rfl) ?_
  refine lv_aload_n hx hb dL_law_650 rfl (lv_at hl 1 rfl) ?_
  refine lv_iload hx hb dL_law_651 (lv_at hl 5 rfl) ?_
  refine lv_iconst (v := 1) hx hb dL_law_653 (by decide) ?_
  refine lv_iadd hx hb dL_law_654 ?_
  refine va_sld hx hb hX hbl hbA hS hi1 dL_law_655 ?_
  refine lv_aload_n hx hb dL_law_656 rfl (lv_at hl 1 rfl) ?_
  refine lv_iload hx hb dL_law_657 (lv_at hl 5 rfl) ?_
  refine lv_iconst (v := 2) hx hb dL_law_659 (by decide) ?_
  refine lv_iadd hx hb dL_law_660 ?_
  refine va_sld hx hb hX hbl hbA hS hi2 dL_law_661 ?_
  refine lw_callM (As := [.int (xs (Int32.toNatClampNeg (x4 + 1))), .int (xs (Int32.toNatClampNeg (x4 + 2)))]) (rest := []) X (c_X6_lacks l D y am hm) (mp_cw (k := 2) hts mM_L_111 mI_X6_lacks mS_X6_lacks mN_X6 mC_X6_lacks rfl rfl (by decide +kernel) ⟨(Nat.le_of_ble_eq_true rfl), (Nat.le_of_ble_eq_true rfl)⟩) hK hP hD hS hA 0 mwC_0 rfl rfl hl.1 rfl (Nat.le_of_ble_eq_true rfl) dL_law_662 hroom2 (fun H locs hP hD hS => ?_)
  refine lv_istore (lv' := [(6, .int r), (5, .int 2), (0, .ref b), (1, .ref (a 0)), (2, .ref (am 0)), (3, .ref (a 45)), (4, .int x4)]) hx hb dL_law_665 hl (by decide) rfl (fun ls hl => ?_)
  refine lv_aload_n hx hb dL_law_667 rfl (lv_at hl 4 rfl) ?_
  refine lw_callM (As := []) (rest := []) X (c_X6_thrown l D y am ht0) (mp_cw (k := 0) hts mM_L_79 mI_X6_thrown mS_X6_thrown mN_X6 mC_X6_thrown rfl rfl (by decide +kernel) ⟨(Nat.le_of_ble_eq_true rfl), (Nat.le_of_ble_eq_true rfl)⟩) hK hP hD hS hA 0 mwC_0 rfl rfl hl.1 rfl (Nat.le_of_ble_eq_true rfl) dL_law_668 hroom2 (fun H locs hP hD hS => ?_)
  refine lv_iload hx hb dL_law_671 (lv_at hl 1 rfl) ?_
  refine lv_icmp_eq (tgt := 678) hx hb dL_law_673 (by decide) (fun _ => ?_) (fun hc => absurd hth hc)
  refine lv_iload hx hb dL_law_678 (lv_at hl 1 rfl) ?_
  refine lv_if_ne (tgt := 695) hx hb dL_law_680 (by decide) (fun _ => ?_) (fun hc => absurd hc (by decide))
  refine lv_goto (tgt := 1182) hx hb dL_law_695 (by decide) ?_
  exact kk _ _ _ hP hD hS (lv_sub hl [2, 3, 4, 5, 6] rfl)
set_option maxHeartbeats 4000000 in
set_option maxRecDepth 100000 in
theorem lc_layer {p : Program} {e : Env} {s : State} {m : MethodId} {below : List Frame} {meth : Method} {c : Code} {l : Launch} {b L : Nat} {xs : Nat → Int32} {D : va_G} {y : CY} {a am : Nat → Nat} {x z z1 : PD} {x1 : PD} {r : Int32} {th : Int32} {o0 : Int64} {x4 : Int32} {H : Heap} {locs : List Loc} {ls : Array Slot} {cells slots : Nat} {Q : State → Prop} {A : Nat → Prop} (X : mpX p s m #[Value.ref b] meth c code 8 ret RL) (hlt : l.stackTraces = false) (hT : thE A s s.heap) (hK : va_K D vwCl (mpT y) s) (hA : ∀ q, s.heap.size ≤ q → A q) (hX : va_X b L xs s s.heap) (hbl : b < s.heap.size) (hbA : ¬ A b) (hf : f_L_layer x (xs (Int32.toNatClampNeg (x4 + 1))) (xs (Int32.toNatClampNeg (x4 + 2))) = some (0, x1)) (hm : f_X6_layer z (xs (Int32.toNatClampNeg (x4 + 1))) (xs (Int32.toNatClampNeg (x4 + 2))) = some (r, z1)) (ht0 : f_X6_thrown z1 = some th) (hth : th = 0) (ho : rB x1 45 0 = o0) (heq : o0 = Int32.toInt64 r) (hi1 : vp_in (x4 + 1) L) (hi2 : vp_in (x4 + 2) L) (hroom : cells ≤ room_1.cells ∧ slots ≤ room_1.slots) (hP : va_P D vwCl (pw y a x ++ mw y am z) H) (hD : va_D A (pw y a x ++ mw y am z)) (hS : va_S A s.heap H locs) (hl : lv_has ls 8 [(0, .ref b), (1, .ref (a 0)), (2, .ref (am 0)), (3, .ref (a 45)), (4, .int x4)])
    (kk : ∀ (H : Heap) (locs : List Loc) (ls : Array Slot), va_P D vwCl (pw y a x1 ++ mw y am z1) H → va_D A (pw y a x1 ++ mw y am z1) → va_S A s.heap H locs → lv_has ls 8 [(0, .ref b), (1, .ref (a 0)), (2, .ref (am 0)), (3, .ref (a 45)), (4, .int x4)] → W p l e room_1 s m #[Value.ref b] below meth c H locs cells slots Q (F0 m 1182 ls [])) :
    W p l e room_1 s m #[Value.ref b] below meth c H locs cells slots Q (F0 m 698 ls []) := by
  obtain ⟨⟨hx, hb, hml, hown, hts⟩, hr, hlk⟩ := id X
  refine lv_aload_n hx hb dL_law_698 rfl (lv_at hl 1 rfl) ?_
  refine lv_aload_n hx hb dL_law_699 rfl (lv_at hl 0 rfl) ?_
  refine lv_iload hx hb dL_law_700 (lv_at hl 4 rfl) ?_
  refine lv_iconst (v := 1) hx hb dL_law_702 (by decide) ?_
  refine lv_iadd hx hb dL_law_703 ?_
  refine va_sld hx hb hX hbl hbA hS hi1 dL_law_704 ?_
  refine lv_aload_n hx hb dL_law_705 rfl (lv_at hl 0 rfl) ?_
  refine lv_iload hx hb dL_law_706 (lv_at hl 4 rfl) ?_
  refine lv_iconst (v := 2) hx hb dL_law_708 (by decide) ?_
  refine lv_iadd hx hb dL_law_709 ?_
  refine va_sld hx hb hX hbl hbA hS hi2 dL_law_710 ?_
  refine lv_aload_n hx hb dL_law_711 rfl (lv_at hl 3 rfl) ?_
  refine lw_callH (As := [.ref (a 0), .int (xs (Int32.toNatClampNeg (x4 + 1))), .int (xs (Int32.toNatClampNeg (x4 + 2))), .ref (a 45)]) (rest := []) X (c_L_layer l D y a hf) (mp_csH (k := 4) hts mM_L_112 mT_L_layer mN_L mH_L_layer rfl rfl (by decide +kernel) ⟨(Nat.le_of_ble_eq_true rfl), (Nat.le_of_ble_eq_true rfl)⟩) hK hP hD hS hA rfl hl.1 rfl (Nat.le_of_ble_eq_true rfl) dL_law_712 hroom (fun H locs hP hD hS => ?_)
  refine lv_istore (lv' := [(5, .int 0), (0, .ref b), (1, .ref (a 0)), (2, .ref (am 0)), (3, .ref (a 45)), (4, .int x4)]) hx hb dL_law_715 hl (by decide) rfl (fun ls hl => ?_)
  refine lv_aload_n hx hb dL_law_717 rfl (lv_at hl 3 rfl) ?_
  refine lv_aload_n hx hb dL_law_718 rfl (lv_at hl 1 rfl) ?_
  refine lv_iload hx hb dL_law_719 (lv_at hl 5 rfl) ?_
  refine lv_iconst (v := 1) hx hb dL_law_721 (by decide) ?_
  refine lv_iadd hx hb dL_law_722 ?_
  refine va_sld hx hb hX hbl hbA hS hi1 dL_law_723 ?_
  refine lv_aload_n hx hb dL_law_724 rfl (lv_at hl 1 rfl) ?_
  refine lv_iload hx hb dL_law_725 (lv_at hl 5 rfl) ?_
  refine lv_iconst (v := 2) hx hb dL_law_727 (by decide) ?_
  refine lv_iadd hx hb dL_law_728 ?_
  refine va_sld hx hb hX hbl hbA hS hi2 dL_law_729 ?_
  refine lw_callM (As := [.int (xs (Int32.toNatClampNeg (x4 + 1))), .int (xs (Int32.toNatClampNeg (x4 + 2)))]) (rest := []) X (c_X6_layer l D y am hm) (mp_cw (k := 2) hts mM_L_114 mI_X6_layer mS_X6_layer mN_X6 mC_X6_layer rfl rfl (by decide +kernel) ⟨(Nat.le_of_ble_eq_true rfl), (Nat.le_of_ble_eq_true rfl)⟩) hK hP hD hS hA 0 mwC_0 rfl rfl hl.1 rfl (Nat.le_of_ble_eq_true rfl) dL_law_730 hroom (fun H locs hP hD hS => ?_)
  refine lv_istore (lv' := [(6, .int r), (5, .int 0), (0, .ref b), (1, .ref (a 0)), (2, .ref (am 0)), (3, .ref (a 45)), (4, .int x4)]) hx hb dL_law_733 hl (by decide) rfl (fun ls hl => ?_)
  refine lv_aload_n hx hb dL_law_735 rfl (lv_at hl 4 rfl) ?_
  refine lw_callM (As := []) (rest := []) X (c_X6_thrown l D y am ht0) (mp_cw (k := 0) hts mM_L_79 mI_X6_thrown mS_X6_thrown mN_X6 mC_X6_thrown rfl rfl (by decide +kernel) ⟨(Nat.le_of_ble_eq_true rfl), (Nat.le_of_ble_eq_true rfl)⟩) hK hP hD hS hA 0 mwC_0 rfl rfl hl.1 rfl (Nat.le_of_ble_eq_true rfl) dL_law_736 hroom (fun H locs hP hD hS => ?_)
  refine lv_iload hx hb dL_law_739 (lv_at hl 1 rfl) ?_
  refine lv_icmp_eq (tgt := 746) hx hb dL_law_741 (by decide) (fun _ => ?_) (fun hc => absurd hth hc)
  refine lv_iload hx hb dL_law_746 (lv_at hl 1 rfl) ?_
  refine lv_if_ne (tgt := 763) hx hb dL_law_748 (by decide) (fun hc => absurd rfl hc) (fun _ => ?_)
  refine lv_aload_n hx hb dL_law_751 rfl (lv_at hl 5 rfl) ?_
  refine lv_iconst (v := 0) hx hb dL_law_752 (by decide) ?_
  refine va_lald hx hb hK hP 45 1 rfl rfl (inR_vp (by decide)) dL_law_753 ?_
  refine W.eq (g2 := F0 m 754 ls (.long o0 :: [])) (congrArg (fun v => F0 m 754 ls (.long v :: [])) ho) ?_
  refine lv_iload hx hb dL_law_754 (lv_at hl 0 rfl) ?_
  refine lv_i2l (v := Int32.toInt64 r) hx hb dL_law_756 rfl ?_
  refine W.lcmp hx hb dL_law_757 ?_
  refine lv_if_eq (tgt := 763) hx hb dL_law_758 (by decide) (fun _ => ?_) (fun hc => absurd ((lg_cmp_eq _ _).mpr heq) hc)
  refine lv_goto (tgt := 1182) hx hb dL_law_763 (by decide) ?_
  exact kk _ _ _ hP hD hS (lv_sub hl [2, 3, 4, 5, 6] rfl)
set_option maxHeartbeats 4000000 in
set_option maxRecDepth 100000 in
theorem lc_layer_t1 {p : Program} {e : Env} {s : State} {m : MethodId} {below : List Frame} {meth : Method} {c : Code} {l : Launch} {b L : Nat} {xs : Nat → Int32} {D : va_G} {y : CY} {a am : Nat → Nat} {x z z1 : PD} {r : Int32} {th : Int32} {x4 : Int32} {H : Heap} {locs : List Loc} {ls : Array Slot} {cells slots : Nat} {Q : State → Prop} {A : Nat → Prop} (X : mpX p s m #[Value.ref b] meth c code 8 ret RL) (hlt : l.stackTraces = false) (hT : thE A s s.heap) (hK : va_K D vwCl (mpT y) s) (hA : ∀ q, s.heap.size ≤ q → A q) (hX : va_X b L xs s s.heap) (hbl : b < s.heap.size) (hbA : ¬ A b) (hf : g_X5_layer x (xs (Int32.toNatClampNeg (x4 + 1))) (xs (Int32.toNatClampNeg (x4 + 2))) = some 1) (hm : f_X6_layer z (xs (Int32.toNatClampNeg (x4 + 1))) (xs (Int32.toNatClampNeg (x4 + 2))) = some (r, z1)) (ht0 : f_X6_thrown z1 = some th) (hth : th = 1) (hi1 : vp_in (x4 + 1) L) (hi2 : vp_in (x4 + 2) L) (hroom : cells + 1 ≤ room_1.cells ∧ slots + 6 ≤ room_1.slots) (hP : va_P D vwCl (pw y a x ++ mw y am z) H) (hD : va_D A (pw y a x ++ mw y am z)) (hS : va_S A s.heap H locs) (hl : lv_has ls 8 [(0, .ref b), (1, .ref (a 0)), (2, .ref (am 0)), (3, .ref (a 45)), (4, .int x4)])
    (kk : ∀ (H : Heap) (locs : List Loc) (ls : Array Slot), va_P D vwCl (pw y a x ++ mw y am z1) H → va_D A (pw y a x ++ mw y am z1) → va_S A s.heap H locs → lv_has ls 8 [(0, .ref b), (1, .ref (a 0)), (2, .ref (am 0)), (3, .ref (a 45)), (4, .int x4)] → W p l e room_1 s m #[Value.ref b] below meth c H locs (cells + 1) (slots + 6) Q (F0 m 1182 ls [])) :
    W p l e room_1 s m #[Value.ref b] below meth c H locs cells slots Q (F0 m 698 ls []) := by
  obtain ⟨⟨hx, hb, hml, hown, hts⟩, hr, hlk⟩ := id X
  have hroom2 := hroom
  refine lv_aload_n hx hb dL_law_698 rfl (lv_at hl 1 rfl) ?_
  refine lv_aload_n hx hb dL_law_699 rfl (lv_at hl 0 rfl) ?_
  refine lv_iload hx hb dL_law_700 (lv_at hl 4 rfl) ?_
  refine lv_iconst (v := 1) hx hb dL_law_702 (by decide) ?_
  refine lv_iadd hx hb dL_law_703 ?_
  refine va_sld hx hb hX hbl hbA hS hi1 dL_law_704 ?_
  refine lv_aload_n hx hb dL_law_705 rfl (lv_at hl 0 rfl) ?_
  refine lv_iload hx hb dL_law_706 (lv_at hl 4 rfl) ?_
  refine lv_iconst (v := 2) hx hb dL_law_708 (by decide) ?_
  refine lv_iadd hx hb dL_law_709 ?_
  refine va_sld hx hb hX hbl hbA hS hi2 dL_law_710 ?_
  refine lv_aload_n hx hb dL_law_711 rfl (lv_at hl 3 rfl) ?_
  refine lw_callT (As := [.ref (a 0), .int (xs (Int32.toNatClampNeg (x4 + 1))), .int (xs (Int32.toNatClampNeg (x4 + 2))), .ref (a 45)]) (rest := []) X hT (th_L_layer_1 l hlt D y a hf) (mp_csH (k := 4) hts mM_L_112 mT_L_layer mN_L mH_L_layer rfl rfl (by decide +kernel) ⟨(Nat.le_of_ble_eq_true rfl), (Nat.le_of_ble_eq_true rfl)⟩) hK hP hD hS hA rfl hl.1 rfl (Nat.le_of_ble_eq_true rfl) dL_law_712 hroom (fun H locs hP hD hS => ?_)
  refine lv_istore (lv' := [(5, .int 1), (0, .ref b), (1, .ref (a 0)), (2, .ref (am 0)), (3, .ref (a 45)), (4, .int x4)]) hx hb dL_law_715 hl (by decide) rfl (fun ls hl => ?_)
  refine lv_aload_n hx hb dL_law_717 rfl (lv_at hl 3 rfl) ?_
  refine lv_aload_n hx hb dL_law_718 rfl (lv_at hl 1 rfl) ?_
  refine lv_iload hx hb dL_law_719 (lv_at hl 5 rfl) ?_
  refine lv_iconst (v := 1) hx hb dL_law_721 (by decide) ?_
  refine lv_iadd hx hb dL_law_722 ?_
  refine va_sld hx hb hX hbl hbA hS hi1 dL_law_723 ?_
  refine lv_aload_n hx hb dL_law_724 rfl (lv_at hl 1 rfl) ?_
  refine lv_iload hx hb dL_law_725 (lv_at hl 5 rfl) ?_
  refine lv_iconst (v := 2) hx hb dL_law_727 (by decide) ?_
  refine lv_iadd hx hb dL_law_728 ?_
  refine va_sld hx hb hX hbl hbA hS hi2 dL_law_729 ?_
  refine lw_callM (As := [.int (xs (Int32.toNatClampNeg (x4 + 1))), .int (xs (Int32.toNatClampNeg (x4 + 2)))]) (rest := []) X (c_X6_layer l D y am hm) (mp_cw (k := 2) hts mM_L_114 mI_X6_layer mS_X6_layer mN_X6 mC_X6_layer rfl rfl (by decide +kernel) ⟨(Nat.le_of_ble_eq_true rfl), (Nat.le_of_ble_eq_true rfl)⟩) hK hP hD hS hA 0 mwC_0 rfl rfl hl.1 rfl (Nat.le_of_ble_eq_true rfl) dL_law_730 hroom2 (fun H locs hP hD hS => ?_)
  refine lv_istore (lv' := [(6, .int r), (5, .int 1), (0, .ref b), (1, .ref (a 0)), (2, .ref (am 0)), (3, .ref (a 45)), (4, .int x4)]) hx hb dL_law_733 hl (by decide) rfl (fun ls hl => ?_)
  refine lv_aload_n hx hb dL_law_735 rfl (lv_at hl 4 rfl) ?_
  refine lw_callM (As := []) (rest := []) X (c_X6_thrown l D y am ht0) (mp_cw (k := 0) hts mM_L_79 mI_X6_thrown mS_X6_thrown mN_X6 mC_X6_thrown rfl rfl (by decide +kernel) ⟨(Nat.le_of_ble_eq_true rfl), (Nat.le_of_ble_eq_true rfl)⟩) hK hP hD hS hA 0 mwC_0 rfl rfl hl.1 rfl (Nat.le_of_ble_eq_true rfl) dL_law_736 hroom2 (fun H locs hP hD hS => ?_)
  refine lv_iload hx hb dL_law_739 (lv_at hl 1 rfl) ?_
  refine lv_icmp_eq (tgt := 746) hx hb dL_law_741 (by decide) (fun _ => ?_) (fun hc => absurd hth hc)
  refine lv_iload hx hb dL_law_746 (lv_at hl 1 rfl) ?_
  refine lv_if_ne (tgt := 763) hx hb dL_law_748 (by decide) (fun _ => ?_) (fun hc => absurd hc (by decide))
  refine lv_goto (tgt := 1182) hx hb dL_law_763 (by decide) ?_
  exact kk _ _ _ hP hD hS (lv_sub hl [2, 3, 4, 5, 6] rfl)
set_option maxHeartbeats 4000000 in
set_option maxRecDepth 100000 in
theorem lc_sting {p : Program} {e : Env} {s : State} {m : MethodId} {below : List Frame} {meth : Method} {c : Code} {l : Launch} {b L : Nat} {xs : Nat → Int32} {D : va_G} {y : CY} {a am : Nat → Nat} {x z z1 : PD} {x1 : PD} {r : Int32} {th : Int32} {o0 : Int64} {x4 : Int32} {H : Heap} {locs : List Loc} {ls : Array Slot} {cells slots : Nat} {Q : State → Prop} {A : Nat → Prop} (X : mpX p s m #[Value.ref b] meth c code 8 ret RL) (hlt : l.stackTraces = false) (hT : thE A s s.heap) (hK : va_K D vwCl (mpT y) s) (hA : ∀ q, s.heap.size ≤ q → A q) (hX : va_X b L xs s s.heap) (hbl : b < s.heap.size) (hbA : ¬ A b) (hf : f_L_sting x (xs (Int32.toNatClampNeg (x4 + 1))) = some (0, x1)) (hm : f_X6_sting z (xs (Int32.toNatClampNeg (x4 + 1))) = some (r, z1)) (ht0 : f_X6_thrown z1 = some th) (hth : th = 0) (ho : rB x1 45 0 = o0) (heq : o0 = Int32.toInt64 r) (hi1 : vp_in (x4 + 1) L) (hroom : cells ≤ room_1.cells ∧ slots ≤ room_1.slots) (hP : va_P D vwCl (pw y a x ++ mw y am z) H) (hD : va_D A (pw y a x ++ mw y am z)) (hS : va_S A s.heap H locs) (hl : lv_has ls 8 [(0, .ref b), (1, .ref (a 0)), (2, .ref (am 0)), (3, .ref (a 45)), (4, .int x4)])
    (kk : ∀ (H : Heap) (locs : List Loc) (ls : Array Slot), va_P D vwCl (pw y a x1 ++ mw y am z1) H → va_D A (pw y a x1 ++ mw y am z1) → va_S A s.heap H locs → lv_has ls 8 [(0, .ref b), (1, .ref (a 0)), (2, .ref (am 0)), (3, .ref (a 45)), (4, .int x4)] → W p l e room_1 s m #[Value.ref b] below meth c H locs cells slots Q (F0 m 1182 ls [])) :
    W p l e room_1 s m #[Value.ref b] below meth c H locs cells slots Q (F0 m 766 ls []) := by
  obtain ⟨⟨hx, hb, hml, hown, hts⟩, hr, hlk⟩ := id X
  refine lv_aload_n hx hb dL_law_766 rfl (lv_at hl 1 rfl) ?_
  refine lv_aload_n hx hb dL_law_767 rfl (lv_at hl 0 rfl) ?_
  refine lv_iload hx hb dL_law_768 (lv_at hl 4 rfl) ?_
  refine lv_iconst (v := 1) hx hb dL_law_770 (by decide) ?_
  refine lv_iadd hx hb dL_law_771 ?_
  refine va_sld hx hb hX hbl hbA hS hi1 dL_law_772 ?_
  refine lv_aload_n hx hb dL_law_773 rfl (lv_at hl 3 rfl) ?_
  refine lw_callH (As := [.ref (a 0), .int (xs (Int32.toNatClampNeg (x4 + 1))), .ref (a 45)]) (rest := []) X (c_L_sting l D y a hf) (mp_csH (k := 3) hts mM_L_115 mT_L_sting mN_L mH_L_sting rfl rfl (by decide +kernel) ⟨(Nat.le_of_ble_eq_true rfl), (Nat.le_of_ble_eq_true rfl)⟩) hK hP hD hS hA rfl hl.1 rfl (Nat.le_of_ble_eq_true rfl) dL_law_774 hroom (fun H locs hP hD hS => ?_)
  refine lv_istore (lv' := [(5, .int 0), (0, .ref b), (1, .ref (a 0)), (2, .ref (am 0)), (3, .ref (a 45)), (4, .int x4)]) hx hb dL_law_777 hl (by decide) rfl (fun ls hl => ?_)
  refine lv_aload_n hx hb dL_law_779 rfl (lv_at hl 3 rfl) ?_
  refine lv_aload_n hx hb dL_law_780 rfl (lv_at hl 1 rfl) ?_
  refine lv_iload hx hb dL_law_781 (lv_at hl 5 rfl) ?_
  refine lv_iconst (v := 1) hx hb dL_law_783 (by decide) ?_
  refine lv_iadd hx hb dL_law_784 ?_
  refine va_sld hx hb hX hbl hbA hS hi1 dL_law_785 ?_
  refine lw_callM (As := [.int (xs (Int32.toNatClampNeg (x4 + 1)))]) (rest := []) X (c_X6_sting l D y am hm) (mp_cw (k := 1) hts mM_L_117 mI_X6_sting mS_X6_sting mN_X6 mC_X6_sting rfl rfl (by decide +kernel) ⟨(Nat.le_of_ble_eq_true rfl), (Nat.le_of_ble_eq_true rfl)⟩) hK hP hD hS hA 0 mwC_0 rfl rfl hl.1 rfl (Nat.le_of_ble_eq_true rfl) dL_law_786 hroom (fun H locs hP hD hS => ?_)
  refine lv_istore (lv' := [(6, .int r), (5, .int 0), (0, .ref b), (1, .ref (a 0)), (2, .ref (am 0)), (3, .ref (a 45)), (4, .int x4)]) hx hb dL_law_789 hl (by decide) rfl (fun ls hl => ?_)
  refine lv_aload_n hx hb dL_law_791 rfl (lv_at hl 4 rfl) ?_
  refine lw_callM (As := []) (rest := []) X (c_X6_thrown l D y am ht0) (mp_cw (k := 0) hts mM_L_79 mI_X6_thrown mS_X6_thrown mN_X6 mC_X6_thrown rfl rfl (by decide +kernel) ⟨(Nat.le_of_ble_eq_true rfl), (Nat.le_of_ble_eq_true rfl)⟩) hK hP hD hS hA 0 mwC_0 rfl rfl hl.1 rfl (Nat.le_of_ble_eq_true rfl) dL_law_792 hroom (fun H locs hP hD hS => ?_)
  refine lv_iload hx hb dL_law_795 (lv_at hl 1 rfl) ?_
  refine lv_icmp_eq (tgt := 802) hx hb dL_law_797 (by decide) (fun _ => ?_) (fun hc => absurd hth hc)
  refine lv_iload hx hb dL_law_802 (lv_at hl 1 rfl) ?_
  refine lv_if_ne (tgt := 819) hx hb dL_law_804 (by decide) (fun hc => absurd rfl hc) (fun _ => ?_)
  refine lv_aload_n hx hb dL_law_807 rfl (lv_at hl 5 rfl) ?_
  refine lv_iconst (v := 0) hx hb dL_law_808 (by decide) ?_
  refine va_lald hx hb hK hP 45 1 rfl rfl (inR_vp (by decide)) dL_law_809 ?_
  refine W.eq (g2 := F0 m 810 ls (.long o0 :: [])) (congrArg (fun v => F0 m 810 ls (.long v :: [])) ho) ?_
  refine lv_iload hx hb dL_law_810 (lv_at hl 0 rfl) ?_
  refine lv_i2l (v := Int32.toInt64 r) hx hb dL_law_812 rfl ?_
  refine W.lcmp hx hb dL_law_813 ?_
  refine lv_if_eq (tgt := 819) hx hb dL_law_814 (by decide) (fun _ => ?_) (fun hc => absurd ((lg_cmp_eq _ _).mpr heq) hc)
  refine lv_goto (tgt := 1182) hx hb dL_law_819 (by decide) ?_
  exact kk _ _ _ hP hD hS (lv_sub hl [2, 3, 4, 5, 6] rfl)
set_option maxHeartbeats 4000000 in
set_option maxRecDepth 100000 in
theorem lc_sting_t1 {p : Program} {e : Env} {s : State} {m : MethodId} {below : List Frame} {meth : Method} {c : Code} {l : Launch} {b L : Nat} {xs : Nat → Int32} {D : va_G} {y : CY} {a am : Nat → Nat} {x z z1 : PD} {r : Int32} {th : Int32} {x4 : Int32} {H : Heap} {locs : List Loc} {ls : Array Slot} {cells slots : Nat} {Q : State → Prop} {A : Nat → Prop} (X : mpX p s m #[Value.ref b] meth c code 8 ret RL) (hlt : l.stackTraces = false) (hT : thE A s s.heap) (hK : va_K D vwCl (mpT y) s) (hA : ∀ q, s.heap.size ≤ q → A q) (hX : va_X b L xs s s.heap) (hbl : b < s.heap.size) (hbA : ¬ A b) (hf : g_X5_sting x (xs (Int32.toNatClampNeg (x4 + 1))) = some 1) (hm : f_X6_sting z (xs (Int32.toNatClampNeg (x4 + 1))) = some (r, z1)) (ht0 : f_X6_thrown z1 = some th) (hth : th = 1) (hi1 : vp_in (x4 + 1) L) (hroom : cells + 1 ≤ room_1.cells ∧ slots + 6 ≤ room_1.slots) (hP : va_P D vwCl (pw y a x ++ mw y am z) H) (hD : va_D A (pw y a x ++ mw y am z)) (hS : va_S A s.heap H locs) (hl : lv_has ls 8 [(0, .ref b), (1, .ref (a 0)), (2, .ref (am 0)), (3, .ref (a 45)), (4, .int x4)])
    (kk : ∀ (H : Heap) (locs : List Loc) (ls : Array Slot), va_P D vwCl (pw y a x ++ mw y am z1) H → va_D A (pw y a x ++ mw y am z1) → va_S A s.heap H locs → lv_has ls 8 [(0, .ref b), (1, .ref (a 0)), (2, .ref (am 0)), (3, .ref (a 45)), (4, .int x4)] → W p l e room_1 s m #[Value.ref b] below meth c H locs (cells + 1) (slots + 6) Q (F0 m 1182 ls [])) :
    W p l e room_1 s m #[Value.ref b] below meth c H locs cells slots Q (F0 m 766 ls []) := by
  obtain ⟨⟨hx, hb, hml, hown, hts⟩, hr, hlk⟩ := id X
  have hroom2 := hroom
  refine lv_aload_n hx hb dL_law_766 rfl (lv_at hl 1 rfl) ?_
  refine lv_aload_n hx hb dL_law_767 rfl (lv_at hl 0 rfl) ?_
  refine lv_iload hx hb dL_law_768 (lv_at hl 4 rfl) ?_
  refine lv_iconst (v := 1) hx hb dL_law_770 (by decide) ?_
  refine lv_iadd hx hb dL_law_771 ?_
  refine va_sld hx hb hX hbl hbA hS hi1 dL_law_772 ?_
  refine lv_aload_n hx hb dL_law_773 rfl (lv_at hl 3 rfl) ?_
  refine lw_callT (As := [.ref (a 0), .int (xs (Int32.toNatClampNeg (x4 + 1))), .ref (a 45)]) (rest := []) X hT (th_L_sting_1 l hlt D y a hf) (mp_csH (k := 3) hts mM_L_115 mT_L_sting mN_L mH_L_sting rfl rfl (by decide +kernel) ⟨(Nat.le_of_ble_eq_true rfl), (Nat.le_of_ble_eq_true rfl)⟩) hK hP hD hS hA rfl hl.1 rfl (Nat.le_of_ble_eq_true rfl) dL_law_774 hroom (fun H locs hP hD hS => ?_)
  refine lv_istore (lv' := [(5, .int 1), (0, .ref b), (1, .ref (a 0)), (2, .ref (am 0)), (3, .ref (a 45)), (4, .int x4)]) hx hb dL_law_777 hl (by decide) rfl (fun ls hl => ?_)
  refine lv_aload_n hx hb dL_law_779 rfl (lv_at hl 3 rfl) ?_
  refine lv_aload_n hx hb dL_law_780 rfl (lv_at hl 1 rfl) ?_
  refine lv_iload hx hb dL_law_781 (lv_at hl 5 rfl) ?_
  refine lv_iconst (v := 1) hx hb dL_law_783 (by decide) ?_
  refine lv_iadd hx hb dL_law_784 ?_
  refine va_sld hx hb hX hbl hbA hS hi1 dL_law_785 ?_
  refine lw_callM (As := [.int (xs (Int32.toNatClampNeg (x4 + 1)))]) (rest := []) X (c_X6_sting l D y am hm) (mp_cw (k := 1) hts mM_L_117 mI_X6_sting mS_X6_sting mN_X6 mC_X6_sting rfl rfl (by decide +kernel) ⟨(Nat.le_of_ble_eq_true rfl), (Nat.le_of_ble_eq_true rfl)⟩) hK hP hD hS hA 0 mwC_0 rfl rfl hl.1 rfl (Nat.le_of_ble_eq_true rfl) dL_law_786 hroom2 (fun H locs hP hD hS => ?_)
  refine lv_istore (lv' := [(6, .int r), (5, .int 1), (0, .ref b), (1, .ref (a 0)), (2, .ref (am 0)), (3, .ref (a 45)), (4, .int x4)]) hx hb dL_law_789 hl (by decide) rfl (fun ls hl => ?_)
  refine lv_aload_n hx hb dL_law_791 rfl (lv_at hl 4 rfl) ?_
  refine lw_callM (As := []) (rest := []) X (c_X6_thrown l D y am ht0) (mp_cw (k := 0) hts mM_L_79 mI_X6_thrown mS_X6_thrown mN_X6 mC_X6_thrown rfl rfl (by decide +kernel) ⟨(Nat.le_of_ble_eq_true rfl), (Nat.le_of_ble_eq_true rfl)⟩) hK hP hD hS hA 0 mwC_0 rfl rfl hl.1 rfl (Nat.le_of_ble_eq_true rfl) dL_law_792 hroom2 (fun H locs hP hD hS => ?_)
  refine lv_iload hx hb dL_law_795 (lv_at hl 1 rfl) ?_
  refine lv_icmp_eq (tgt := 802) hx hb dL_law_797 (by decide) (fun _ => ?_) (fun hc => absurd hth hc)
  refine lv_iload hx hb dL_law_802 (lv_at hl 1 rfl) ?_
  refine lv_if_ne (tgt := 819) hx hb dL_law_804 (by decide) (fun _ => ?_) (fun hc => absurd hc (by decide))
  refine lv_goto (tgt := 1182) hx hb dL_law_819 (by decide) ?_
  exact kk _ _ _ hP hD hS (lv_sub hl [2, 3, 4, 5, 6] rfl)
set_option maxHeartbeats 4000000 in
set_option maxRecDepth 100000 in
theorem lc_go {p : Program} {e : Env} {s : State} {m : MethodId} {below : List Frame} {meth : Method} {c : Code} {l : Launch} {b L : Nat} {xs : Nat → Int32} {D : va_G} {y : CY} {a am : Nat → Nat} {x z z1 : PD} {x1 : PD} {r : Int64} {th : Int32} {o0 : Int64} {x4 : Int32} {H : Heap} {locs : List Loc} {ls : Array Slot} {cells slots : Nat} {Q : State → Prop} {A : Nat → Prop} (X : mpX p s m #[Value.ref b] meth c code 8 ret RL) (hlt : l.stackTraces = false) (hT : thE A s s.heap) (hK : va_K D vwCl (mpT y) s) (hA : ∀ q, s.heap.size ≤ q → A q) (hX : va_X b L xs s s.heap) (hbl : b < s.heap.size) (hbA : ¬ A b) (hf : f_L_go x (xs (Int32.toNatClampNeg (x4 + 1))) = some (0, x1)) (hm : f_X6_go z (xs (Int32.toNatClampNeg (x4 + 1))) = some (r, z1)) (ht0 : f_X6_thrown z1 = some th) (hth : th = 0) (ho : rB x1 45 0 = o0) (heq : o0 = r) (hi1 : vp_in (x4 + 1) L) (hroom : cells ≤ room_1.cells ∧ slots ≤ room_1.slots) (hP : va_P D vwCl (pw y a x ++ mw y am z) H) (hD : va_D A (pw y a x ++ mw y am z)) (hS : va_S A s.heap H locs) (hl : lv_has ls 8 [(0, .ref b), (1, .ref (a 0)), (2, .ref (am 0)), (3, .ref (a 45)), (4, .int x4)])
    (kk : ∀ (H : Heap) (locs : List Loc) (ls : Array Slot), va_P D vwCl (pw y a x1 ++ mw y am z1) H → va_D A (pw y a x1 ++ mw y am z1) → va_S A s.heap H locs → lv_has ls 8 [(0, .ref b), (1, .ref (a 0)), (2, .ref (am 0)), (3, .ref (a 45)), (4, .int x4)] → W p l e room_1 s m #[Value.ref b] below meth c H locs cells slots Q (F0 m 1182 ls [])) :
    W p l e room_1 s m #[Value.ref b] below meth c H locs cells slots Q (F0 m 822 ls []) := by
  obtain ⟨⟨hx, hb, hml, hown, hts⟩, hr, hlk⟩ := id X
  refine lv_aload_n hx hb dL_law_822 rfl (lv_at hl 1 rfl) ?_
  refine lv_aload_n hx hb dL_law_823 rfl (lv_at hl 0 rfl) ?_
  refine lv_iload hx hb dL_law_824 (lv_at hl 4 rfl) ?_
  refine lv_iconst (v := 1) hx hb dL_law_826 (by decide) ?_
  refine lv_iadd hx hb dL_law_827 ?_
  refine va_sld hx hb hX hbl hbA hS hi1 dL_law_828 ?_
  refine lv_aload_n hx hb dL_law_829 rfl (lv_at hl 3 rfl) ?_
  refine lw_callH (As := [.ref (a 0), .int (xs (Int32.toNatClampNeg (x4 + 1))), .ref (a 45)]) (rest := []) X (c_L_go l D y a hf) (mp_csH (k := 3) hts mM_L_118 mT_L_go mN_L mH_L_go rfl rfl (by decide +kernel) ⟨(Nat.le_of_ble_eq_true rfl), (Nat.le_of_ble_eq_true rfl)⟩) hK hP hD hS hA rfl hl.1 rfl (Nat.le_of_ble_eq_true rfl) dL_law_830 hroom (fun H locs hP hD hS => ?_)
  refine lv_istore (lv' := [(5, .int 0), (0, .ref b), (1, .ref (a 0)), (2, .ref (am 0)), (3, .ref (a 45)), (4, .int x4)]) hx hb dL_law_833 hl (by decide) rfl (fun ls hl => ?_)
  refine lv_aload_n hx hb dL_law_835 rfl (lv_at hl 3 rfl) ?_
  refine lv_aload_n hx hb dL_law_836 rfl (lv_at hl 1 rfl) ?_
  refine lv_iload hx hb dL_law_837 (lv_at hl 5 rfl) ?_
  refine lv_iconst (v := 1) hx hb dL_law_839 (by decide) ?_
  refine lv_iadd hx hb dL_law_840 ?_
  refine va_sld hx hb hX hbl hbA hS hi1 dL_law_841 ?_
  refine lw_callM (As := [.int (xs (Int32.toNatClampNeg (x4 + 1)))]) (rest := []) X (c_X6_go l D y am hm) (mp_cw (k := 1) hts mM_L_120 mI_X6_go mS_X6_go mN_X6 mC_X6_go rfl rfl (by decide +kernel) ⟨(Nat.le_of_ble_eq_true rfl), (Nat.le_of_ble_eq_true rfl)⟩) hK hP hD hS hA 0 mwC_0 rfl rfl hl.1 rfl (Nat.le_of_ble_eq_true rfl) dL_law_842 hroom (fun H locs hP hD hS => ?_)
  refine lv_lstore (lv' := [(6, .long r), (5, .int 0), (0, .ref b), (1, .ref (a 0)), (2, .ref (am 0)), (3, .ref (a 45)), (4, .int x4)]) hx hb dL_law_845 hl (by decide) rfl (fun ls hl => ?_)
  refine lv_aload_n hx hb dL_law_847 rfl (lv_at hl 4 rfl) ?_
  refine lw_callM (As := []) (rest := []) X (c_X6_thrown l D y am ht0) (mp_cw (k := 0) hts mM_L_79 mI_X6_thrown mS_X6_thrown mN_X6 mC_X6_thrown rfl rfl (by decide +kernel) ⟨(Nat.le_of_ble_eq_true rfl), (Nat.le_of_ble_eq_true rfl)⟩) hK hP hD hS hA 0 mwC_0 rfl rfl hl.1 rfl (Nat.le_of_ble_eq_true rfl) dL_law_848 hroom (fun H locs hP hD hS => ?_)
  refine lv_iload hx hb dL_law_851 (lv_at hl 1 rfl) ?_
  refine lv_icmp_eq (tgt := 858) hx hb dL_law_853 (by decide) (fun _ => ?_) (fun hc => absurd hth hc)
  refine lv_iload hx hb dL_law_858 (lv_at hl 1 rfl) ?_
  refine lv_if_ne (tgt := 874) hx hb dL_law_860 (by decide) (fun hc => absurd rfl hc) (fun _ => ?_)
  refine lv_aload_n hx hb dL_law_863 rfl (lv_at hl 5 rfl) ?_
  refine lv_iconst (v := 0) hx hb dL_law_864 (by decide) ?_
  refine va_lald hx hb hK hP 45 1 rfl rfl (inR_vp (by decide)) dL_law_865 ?_
  refine W.eq (g2 := F0 m 866 ls (.long o0 :: [])) (congrArg (fun v => F0 m 866 ls (.long v :: [])) ho) ?_
  refine lv_lload hx hb dL_law_866 (lv_at hl 0 rfl) ?_
  refine W.lcmp hx hb dL_law_868 ?_
  refine lv_if_eq (tgt := 874) hx hb dL_law_869 (by decide) (fun _ => ?_) (fun hc => absurd ((lg_cmp_eq _ _).mpr heq) hc)
  refine lv_goto (tgt := 1182) hx hb dL_law_874 (by decide) ?_
  exact kk _ _ _ hP hD hS (lv_sub hl [2, 3, 4, 5, 6] rfl)
set_option maxHeartbeats 4000000 in
set_option maxRecDepth 100000 in
theorem lc_go_t2 {p : Program} {e : Env} {s : State} {m : MethodId} {below : List Frame} {meth : Method} {c : Code} {l : Launch} {b L : Nat} {xs : Nat → Int32} {D : va_G} {y : CY} {a am : Nat → Nat} {x z z1 : PD} {r : Int64} {th : Int32} {x4 : Int32} {H : Heap} {locs : List Loc} {ls : Array Slot} {cells slots : Nat} {Q : State → Prop} {A : Nat → Prop} (X : mpX p s m #[Value.ref b] meth c code 8 ret RL) (hlt : l.stackTraces = false) (hT : thE A s s.heap) (hK : va_K D vwCl (mpT y) s) (hA : ∀ q, s.heap.size ≤ q → A q) (hX : va_X b L xs s s.heap) (hbl : b < s.heap.size) (hbA : ¬ A b) (hf : g_X5_go x (xs (Int32.toNatClampNeg (x4 + 1))) = some 2) (hm : f_X6_go z (xs (Int32.toNatClampNeg (x4 + 1))) = some (r, z1)) (ht0 : f_X6_thrown z1 = some th) (hth : th = 1) (hi1 : vp_in (x4 + 1) L) (hroom : cells + 1 ≤ room_1.cells ∧ slots + 6 ≤ room_1.slots) (hP : va_P D vwCl (pw y a x ++ mw y am z) H) (hD : va_D A (pw y a x ++ mw y am z)) (hS : va_S A s.heap H locs) (hl : lv_has ls 8 [(0, .ref b), (1, .ref (a 0)), (2, .ref (am 0)), (3, .ref (a 45)), (4, .int x4)])
    (kk : ∀ (H : Heap) (locs : List Loc) (ls : Array Slot), va_P D vwCl (pw y a x ++ mw y am z1) H → va_D A (pw y a x ++ mw y am z1) → va_S A s.heap H locs → lv_has ls 8 [(0, .ref b), (1, .ref (a 0)), (2, .ref (am 0)), (3, .ref (a 45)), (4, .int x4)] → W p l e room_1 s m #[Value.ref b] below meth c H locs (cells + 1) (slots + 6) Q (F0 m 1182 ls [])) :
    W p l e room_1 s m #[Value.ref b] below meth c H locs cells slots Q (F0 m 822 ls []) := by
  obtain ⟨⟨hx, hb, hml, hown, hts⟩, hr, hlk⟩ := id X
  have hroom2 := hroom
  refine lv_aload_n hx hb dL_law_822 rfl (lv_at hl 1 rfl) ?_
  refine lv_aload_n hx hb dL_law_823 rfl (lv_at hl 0 rfl) ?_
  refine lv_iload hx hb dL_law_824 (lv_at hl 4 rfl) ?_
  refine lv_iconst (v := 1) hx hb dL_law_826 (by decide) ?_
  refine lv_iadd hx hb dL_law_827 ?_
  refine va_sld hx hb hX hbl hbA hS hi1 dL_law_828 ?_
  refine lv_aload_n hx hb dL_law_829 rfl (lv_at hl 3 rfl) ?_
  refine lw_callT (As := [.ref (a 0), .int (xs (Int32.toNatClampNeg (x4 + 1))), .ref (a 45)]) (rest := []) X hT (th_L_go_2 l hlt D y a hf) (mp_csH (k := 3) hts mM_L_118 mT_L_go mN_L mH_L_go rfl rfl (by decide +kernel) ⟨(Nat.le_of_ble_eq_true rfl), (Nat.le_of_ble_eq_true rfl)⟩) hK hP hD hS hA rfl hl.1 rfl (Nat.le_of_ble_eq_true rfl) dL_law_830 hroom (fun H locs hP hD hS => ?_)
  refine lv_istore (lv' := [(5, .int 1), (0, .ref b), (1, .ref (a 0)), (2, .ref (am 0)), (3, .ref (a 45)), (4, .int x4)]) hx hb dL_law_833 hl (by decide) rfl (fun ls hl => ?_)
  refine lv_aload_n hx hb dL_law_835 rfl (lv_at hl 3 rfl) ?_
  refine lv_aload_n hx hb dL_law_836 rfl (lv_at hl 1 rfl) ?_
  refine lv_iload hx hb dL_law_837 (lv_at hl 5 rfl) ?_
  refine lv_iconst (v := 1) hx hb dL_law_839 (by decide) ?_
  refine lv_iadd hx hb dL_law_840 ?_
  refine va_sld hx hb hX hbl hbA hS hi1 dL_law_841 ?_
  refine lw_callM (As := [.int (xs (Int32.toNatClampNeg (x4 + 1)))]) (rest := []) X (c_X6_go l D y am hm) (mp_cw (k := 1) hts mM_L_120 mI_X6_go mS_X6_go mN_X6 mC_X6_go rfl rfl (by decide +kernel) ⟨(Nat.le_of_ble_eq_true rfl), (Nat.le_of_ble_eq_true rfl)⟩) hK hP hD hS hA 0 mwC_0 rfl rfl hl.1 rfl (Nat.le_of_ble_eq_true rfl) dL_law_842 hroom2 (fun H locs hP hD hS => ?_)
  refine lv_lstore (lv' := [(6, .long r), (5, .int 1), (0, .ref b), (1, .ref (a 0)), (2, .ref (am 0)), (3, .ref (a 45)), (4, .int x4)]) hx hb dL_law_845 hl (by decide) rfl (fun ls hl => ?_)
  refine lv_aload_n hx hb dL_law_847 rfl (lv_at hl 4 rfl) ?_
  refine lw_callM (As := []) (rest := []) X (c_X6_thrown l D y am ht0) (mp_cw (k := 0) hts mM_L_79 mI_X6_thrown mS_X6_thrown mN_X6 mC_X6_thrown rfl rfl (by decide +kernel) ⟨(Nat.le_of_ble_eq_true rfl), (Nat.le_of_ble_eq_true rfl)⟩) hK hP hD hS hA 0 mwC_0 rfl rfl hl.1 rfl (Nat.le_of_ble_eq_true rfl) dL_law_848 hroom2 (fun H locs hP hD hS => ?_)
  refine lv_iload hx hb dL_law_851 (lv_at hl 1 rfl) ?_
  refine lv_icmp_eq (tgt := 858) hx hb dL_law_853 (by decide) (fun _ => ?_) (fun hc => absurd hth hc)
  refine lv_iload hx hb dL_law_858 (lv_at hl 1 rfl) ?_
  refine lv_if_ne (tgt := 874) hx hb dL_law_860 (by decide) (fun _ => ?_) (fun hc => absurd hc (by decide))
  refine lv_goto (tgt := 1182) hx hb dL_law_874 (by decide) ?_
  exact kk _ _ _ hP hD hS (lv_sub hl [2, 3, 4, 5, 6] rfl)
set_option maxHeartbeats 4000000 in
set_option maxRecDepth 100000 in
theorem lc_now {p : Program} {e : Env} {s : State} {m : MethodId} {below : List Frame} {meth : Method} {c : Code} {l : Launch} {b L : Nat} {xs : Nat → Int32} {D : va_G} {y : CY} {a am : Nat → Nat} {x z z1 : PD} {x1 : PD} {r : Int32} {th : Int32} {o0 : Int64} {x4 : Int32} {H : Heap} {locs : List Loc} {ls : Array Slot} {cells slots : Nat} {Q : State → Prop} {A : Nat → Prop} (X : mpX p s m #[Value.ref b] meth c code 8 ret RL) (hlt : l.stackTraces = false) (hT : thE A s s.heap) (hK : va_K D vwCl (mpT y) s) (hA : ∀ q, s.heap.size ≤ q → A q) (hX : va_X b L xs s s.heap) (hbl : b < s.heap.size) (hbA : ¬ A b) (hf : f_L_now x (xs (Int32.toNatClampNeg (x4 + 1))) = some (0, x1)) (hm : f_X6_now z (xs (Int32.toNatClampNeg (x4 + 1))) = some (r, z1)) (ht0 : f_X6_thrown z1 = some th) (hth : th = 0) (ho : rB x1 45 0 = o0) (heq : o0 = Int32.toInt64 r) (hi1 : vp_in (x4 + 1) L) (hroom : cells ≤ room_1.cells ∧ slots ≤ room_1.slots) (hP : va_P D vwCl (pw y a x ++ mw y am z) H) (hD : va_D A (pw y a x ++ mw y am z)) (hS : va_S A s.heap H locs) (hl : lv_has ls 8 [(0, .ref b), (1, .ref (a 0)), (2, .ref (am 0)), (3, .ref (a 45)), (4, .int x4)])
    (kk : ∀ (H : Heap) (locs : List Loc) (ls : Array Slot), va_P D vwCl (pw y a x1 ++ mw y am z1) H → va_D A (pw y a x1 ++ mw y am z1) → va_S A s.heap H locs → lv_has ls 8 [(0, .ref b), (1, .ref (a 0)), (2, .ref (am 0)), (3, .ref (a 45)), (4, .int x4)] → W p l e room_1 s m #[Value.ref b] below meth c H locs cells slots Q (F0 m 1182 ls [])) :
    W p l e room_1 s m #[Value.ref b] below meth c H locs cells slots Q (F0 m 877 ls []) := by
  obtain ⟨⟨hx, hb, hml, hown, hts⟩, hr, hlk⟩ := id X
  refine lv_aload_n hx hb dL_law_877 rfl (lv_at hl 1 rfl) ?_
  refine lv_aload_n hx hb dL_law_878 rfl (lv_at hl 0 rfl) ?_
  refine lv_iload hx hb dL_law_879 (lv_at hl 4 rfl) ?_
  refine lv_iconst (v := 1) hx hb dL_law_881 (by decide) ?_
  refine lv_iadd hx hb dL_law_882 ?_
  refine va_sld hx hb hX hbl hbA hS hi1 dL_law_883 ?_
  refine lv_aload_n hx hb dL_law_884 rfl (lv_at hl 3 rfl) ?_
  refine lw_callH (As := [.ref (a 0), .int (xs (Int32.toNatClampNeg (x4 + 1))), .ref (a 45)]) (rest := []) X (c_L_now l D y a hf) (mp_csH (k := 3) hts mM_L_121 mT_L_now mN_L mH_L_now rfl rfl (by decide +kernel) ⟨(Nat.le_of_ble_eq_true rfl), (Nat.le_of_ble_eq_true rfl)⟩) hK hP hD hS hA rfl hl.1 rfl (Nat.le_of_ble_eq_true rfl) dL_law_885 hroom (fun H locs hP hD hS => ?_)
  refine lv_istore (lv' := [(5, .int 0), (0, .ref b), (1, .ref (a 0)), (2, .ref (am 0)), (3, .ref (a 45)), (4, .int x4)]) hx hb dL_law_888 hl (by decide) rfl (fun ls hl => ?_)
  refine lv_aload_n hx hb dL_law_890 rfl (lv_at hl 3 rfl) ?_
  refine lv_aload_n hx hb dL_law_891 rfl (lv_at hl 1 rfl) ?_
  refine lv_iload hx hb dL_law_892 (lv_at hl 5 rfl) ?_
  refine lv_iconst (v := 1) hx hb dL_law_894 (by decide) ?_
  refine lv_iadd hx hb dL_law_895 ?_
  refine va_sld hx hb hX hbl hbA hS hi1 dL_law_896 ?_
  refine lw_callM (As := [.int (xs (Int32.toNatClampNeg (x4 + 1)))]) (rest := []) X (c_X6_now l D y am hm) (mp_cw (k := 1) hts mM_L_123 mI_X6_now mS_X6_now mN_X6 mC_X6_now rfl rfl (by decide +kernel) ⟨(Nat.le_of_ble_eq_true rfl), (Nat.le_of_ble_eq_true rfl)⟩) hK hP hD hS hA 0 mwC_0 rfl rfl hl.1 rfl (Nat.le_of_ble_eq_true rfl) dL_law_897 hroom (fun H locs hP hD hS => ?_)
  refine lv_istore (lv' := [(6, .int r), (5, .int 0), (0, .ref b), (1, .ref (a 0)), (2, .ref (am 0)), (3, .ref (a 45)), (4, .int x4)]) hx hb dL_law_900 hl (by decide) rfl (fun ls hl => ?_)
  refine lv_aload_n hx hb dL_law_902 rfl (lv_at hl 4 rfl) ?_
  refine lw_callM (As := []) (rest := []) X (c_X6_thrown l D y am ht0) (mp_cw (k := 0) hts mM_L_79 mI_X6_thrown mS_X6_thrown mN_X6 mC_X6_thrown rfl rfl (by decide +kernel) ⟨(Nat.le_of_ble_eq_true rfl), (Nat.le_of_ble_eq_true rfl)⟩) hK hP hD hS hA 0 mwC_0 rfl rfl hl.1 rfl (Nat.le_of_ble_eq_true rfl) dL_law_903 hroom (fun H locs hP hD hS => ?_)
  refine lv_iload hx hb dL_law_906 (lv_at hl 1 rfl) ?_
  refine lv_icmp_eq (tgt := 913) hx hb dL_law_908 (by decide) (fun _ => ?_) (fun hc => absurd hth hc)
  refine lv_iload hx hb dL_law_913 (lv_at hl 1 rfl) ?_
  refine lv_if_ne (tgt := 930) hx hb dL_law_915 (by decide) (fun hc => absurd rfl hc) (fun _ => ?_)
  refine lv_aload_n hx hb dL_law_918 rfl (lv_at hl 5 rfl) ?_
  refine lv_iconst (v := 0) hx hb dL_law_919 (by decide) ?_
  refine va_lald hx hb hK hP 45 1 rfl rfl (inR_vp (by decide)) dL_law_920 ?_
  refine W.eq (g2 := F0 m 921 ls (.long o0 :: [])) (congrArg (fun v => F0 m 921 ls (.long v :: [])) ho) ?_
  refine lv_iload hx hb dL_law_921 (lv_at hl 0 rfl) ?_
  refine lv_i2l (v := Int32.toInt64 r) hx hb dL_law_923 rfl ?_
  refine W.lcmp hx hb dL_law_924 ?_
  refine lv_if_eq (tgt := 930) hx hb dL_law_925 (by decide) (fun _ => ?_) (fun hc => absurd ((lg_cmp_eq _ _).mpr heq) hc)
  refine lv_goto (tgt := 1182) hx hb dL_law_930 (by decide) ?_
  exact kk _ _ _ hP hD hS (lv_sub hl [2, 3, 4, 5, 6] rfl)
set_option maxHeartbeats 4000000 in
set_option maxRecDepth 100000 in
theorem lc_now_t1 {p : Program} {e : Env} {s : State} {m : MethodId} {below : List Frame} {meth : Method} {c : Code} {l : Launch} {b L : Nat} {xs : Nat → Int32} {D : va_G} {y : CY} {a am : Nat → Nat} {x z z1 : PD} {r : Int32} {th : Int32} {x4 : Int32} {H : Heap} {locs : List Loc} {ls : Array Slot} {cells slots : Nat} {Q : State → Prop} {A : Nat → Prop} (X : mpX p s m #[Value.ref b] meth c code 8 ret RL) (hlt : l.stackTraces = false) (hT : thE A s s.heap) (hK : va_K D vwCl (mpT y) s) (hA : ∀ q, s.heap.size ≤ q → A q) (hX : va_X b L xs s s.heap) (hbl : b < s.heap.size) (hbA : ¬ A b) (hf : g_X5_now x (xs (Int32.toNatClampNeg (x4 + 1))) = some 1) (hm : f_X6_now z (xs (Int32.toNatClampNeg (x4 + 1))) = some (r, z1)) (ht0 : f_X6_thrown z1 = some th) (hth : th = 1) (hi1 : vp_in (x4 + 1) L) (hroom : cells + 1 ≤ room_1.cells ∧ slots + 6 ≤ room_1.slots) (hP : va_P D vwCl (pw y a x ++ mw y am z) H) (hD : va_D A (pw y a x ++ mw y am z)) (hS : va_S A s.heap H locs) (hl : lv_has ls 8 [(0, .ref b), (1, .ref (a 0)), (2, .ref (am 0)), (3, .ref (a 45)), (4, .int x4)])
    (kk : ∀ (H : Heap) (locs : List Loc) (ls : Array Slot), va_P D vwCl (pw y a x ++ mw y am z1) H → va_D A (pw y a x ++ mw y am z1) → va_S A s.heap H locs → lv_has ls 8 [(0, .ref b), (1, .ref (a 0)), (2, .ref (am 0)), (3, .ref (a 45)), (4, .int x4)] → W p l e room_1 s m #[Value.ref b] below meth c H locs (cells + 1) (slots + 6) Q (F0 m 1182 ls [])) :
    W p l e room_1 s m #[Value.ref b] below meth c H locs cells slots Q (F0 m 877 ls []) := by
  obtain ⟨⟨hx, hb, hml, hown, hts⟩, hr, hlk⟩ := id X
  have hroom2 := hroom
  refine lv_aload_n hx hb dL_law_877 rfl (lv_at hl 1 rfl) ?_
  refine lv_aload_n hx hb dL_law_878 rfl (lv_at hl 0 rfl) ?_
  refine lv_iload hx hb dL_law_879 (lv_at hl 4 rfl) ?_
  refine lv_iconst (v := 1) hx hb dL_law_881 (by decide) ?_
  refine lv_iadd hx hb dL_law_882 ?_
  refine va_sld hx hb hX hbl hbA hS hi1 dL_law_883 ?_
  refine lv_aload_n hx hb dL_law_884 rfl (lv_at hl 3 rfl) ?_
  refine lw_callT (As := [.ref (a 0), .int (xs (Int32.toNatClampNeg (x4 + 1))), .ref (a 45)]) (rest := []) X hT (th_L_now_1 l hlt D y a hf) (mp_csH (k := 3) hts mM_L_121 mT_L_now mN_L mH_L_now rfl rfl (by decide +kernel) ⟨(Nat.le_of_ble_eq_true rfl), (Nat.le_of_ble_eq_true rfl)⟩) hK hP hD hS hA rfl hl.1 rfl (Nat.le_of_ble_eq_true rfl) dL_law_885 hroom (fun H locs hP hD hS => ?_)
  refine lv_istore (lv' := [(5, .int 1), (0, .ref b), (1, .ref (a 0)), (2, .ref (am 0)), (3, .ref (a 45)), (4, .int x4)]) hx hb dL_law_888 hl (by decide) rfl (fun ls hl => ?_)
  refine lv_aload_n hx hb dL_law_890 rfl (lv_at hl 3 rfl) ?_
  refine lv_aload_n hx hb dL_law_891 rfl (lv_at hl 1 rfl) ?_
  refine lv_iload hx hb dL_law_892 (lv_at hl 5 rfl) ?_
  refine lv_iconst (v := 1) hx hb dL_law_894 (by decide) ?_
  refine lv_iadd hx hb dL_law_895 ?_
  refine va_sld hx hb hX hbl hbA hS hi1 dL_law_896 ?_
  refine lw_callM (As := [.int (xs (Int32.toNatClampNeg (x4 + 1)))]) (rest := []) X (c_X6_now l D y am hm) (mp_cw (k := 1) hts mM_L_123 mI_X6_now mS_X6_now mN_X6 mC_X6_now rfl rfl (by decide +kernel) ⟨(Nat.le_of_ble_eq_true rfl), (Nat.le_of_ble_eq_true rfl)⟩) hK hP hD hS hA 0 mwC_0 rfl rfl hl.1 rfl (Nat.le_of_ble_eq_true rfl) dL_law_897 hroom2 (fun H locs hP hD hS => ?_)
  refine lv_istore (lv' := [(6, .int r), (5, .int 1), (0, .ref b), (1, .ref (a 0)), (2, .ref (am 0)), (3, .ref (a 45)), (4, .int x4)]) hx hb dL_law_900 hl (by decide) rfl (fun ls hl => ?_)
  refine lv_aload_n hx hb dL_law_902 rfl (lv_at hl 4 rfl) ?_
  refine lw_callM (As := []) (rest := []) X (c_X6_thrown l D y am ht0) (mp_cw (k := 0) hts mM_L_79 mI_X6_thrown mS_X6_thrown mN_X6 mC_X6_thrown rfl rfl (by decide +kernel) ⟨(Nat.le_of_ble_eq_true rfl), (Nat.le_of_ble_eq_true rfl)⟩) hK hP hD hS hA 0 mwC_0 rfl rfl hl.1 rfl (Nat.le_of_ble_eq_true rfl) dL_law_903 hroom2 (fun H locs hP hD hS => ?_)
  refine lv_iload hx hb dL_law_906 (lv_at hl 1 rfl) ?_
  refine lv_icmp_eq (tgt := 913) hx hb dL_law_908 (by decide) (fun _ => ?_) (fun hc => absurd hth hc)
  refine lv_iload hx hb dL_law_913 (lv_at hl 1 rfl) ?_
  refine lv_if_ne (tgt := 930) hx hb dL_law_915 (by decide) (fun _ => ?_) (fun hc => absurd hc (by decide))
  refine lv_goto (tgt := 1182) hx hb dL_law_930 (by decide) ?_
  exact kk _ _ _ hP hD hS (lv_sub hl [2, 3, 4, 5, 6] rfl)
set_option maxHeartbeats 4000000 in
set_option maxRecDepth 100000 in
theorem lc_level {p : Program} {e : Env} {s : State} {m : MethodId} {below : List Frame} {meth : Method} {c : Code} {l : Launch} {b L : Nat} {xs : Nat → Int32} {D : va_G} {y : CY} {a am : Nat → Nat} {x z z1 : PD} {x1 : PD} {r : Int32} {th : Int32} {o0 : Int64} {x4 : Int32} {H : Heap} {locs : List Loc} {ls : Array Slot} {cells slots : Nat} {Q : State → Prop} {A : Nat → Prop} (X : mpX p s m #[Value.ref b] meth c code 8 ret RL) (hlt : l.stackTraces = false) (hT : thE A s s.heap) (hK : va_K D vwCl (mpT y) s) (hA : ∀ q, s.heap.size ≤ q → A q) (hX : va_X b L xs s s.heap) (hbl : b < s.heap.size) (hbA : ¬ A b) (hf : f_L_level x (xs (Int32.toNatClampNeg (x4 + 1))) = some (0, x1)) (hm : f_X6_level z (xs (Int32.toNatClampNeg (x4 + 1))) = some (r, z1)) (ht0 : f_X6_thrown z1 = some th) (hth : th = 0) (ho : rB x1 45 0 = o0) (heq : o0 = Int32.toInt64 r) (hi1 : vp_in (x4 + 1) L) (hroom : cells ≤ room_1.cells ∧ slots ≤ room_1.slots) (hP : va_P D vwCl (pw y a x ++ mw y am z) H) (hD : va_D A (pw y a x ++ mw y am z)) (hS : va_S A s.heap H locs) (hl : lv_has ls 8 [(0, .ref b), (1, .ref (a 0)), (2, .ref (am 0)), (3, .ref (a 45)), (4, .int x4)])
    (kk : ∀ (H : Heap) (locs : List Loc) (ls : Array Slot), va_P D vwCl (pw y a x1 ++ mw y am z1) H → va_D A (pw y a x1 ++ mw y am z1) → va_S A s.heap H locs → lv_has ls 8 [(0, .ref b), (1, .ref (a 0)), (2, .ref (am 0)), (3, .ref (a 45)), (4, .int x4)] → W p l e room_1 s m #[Value.ref b] below meth c H locs cells slots Q (F0 m 1182 ls [])) :
    W p l e room_1 s m #[Value.ref b] below meth c H locs cells slots Q (F0 m 933 ls []) := by
  obtain ⟨⟨hx, hb, hml, hown, hts⟩, hr, hlk⟩ := id X
  refine lv_aload_n hx hb dL_law_933 rfl (lv_at hl 1 rfl) ?_
  refine lv_aload_n hx hb dL_law_934 rfl (lv_at hl 0 rfl) ?_
  refine lv_iload hx hb dL_law_935 (lv_at hl 4 rfl) ?_
  refine lv_iconst (v := 1) hx hb dL_law_937 (by decide) ?_
  refine lv_iadd hx hb dL_law_938 ?_
  refine va_sld hx hb hX hbl hbA hS hi1 dL_law_939 ?_
  refine lv_aload_n hx hb dL_law_940 rfl (lv_at hl 3 rfl) ?_
  refine lw_callH (As := [.ref (a 0), .int (xs (Int32.toNatClampNeg (x4 + 1))), .ref (a 45)]) (rest := []) X (c_L_level l D y a hf) (mp_csH (k := 3) hts mM_L_124 mT_L_level mN_L mH_L_level rfl rfl (by decide +kernel) ⟨(Nat.le_of_ble_eq_true rfl), (Nat.le_of_ble_eq_true rfl)⟩) hK hP hD hS hA rfl hl.1 rfl (Nat.le_of_ble_eq_true rfl) dL_law_941 hroom (fun H locs hP hD hS => ?_)
  refine lv_istore (lv' := [(5, .int 0), (0, .ref b), (1, .ref (a 0)), (2, .ref (am 0)), (3, .ref (a 45)), (4, .int x4)]) hx hb dL_law_944 hl (by decide) rfl (fun ls hl => ?_)
  refine lv_aload_n hx hb dL_law_946 rfl (lv_at hl 3 rfl) ?_
  refine lv_aload_n hx hb dL_law_947 rfl (lv_at hl 1 rfl) ?_
  refine lv_iload hx hb dL_law_948 (lv_at hl 5 rfl) ?_
  refine lv_iconst (v := 1) hx hb dL_law_950 (by decide) ?_
  refine lv_iadd hx hb dL_law_951 ?_
  refine va_sld hx hb hX hbl hbA hS hi1 dL_law_952 ?_
  refine lw_callM (As := [.int (xs (Int32.toNatClampNeg (x4 + 1)))]) (rest := []) X (c_X6_level l D y am hm) (mp_cw (k := 1) hts mM_L_126 mI_X6_level mS_X6_level mN_X6 mC_X6_level rfl rfl (by decide +kernel) ⟨(Nat.le_of_ble_eq_true rfl), (Nat.le_of_ble_eq_true rfl)⟩) hK hP hD hS hA 0 mwC_0 rfl rfl hl.1 rfl (Nat.le_of_ble_eq_true rfl) dL_law_953 hroom (fun H locs hP hD hS => ?_)
  refine lv_istore (lv' := [(6, .int r), (5, .int 0), (0, .ref b), (1, .ref (a 0)), (2, .ref (am 0)), (3, .ref (a 45)), (4, .int x4)]) hx hb dL_law_956 hl (by decide) rfl (fun ls hl => ?_)
  refine lv_aload_n hx hb dL_law_958 rfl (lv_at hl 4 rfl) ?_
  refine lw_callM (As := []) (rest := []) X (c_X6_thrown l D y am ht0) (mp_cw (k := 0) hts mM_L_79 mI_X6_thrown mS_X6_thrown mN_X6 mC_X6_thrown rfl rfl (by decide +kernel) ⟨(Nat.le_of_ble_eq_true rfl), (Nat.le_of_ble_eq_true rfl)⟩) hK hP hD hS hA 0 mwC_0 rfl rfl hl.1 rfl (Nat.le_of_ble_eq_true rfl) dL_law_959 hroom (fun H locs hP hD hS => ?_)
  refine lv_iload hx hb dL_law_962 (lv_at hl 1 rfl) ?_
  refine lv_icmp_eq (tgt := 969) hx hb dL_law_964 (by decide) (fun _ => ?_) (fun hc => absurd hth hc)
  refine lv_iload hx hb dL_law_969 (lv_at hl 1 rfl) ?_
  refine lv_if_ne (tgt := 986) hx hb dL_law_971 (by decide) (fun hc => absurd rfl hc) (fun _ => ?_)
  refine lv_aload_n hx hb dL_law_974 rfl (lv_at hl 5 rfl) ?_
  refine lv_iconst (v := 0) hx hb dL_law_975 (by decide) ?_
  refine va_lald hx hb hK hP 45 1 rfl rfl (inR_vp (by decide)) dL_law_976 ?_
  refine W.eq (g2 := F0 m 977 ls (.long o0 :: [])) (congrArg (fun v => F0 m 977 ls (.long v :: [])) ho) ?_
  refine lv_iload hx hb dL_law_977 (lv_at hl 0 rfl) ?_
  refine lv_i2l (v := Int32.toInt64 r) hx hb dL_law_979 rfl ?_
  refine W.lcmp hx hb dL_law_980 ?_
  refine lv_if_eq (tgt := 986) hx hb dL_law_981 (by decide) (fun _ => ?_) (fun hc => absurd ((lg_cmp_eq _ _).mpr heq) hc)
  refine lv_goto (tgt := 1182) hx hb dL_law_986 (by decide) ?_
  exact kk _ _ _ hP hD hS (lv_sub hl [2, 3, 4, 5, 6] rfl)
set_option maxHeartbeats 4000000 in
set_option maxRecDepth 100000 in
theorem lc_level_t1 {p : Program} {e : Env} {s : State} {m : MethodId} {below : List Frame} {meth : Method} {c : Code} {l : Launch} {b L : Nat} {xs : Nat → Int32} {D : va_G} {y : CY} {a am : Nat → Nat} {x z z1 : PD} {r : Int32} {th : Int32} {x4 : Int32} {H : Heap} {locs : List Loc} {ls : Array Slot} {cells slots : Nat} {Q : State → Prop} {A : Nat → Prop} (X : mpX p s m #[Value.ref b] meth c code 8 ret RL) (hlt : l.stackTraces = false) (hT : thE A s s.heap) (hK : va_K D vwCl (mpT y) s) (hA : ∀ q, s.heap.size ≤ q → A q) (hX : va_X b L xs s s.heap) (hbl : b < s.heap.size) (hbA : ¬ A b) (hf : g_X5_level x (xs (Int32.toNatClampNeg (x4 + 1))) = some 1) (hm : f_X6_level z (xs (Int32.toNatClampNeg (x4 + 1))) = some (r, z1)) (ht0 : f_X6_thrown z1 = some th) (hth : th = 1) (hi1 : vp_in (x4 + 1) L) (hroom : cells + 1 ≤ room_1.cells ∧ slots + 6 ≤ room_1.slots) (hP : va_P D vwCl (pw y a x ++ mw y am z) H) (hD : va_D A (pw y a x ++ mw y am z)) (hS : va_S A s.heap H locs) (hl : lv_has ls 8 [(0, .ref b), (1, .ref (a 0)), (2, .ref (am 0)), (3, .ref (a 45)), (4, .int x4)])
    (kk : ∀ (H : Heap) (locs : List Loc) (ls : Array Slot), va_P D vwCl (pw y a x ++ mw y am z1) H → va_D A (pw y a x ++ mw y am z1) → va_S A s.heap H locs → lv_has ls 8 [(0, .ref b), (1, .ref (a 0)), (2, .ref (am 0)), (3, .ref (a 45)), (4, .int x4)] → W p l e room_1 s m #[Value.ref b] below meth c H locs (cells + 1) (slots + 6) Q (F0 m 1182 ls [])) :
    W p l e room_1 s m #[Value.ref b] below meth c H locs cells slots Q (F0 m 933 ls []) := by
  obtain ⟨⟨hx, hb, hml, hown, hts⟩, hr, hlk⟩ := id X
  have hroom2 := hroom
  refine lv_aload_n hx hb dL_law_933 rfl (lv_at hl 1 rfl) ?_
  refine lv_aload_n hx hb dL_law_934 rfl (lv_at hl 0 rfl) ?_
  refine lv_iload hx hb dL_law_935 (lv_at hl 4 rfl) ?_
  refine lv_iconst (v := 1) hx hb dL_law_937 (by decide) ?_
  refine lv_iadd hx hb dL_law_938 ?_
  refine va_sld hx hb hX hbl hbA hS hi1 dL_law_939 ?_
  refine lv_aload_n hx hb dL_law_940 rfl (lv_at hl 3 rfl) ?_
  refine lw_callT (As := [.ref (a 0), .int (xs (Int32.toNatClampNeg (x4 + 1))), .ref (a 45)]) (rest := []) X hT (th_L_level_1 l hlt D y a hf) (mp_csH (k := 3) hts mM_L_124 mT_L_level mN_L mH_L_level rfl rfl (by decide +kernel) ⟨(Nat.le_of_ble_eq_true rfl), (Nat.le_of_ble_eq_true rfl)⟩) hK hP hD hS hA rfl hl.1 rfl (Nat.le_of_ble_eq_true rfl) dL_law_941 hroom (fun H locs hP hD hS => ?_)
  refine lv_istore (lv' := [(5, .int 1), (0, .ref b), (1, .ref (a 0)), (2, .ref (am 0)), (3, .ref (a 45)), (4, .int x4)]) hx hb dL_law_944 hl (by decide) rfl (fun ls hl => ?_)
  refine lv_aload_n hx hb dL_law_946 rfl (lv_at hl 3 rfl) ?_
  refine lv_aload_n hx hb dL_law_947 rfl (lv_at hl 1 rfl) ?_
  refine lv_iload hx hb dL_law_948 (lv_at hl 5 rfl) ?_
  refine lv_iconst (v := 1) hx hb dL_law_950 (by decide) ?_
  refine lv_iadd hx hb dL_law_951 ?_
  refine va_sld hx hb hX hbl hbA hS hi1 dL_law_952 ?_
  refine lw_callM (As := [.int (xs (Int32.toNatClampNeg (x4 + 1)))]) (rest := []) X (c_X6_level l D y am hm) (mp_cw (k := 1) hts mM_L_126 mI_X6_level mS_X6_level mN_X6 mC_X6_level rfl rfl (by decide +kernel) ⟨(Nat.le_of_ble_eq_true rfl), (Nat.le_of_ble_eq_true rfl)⟩) hK hP hD hS hA 0 mwC_0 rfl rfl hl.1 rfl (Nat.le_of_ble_eq_true rfl) dL_law_953 hroom2 (fun H locs hP hD hS => ?_)
  refine lv_istore (lv' := [(6, .int r), (5, .int 1), (0, .ref b), (1, .ref (a 0)), (2, .ref (am 0)), (3, .ref (a 45)), (4, .int x4)]) hx hb dL_law_956 hl (by decide) rfl (fun ls hl => ?_)
  refine lv_aload_n hx hb dL_law_958 rfl (lv_at hl 4 rfl) ?_
  refine lw_callM (As := []) (rest := []) X (c_X6_thrown l D y am ht0) (mp_cw (k := 0) hts mM_L_79 mI_X6_thrown mS_X6_thrown mN_X6 mC_X6_thrown rfl rfl (by decide +kernel) ⟨(Nat.le_of_ble_eq_true rfl), (Nat.le_of_ble_eq_true rfl)⟩) hK hP hD hS hA 0 mwC_0 rfl rfl hl.1 rfl (Nat.le_of_ble_eq_true rfl) dL_law_959 hroom2 (fun H locs hP hD hS => ?_)
  refine lv_iload hx hb dL_law_962 (lv_at hl 1 rfl) ?_
  refine lv_icmp_eq (tgt := 969) hx hb dL_law_964 (by decide) (fun _ => ?_) (fun hc => absurd hth hc)
  refine lv_iload hx hb dL_law_969 (lv_at hl 1 rfl) ?_
  refine lv_if_ne (tgt := 986) hx hb dL_law_971 (by decide) (fun _ => ?_) (fun hc => absurd hc (by decide))
  refine lv_goto (tgt := 1182) hx hb dL_law_986 (by decide) ?_
  exact kk _ _ _ hP hD hS (lv_sub hl [2, 3, 4, 5, 6] rfl)
set_option maxHeartbeats 4000000 in
set_option maxRecDepth 100000 in
theorem lc_log {p : Program} {e : Env} {s : State} {m : MethodId} {below : List Frame} {meth : Method} {c : Code} {l : Launch} {b L : Nat} {xs : Nat → Int32} {D : va_G} {y : CY} {a am : Nat → Nat} {x z z1 : PD} {x1 : PD} {r : Int64} {th : Int32} {o0 : Int64} {x4 : Int32} {H : Heap} {locs : List Loc} {ls : Array Slot} {cells slots : Nat} {Q : State → Prop} {A : Nat → Prop} (X : mpX p s m #[Value.ref b] meth c code 8 ret RL) (hlt : l.stackTraces = false) (hT : thE A s s.heap) (hK : va_K D vwCl (mpT y) s) (hA : ∀ q, s.heap.size ≤ q → A q) (hX : va_X b L xs s s.heap) (hbl : b < s.heap.size) (hbA : ¬ A b) (hf : f_L_log x (xs (Int32.toNatClampNeg (x4 + 1))) (xs (Int32.toNatClampNeg (x4 + 2))) = some (0, x1)) (hm : f_X6_log z (xs (Int32.toNatClampNeg (x4 + 1))) (xs (Int32.toNatClampNeg (x4 + 2))) = some (r, z1)) (ht0 : f_X6_thrown z1 = some th) (hth : th = 0) (ho : rB x1 45 0 = o0) (heq : o0 = r) (hi1 : vp_in (x4 + 1) L) (hi2 : vp_in (x4 + 2) L) (hroom : cells ≤ room_1.cells ∧ slots ≤ room_1.slots) (hP : va_P D vwCl (pw y a x ++ mw y am z) H) (hD : va_D A (pw y a x ++ mw y am z)) (hS : va_S A s.heap H locs) (hl : lv_has ls 8 [(0, .ref b), (1, .ref (a 0)), (2, .ref (am 0)), (3, .ref (a 45)), (4, .int x4)])
    (kk : ∀ (H : Heap) (locs : List Loc) (ls : Array Slot), va_P D vwCl (pw y a x1 ++ mw y am z1) H → va_D A (pw y a x1 ++ mw y am z1) → va_S A s.heap H locs → lv_has ls 8 [(0, .ref b), (1, .ref (a 0)), (2, .ref (am 0)), (3, .ref (a 45)), (4, .int x4)] → W p l e room_1 s m #[Value.ref b] below meth c H locs cells slots Q (F0 m 1182 ls [])) :
    W p l e room_1 s m #[Value.ref b] below meth c H locs cells slots Q (F0 m 989 ls []) := by
  obtain ⟨⟨hx, hb, hml, hown, hts⟩, hr, hlk⟩ := id X
  refine lv_aload_n hx hb dL_law_989 rfl (lv_at hl 1 rfl) ?_
  refine lv_aload_n hx hb dL_law_990 rfl (lv_at hl 0 rfl) ?_
  refine lv_iload hx hb dL_law_991 (lv_at hl 4 rfl) ?_
  refine lv_iconst (v := 1) hx hb dL_law_993 (by decide) ?_
  refine lv_iadd hx hb dL_law_994 ?_
  refine va_sld hx hb hX hbl hbA hS hi1 dL_law_995 ?_
  refine lv_aload_n hx hb dL_law_996 rfl (lv_at hl 0 rfl) ?_
  refine lv_iload hx hb dL_law_997 (lv_at hl 4 rfl) ?_
  refine lv_iconst (v := 2) hx hb dL_law_999 (by decide) ?_
  refine lv_iadd hx hb dL_law_1000 ?_
  refine va_sld hx hb hX hbl hbA hS hi2 dL_law_1001 ?_
  refine lv_aload_n hx hb dL_law_1002 rfl (lv_at hl 3 rfl) ?_
  refine lw_callH (As := [.ref (a 0), .int (xs (Int32.toNatClampNeg (x4 + 1))), .int (xs (Int32.toNatClampNeg (x4 + 2))), .ref (a 45)]) (rest := []) X (c_L_log l D y a hf) (mp_csH (k := 4) hts mM_L_127 mT_L_log mN_L mH_L_log rfl rfl (by decide +kernel) ⟨(Nat.le_of_ble_eq_true rfl), (Nat.le_of_ble_eq_true rfl)⟩) hK hP hD hS hA rfl hl.1 rfl (Nat.le_of_ble_eq_true rfl) dL_law_1003 hroom (fun H locs hP hD hS => ?_)
  refine lv_istore (lv' := [(5, .int 0), (0, .ref b), (1, .ref (a 0)), (2, .ref (am 0)), (3, .ref (a 45)), (4, .int x4)]) hx hb dL_law_1006 hl (by decide) rfl (fun ls hl => ?_)
  refine lv_aload_n hx hb dL_law_1008 rfl (lv_at hl 3 rfl) ?_
  refine lv_aload_n hx hb dL_law_1009 rfl (lv_at hl 1 rfl) ?_
  refine lv_iload hx hb dL_law_1010 (lv_at hl 5 rfl) ?_
  refine lv_iconst (v := 1) hx hb dL_law_1012 (by decide) ?_
  refine lv_iadd hx hb dL_law_1013 ?_
  refine va_sld hx hb hX hbl hbA hS hi1 dL_law_1014 ?_
  refine lv_aload_n hx hb dL_law_1015 rfl (lv_at hl 1 rfl) ?_
  refine lv_iload hx hb dL_law_1016 (lv_at hl 5 rfl) ?_
  refine lv_iconst (v := 2) hx hb dL_law_1018 (by decide) ?_
  refine lv_iadd hx hb dL_law_1019 ?_
  refine va_sld hx hb hX hbl hbA hS hi2 dL_law_1020 ?_
  refine lw_callM (As := [.int (xs (Int32.toNatClampNeg (x4 + 1))), .int (xs (Int32.toNatClampNeg (x4 + 2)))]) (rest := []) X (c_X6_log l D y am hm) (mp_cw (k := 2) hts mM_L_129 mI_X6_log mS_X6_log mN_X6 mC_X6_log rfl rfl (by decide +kernel) ⟨(Nat.le_of_ble_eq_true rfl), (Nat.le_of_ble_eq_true rfl)⟩) hK hP hD hS hA 0 mwC_0 rfl rfl hl.1 rfl (Nat.le_of_ble_eq_true rfl) dL_law_1021 hroom (fun H locs hP hD hS => ?_)
  refine lv_lstore (lv' := [(6, .long r), (5, .int 0), (0, .ref b), (1, .ref (a 0)), (2, .ref (am 0)), (3, .ref (a 45)), (4, .int x4)]) hx hb dL_law_1024 hl (by decide) rfl (fun ls hl => ?_)
  refine lv_aload_n hx hb dL_law_1026 rfl (lv_at hl 4 rfl) ?_
  refine lw_callM (As := []) (rest := []) X (c_X6_thrown l D y am ht0) (mp_cw (k := 0) hts mM_L_79 mI_X6_thrown mS_X6_thrown mN_X6 mC_X6_thrown rfl rfl (by decide +kernel) ⟨(Nat.le_of_ble_eq_true rfl), (Nat.le_of_ble_eq_true rfl)⟩) hK hP hD hS hA 0 mwC_0 rfl rfl hl.1 rfl (Nat.le_of_ble_eq_true rfl) dL_law_1027 hroom (fun H locs hP hD hS => ?_)
  refine lv_iload hx hb dL_law_1030 (lv_at hl 1 rfl) ?_
  refine lv_icmp_eq (tgt := 1037) hx hb dL_law_1032 (by decide) (fun _ => ?_) (fun hc => absurd hth hc)
  refine lv_iload hx hb dL_law_1037 (lv_at hl 1 rfl) ?_
  refine lv_if_ne (tgt := 1053) hx hb dL_law_1039 (by decide) (fun hc => absurd rfl hc) (fun _ => ?_)
  refine lv_aload_n hx hb dL_law_1042 rfl (lv_at hl 5 rfl) ?_
  refine lv_iconst (v := 0) hx hb dL_law_1043 (by decide) ?_
  refine va_lald hx hb hK hP 45 1 rfl rfl (inR_vp (by decide)) dL_law_1044 ?_
  refine W.eq (g2 := F0 m 1045 ls (.long o0 :: [])) (congrArg (fun v => F0 m 1045 ls (.long v :: [])) ho) ?_
  refine lv_lload hx hb dL_law_1045 (lv_at hl 0 rfl) ?_
  refine W.lcmp hx hb dL_law_1047 ?_
  refine lv_if_eq (tgt := 1053) hx hb dL_law_1048 (by decide) (fun _ => ?_) (fun hc => absurd ((lg_cmp_eq _ _).mpr heq) hc)
  refine lv_goto (tgt := 1182) hx hb dL_law_1053 (by decide) ?_
  exact kk _ _ _ hP hD hS (lv_sub hl [2, 3, 4, 5, 6] rfl)
set_option maxHeartbeats 4000000 in
set_option maxRecDepth 100000 in
theorem lc_log_t1 {p : Program} {e : Env} {s : State} {m : MethodId} {below : List Frame} {meth : Method} {c : Code} {l : Launch} {b L : Nat} {xs : Nat → Int32} {D : va_G} {y : CY} {a am : Nat → Nat} {x z z1 : PD} {r : Int64} {th : Int32} {x4 : Int32} {H : Heap} {locs : List Loc} {ls : Array Slot} {cells slots : Nat} {Q : State → Prop} {A : Nat → Prop} (X : mpX p s m #[Value.ref b] meth c code 8 ret RL) (hlt : l.stackTraces = false) (hT : thE A s s.heap) (hK : va_K D vwCl (mpT y) s) (hA : ∀ q, s.heap.size ≤ q → A q) (hX : va_X b L xs s s.heap) (hbl : b < s.heap.size) (hbA : ¬ A b) (hf : g_X5_log x (xs (Int32.toNatClampNeg (x4 + 1))) (xs (Int32.toNatClampNeg (x4 + 2))) = some 1) (hm : f_X6_log z (xs (Int32.toNatClampNeg (x4 + 1))) (xs (Int32.toNatClampNeg (x4 + 2))) = some (r, z1)) (ht0 : f_X6_thrown z1 = some th) (hth : th = 1) (hi1 : vp_in (x4 + 1) L) (hi2 : vp_in (x4 + 2) L) (hroom : cells + 1 ≤ room_1.cells ∧ slots + 6 ≤ room_1.slots) (hP : va_P D vwCl (pw y a x ++ mw y am z) H) (hD : va_D A (pw y a x ++ mw y am z)) (hS : va_S A s.heap H locs) (hl : lv_has ls 8 [(0, .ref b), (1, .ref (a 0)), (2, .ref (am 0)), (3, .ref (a 45)), (4, .int x4)])
    (kk : ∀ (H : Heap) (locs : List Loc) (ls : Array Slot), va_P D vwCl (pw y a x ++ mw y am z1) H → va_D A (pw y a x ++ mw y am z1) → va_S A s.heap H locs → lv_has ls 8 [(0, .ref b), (1, .ref (a 0)), (2, .ref (am 0)), (3, .ref (a 45)), (4, .int x4)] → W p l e room_1 s m #[Value.ref b] below meth c H locs (cells + 1) (slots + 6) Q (F0 m 1182 ls [])) :
    W p l e room_1 s m #[Value.ref b] below meth c H locs cells slots Q (F0 m 989 ls []) := by
  obtain ⟨⟨hx, hb, hml, hown, hts⟩, hr, hlk⟩ := id X
  have hroom2 := hroom
  refine lv_aload_n hx hb dL_law_989 rfl (lv_at hl 1 rfl) ?_
  refine lv_aload_n hx hb dL_law_990 rfl (lv_at hl 0 rfl) ?_
  refine lv_iload hx hb dL_law_991 (lv_at hl 4 rfl) ?_
  refine lv_iconst (v := 1) hx hb dL_law_993 (by decide) ?_
  refine lv_iadd hx hb dL_law_994 ?_
  refine va_sld hx hb hX hbl hbA hS hi1 dL_law_995 ?_
  refine lv_aload_n hx hb dL_law_996 rfl (lv_at hl 0 rfl) ?_
  refine lv_iload hx hb dL_law_997 (lv_at hl 4 rfl) ?_
  refine lv_iconst (v := 2) hx hb dL_law_999 (by decide) ?_
  refine lv_iadd hx hb dL_law_1000 ?_
  refine va_sld hx hb hX hbl hbA hS hi2 dL_law_1001 ?_
  refine lv_aload_n hx hb dL_law_1002 rfl (lv_at hl 3 rfl) ?_
  refine lw_callT (As := [.ref (a 0), .int (xs (Int32.toNatClampNeg (x4 + 1))), .int (xs (Int32.toNatClampNeg (x4 + 2))), .ref (a 45)]) (rest := []) X hT (th_L_log_1 l hlt D y a hf) (mp_csH (k := 4) hts mM_L_127 mT_L_log mN_L mH_L_log rfl rfl (by decide +kernel) ⟨(Nat.le_of_ble_eq_true rfl), (Nat.le_of_ble_eq_true rfl)⟩) hK hP hD hS hA rfl hl.1 rfl (Nat.le_of_ble_eq_true rfl) dL_law_1003 hroom (fun H locs hP hD hS => ?_)
  refine lv_istore (lv' := [(5, .int 1), (0, .ref b), (1, .ref (a 0)), (2, .ref (am 0)), (3, .ref (a 45)), (4, .int x4)]) hx hb dL_law_1006 hl (by decide) rfl (fun ls hl => ?_)
  refine lv_aload_n hx hb dL_law_1008 rfl (lv_at hl 3 rfl) ?_
  refine lv_aload_n hx hb dL_law_1009 rfl (lv_at hl 1 rfl) ?_
  refine lv_iload hx hb dL_law_1010 (lv_at hl 5 rfl) ?_
  refine lv_iconst (v := 1) hx hb dL_law_1012 (by decide) ?_
  refine lv_iadd hx hb dL_law_1013 ?_
  refine va_sld hx hb hX hbl hbA hS hi1 dL_law_1014 ?_
  refine lv_aload_n hx hb dL_law_1015 rfl (lv_at hl 1 rfl) ?_
  refine lv_iload hx hb dL_law_1016 (lv_at hl 5 rfl) ?_
  refine lv_iconst (v := 2) hx hb dL_law_1018 (by decide) ?_
  refine lv_iadd hx hb dL_law_1019 ?_
  refine va_sld hx hb hX hbl hbA hS hi2 dL_law_1020 ?_
  refine lw_callM (As := [.int (xs (Int32.toNatClampNeg (x4 + 1))), .int (xs (Int32.toNatClampNeg (x4 + 2)))]) (rest := []) X (c_X6_log l D y am hm) (mp_cw (k := 2) hts mM_L_129 mI_X6_log mS_X6_log mN_X6 mC_X6_log rfl rfl (by decide +kernel) ⟨(Nat.le_of_ble_eq_true rfl), (Nat.le_of_ble_eq_true rfl)⟩) hK hP hD hS hA 0 mwC_0 rfl rfl hl.1 rfl (Nat.le_of_ble_eq_true rfl) dL_law_1021 hroom2 (fun H locs hP hD hS => ?_)
  refine lv_lstore (lv' := [(6, .long r), (5, .int 1), (0, .ref b), (1, .ref (a 0)), (2, .ref (am 0)), (3, .ref (a 45)), (4, .int x4)]) hx hb dL_law_1024 hl (by decide) rfl (fun ls hl => ?_)
  refine lv_aload_n hx hb dL_law_1026 rfl (lv_at hl 4 rfl) ?_
  refine lw_callM (As := []) (rest := []) X (c_X6_thrown l D y am ht0) (mp_cw (k := 0) hts mM_L_79 mI_X6_thrown mS_X6_thrown mN_X6 mC_X6_thrown rfl rfl (by decide +kernel) ⟨(Nat.le_of_ble_eq_true rfl), (Nat.le_of_ble_eq_true rfl)⟩) hK hP hD hS hA 0 mwC_0 rfl rfl hl.1 rfl (Nat.le_of_ble_eq_true rfl) dL_law_1027 hroom2 (fun H locs hP hD hS => ?_)
  refine lv_iload hx hb dL_law_1030 (lv_at hl 1 rfl) ?_
  refine lv_icmp_eq (tgt := 1037) hx hb dL_law_1032 (by decide) (fun _ => ?_) (fun hc => absurd hth hc)
  refine lv_iload hx hb dL_law_1037 (lv_at hl 1 rfl) ?_
  refine lv_if_ne (tgt := 1053) hx hb dL_law_1039 (by decide) (fun _ => ?_) (fun hc => absurd hc (by decide))
  refine lv_goto (tgt := 1182) hx hb dL_law_1053 (by decide) ?_
  exact kk _ _ _ hP hD hS (lv_sub hl [2, 3, 4, 5, 6] rfl)
set_option maxHeartbeats 4000000 in
set_option maxRecDepth 100000 in
theorem lc_keep_v0 {p : Program} {e : Env} {s : State} {m : MethodId} {below : List Frame} {meth : Method} {c : Code} {l : Launch} {b L : Nat} {xs : Nat → Int32} {D : va_G} {y : CY} {a am : Nat → Nat} {x z z1 : PD} {x1 : PD} {r : Int32} {th : Int32} {o0 : Int64} {x4 : Int32} {H : Heap} {locs : List Loc} {ls : Array Slot} {cells slots : Nat} {Q : State → Prop} {A : Nat → Prop} (X : mpX p s m #[Value.ref b] meth c code 8 ret RL) (hlt : l.stackTraces = false) (hT : thE A s s.heap) (hK : va_K D vwCl (mpT y) s) (hA : ∀ q, s.heap.size ≤ q → A q) (hX : va_X b L xs s s.heap) (hbl : b < s.heap.size) (hbA : ¬ A b) (hv : (xs (Int32.toNatClampNeg (x4 + 1))) = 0) (hf : f_L_keep_v0 x = some (0, x1)) (hm : f_X6_keep z (xs (Int32.toNatClampNeg (x4 + 1))) = some (r, z1)) (ht0 : f_X6_thrown z1 = some th) (hth : th = 0) (ho : rB x1 45 0 = o0) (heq : (r = 0 → o0 = 0) ∧ (¬ r = 0 → o0 = 1)) (hi1 : vp_in (x4 + 1) L) (hroom : cells ≤ room_1.cells ∧ slots ≤ room_1.slots) (hP : va_P D vwCl (pw y a x ++ mw y am z) H) (hD : va_D A (pw y a x ++ mw y am z)) (hS : va_S A s.heap H locs) (hl : lv_has ls 8 [(0, .ref b), (1, .ref (a 0)), (2, .ref (am 0)), (3, .ref (a 45)), (4, .int x4)])
    (kk : ∀ (H : Heap) (locs : List Loc) (ls : Array Slot), va_P D vwCl (pw y a x1 ++ mw y am z1) H → va_D A (pw y a x1 ++ mw y am z1) → va_S A s.heap H locs → lv_has ls 8 [(0, .ref b), (1, .ref (a 0)), (2, .ref (am 0)), (3, .ref (a 45)), (4, .int x4)] → W p l e room_1 s m #[Value.ref b] below meth c H locs cells slots Q (F0 m 1182 ls [])) :
    W p l e room_1 s m #[Value.ref b] below meth c H locs cells slots Q (F0 m 1056 ls []) := by
  obtain ⟨⟨hx, hb, hml, hown, hts⟩, hr, hlk⟩ := id X
  refine lv_aload_n hx hb dL_law_1056 rfl (lv_at hl 1 rfl) ?_
  refine lv_aload_n hx hb dL_law_1057 rfl (lv_at hl 0 rfl) ?_
  refine lv_iload hx hb dL_law_1058 (lv_at hl 4 rfl) ?_
  refine lv_iconst (v := 1) hx hb dL_law_1060 (by decide) ?_
  refine lv_iadd hx hb dL_law_1061 ?_
  refine va_sld hx hb hX hbl hbA hS hi1 dL_law_1062 ?_
  refine lv_aload_n hx hb dL_law_1063 rfl (lv_at hl 3 rfl) ?_
  refine W.eq (g2 := F0 m 1064 ls [.ref (a 45), .int 0, .ref (a 0)]) (by rw [hv]) ?_
  refine lw_callH (As := [.ref (a 0), .int 0, .ref (a 45)]) (rest := []) X (c_L_keep_v0 l D y a hf) (mp_csH (k := 3) hts mM_L_130 mT_L_keep mN_L mH_L_keep rfl rfl (by decide +kernel) ⟨(Nat.le_of_ble_eq_true rfl), (Nat.le_of_ble_eq_true rfl)⟩) hK hP hD hS hA rfl hl.1 rfl (Nat.le_of_ble_eq_true rfl) dL_law_1064 hroom (fun H locs hP hD hS => ?_)
  refine lv_istore (lv' := [(5, .int 0), (0, .ref b), (1, .ref (a 0)), (2, .ref (am 0)), (3, .ref (a 45)), (4, .int x4)]) hx hb dL_law_1067 hl (by decide) rfl (fun ls hl => ?_)
  refine lv_aload_n hx hb dL_law_1069 rfl (lv_at hl 3 rfl) ?_
  refine lv_aload_n hx hb dL_law_1070 rfl (lv_at hl 1 rfl) ?_
  refine lv_iload hx hb dL_law_1071 (lv_at hl 5 rfl) ?_
  refine lv_iconst (v := 1) hx hb dL_law_1073 (by decide) ?_
  refine lv_iadd hx hb dL_law_1074 ?_
  refine va_sld hx hb hX hbl hbA hS hi1 dL_law_1075 ?_
  refine lw_callM (As := [.int (xs (Int32.toNatClampNeg (x4 + 1)))]) (rest := []) X (c_X6_keep l D y am hm) (mp_cw (k := 1) hts mM_L_132 mI_X6_keep mS_X6_keep mN_X6 mC_X6_keep rfl rfl (by decide +kernel) ⟨(Nat.le_of_ble_eq_true rfl), (Nat.le_of_ble_eq_true rfl)⟩) hK hP hD hS hA 0 mwC_0 rfl rfl hl.1 rfl (Nat.le_of_ble_eq_true rfl) dL_law_1076 hroom (fun H locs hP hD hS => ?_)
  refine lv_istore (lv' := [(6, .int r), (5, .int 0), (0, .ref b), (1, .ref (a 0)), (2, .ref (am 0)), (3, .ref (a 45)), (4, .int x4)]) hx hb dL_law_1079 hl (by decide) rfl (fun ls hl => ?_)
  refine lv_aload_n hx hb dL_law_1081 rfl (lv_at hl 4 rfl) ?_
  refine lw_callM (As := []) (rest := []) X (c_X6_thrown l D y am ht0) (mp_cw (k := 0) hts mM_L_79 mI_X6_thrown mS_X6_thrown mN_X6 mC_X6_thrown rfl rfl (by decide +kernel) ⟨(Nat.le_of_ble_eq_true rfl), (Nat.le_of_ble_eq_true rfl)⟩) hK hP hD hS hA 0 mwC_0 rfl rfl hl.1 rfl (Nat.le_of_ble_eq_true rfl) dL_law_1082 hroom (fun H locs hP hD hS => ?_)
  refine lv_iload hx hb dL_law_1085 (lv_at hl 1 rfl) ?_
  refine lv_icmp_eq (tgt := 1092) hx hb dL_law_1087 (by decide) (fun _ => ?_) (fun hc => absurd hth hc)
  refine lv_iload hx hb dL_law_1092 (lv_at hl 1 rfl) ?_
  refine lv_if_ne (tgt := 1116) hx hb dL_law_1094 (by decide) (fun hc => absurd rfl hc) (fun _ => ?_)
  refine lv_aload_n hx hb dL_law_1097 rfl (lv_at hl 5 rfl) ?_
  refine lv_iconst (v := 0) hx hb dL_law_1098 (by decide) ?_
  refine va_lald hx hb hK hP 45 1 rfl rfl (inR_vp (by decide)) dL_law_1099 ?_
  refine W.eq (g2 := F0 m 1100 ls (.long o0 :: [])) (congrArg (fun v => F0 m 1100 ls (.long v :: [])) ho) ?_
  refine lv_iload hx hb dL_law_1100 (lv_at hl 0 rfl) ?_
  refine lv_if_eq (tgt := 1109) hx hb dL_law_1102 (by decide) (fun hc => ?_) (fun hc => ?_)
  · refine lv_lconst (v := 0) hx hb dL_law_1109 (by decide) ?_
    refine W.lcmp hx hb dL_law_1110 ?_
    refine lv_if_eq (tgt := 1116) hx hb dL_law_1111 (by decide) (fun _ => ?_) (fun hc2 => absurd ((lg_cmp_eq _ _).mpr (heq.1 hc)) hc2)
    refine lv_goto (tgt := 1182) hx hb dL_law_1116 (by decide) ?_
    exact kk _ _ _ hP hD hS (lv_sub hl [2, 3, 4, 5, 6] rfl)
  · refine lv_lconst (v := 1) hx hb dL_law_1105 (by decide) ?_
    refine lv_goto (tgt := 1110) hx hb dL_law_1106 (by decide) ?_
    refine W.lcmp hx hb dL_law_1110 ?_
    refine lv_if_eq (tgt := 1116) hx hb dL_law_1111 (by decide) (fun _ => ?_) (fun hc2 => absurd ((lg_cmp_eq _ _).mpr (heq.2 hc)) hc2)
    refine lv_goto (tgt := 1182) hx hb dL_law_1116 (by decide) ?_
    exact kk _ _ _ hP hD hS (lv_sub hl [2, 3, 4, 5, 6] rfl)
set_option maxHeartbeats 4000000 in
set_option maxRecDepth 100000 in
theorem lc_keep_v1 {p : Program} {e : Env} {s : State} {m : MethodId} {below : List Frame} {meth : Method} {c : Code} {l : Launch} {b L : Nat} {xs : Nat → Int32} {D : va_G} {y : CY} {a am : Nat → Nat} {x z z1 : PD} {x1 : PD} {r : Int32} {th : Int32} {o0 : Int64} {x4 : Int32} {H : Heap} {locs : List Loc} {ls : Array Slot} {cells slots : Nat} {Q : State → Prop} {A : Nat → Prop} (X : mpX p s m #[Value.ref b] meth c code 8 ret RL) (hlt : l.stackTraces = false) (hT : thE A s s.heap) (hK : va_K D vwCl (mpT y) s) (hA : ∀ q, s.heap.size ≤ q → A q) (hX : va_X b L xs s s.heap) (hbl : b < s.heap.size) (hbA : ¬ A b) (hv : (xs (Int32.toNatClampNeg (x4 + 1))) = 1) (hf : f_L_keep_v1 x = some (0, x1)) (hm : f_X6_keep z (xs (Int32.toNatClampNeg (x4 + 1))) = some (r, z1)) (ht0 : f_X6_thrown z1 = some th) (hth : th = 0) (ho : rB x1 45 0 = o0) (heq : (r = 0 → o0 = 0) ∧ (¬ r = 0 → o0 = 1)) (hi1 : vp_in (x4 + 1) L) (hroom : cells ≤ room_1.cells ∧ slots ≤ room_1.slots) (hP : va_P D vwCl (pw y a x ++ mw y am z) H) (hD : va_D A (pw y a x ++ mw y am z)) (hS : va_S A s.heap H locs) (hl : lv_has ls 8 [(0, .ref b), (1, .ref (a 0)), (2, .ref (am 0)), (3, .ref (a 45)), (4, .int x4)])
    (kk : ∀ (H : Heap) (locs : List Loc) (ls : Array Slot), va_P D vwCl (pw y a x1 ++ mw y am z1) H → va_D A (pw y a x1 ++ mw y am z1) → va_S A s.heap H locs → lv_has ls 8 [(0, .ref b), (1, .ref (a 0)), (2, .ref (am 0)), (3, .ref (a 45)), (4, .int x4)] → W p l e room_1 s m #[Value.ref b] below meth c H locs cells slots Q (F0 m 1182 ls [])) :
    W p l e room_1 s m #[Value.ref b] below meth c H locs cells slots Q (F0 m 1056 ls []) := by
  obtain ⟨⟨hx, hb, hml, hown, hts⟩, hr, hlk⟩ := id X
  refine lv_aload_n hx hb dL_law_1056 rfl (lv_at hl 1 rfl) ?_
  refine lv_aload_n hx hb dL_law_1057 rfl (lv_at hl 0 rfl) ?_
  refine lv_iload hx hb dL_law_1058 (lv_at hl 4 rfl) ?_
  refine lv_iconst (v := 1) hx hb dL_law_1060 (by decide) ?_
  refine lv_iadd hx hb dL_law_1061 ?_
  refine va_sld hx hb hX hbl hbA hS hi1 dL_law_1062 ?_
  refine lv_aload_n hx hb dL_law_1063 rfl (lv_at hl 3 rfl) ?_
  refine W.eq (g2 := F0 m 1064 ls [.ref (a 45), .int 1, .ref (a 0)]) (by rw [hv]) ?_
  refine lw_callH (As := [.ref (a 0), .int 1, .ref (a 45)]) (rest := []) X (c_L_keep_v1 l D y a hf) (mp_csH (k := 3) hts mM_L_130 mT_L_keep mN_L mH_L_keep rfl rfl (by decide +kernel) ⟨(Nat.le_of_ble_eq_true rfl), (Nat.le_of_ble_eq_true rfl)⟩) hK hP hD hS hA rfl hl.1 rfl (Nat.le_of_ble_eq_true rfl) dL_law_1064 hroom (fun H locs hP hD hS => ?_)
  refine lv_istore (lv' := [(5, .int 0), (0, .ref b), (1, .ref (a 0)), (2, .ref (am 0)), (3, .ref (a 45)), (4, .int x4)]) hx hb dL_law_1067 hl (by decide) rfl (fun ls hl => ?_)
  refine lv_aload_n hx hb dL_law_1069 rfl (lv_at hl 3 rfl) ?_
  refine lv_aload_n hx hb dL_law_1070 rfl (lv_at hl 1 rfl) ?_
  refine lv_iload hx hb dL_law_1071 (lv_at hl 5 rfl) ?_
  refine lv_iconst (v := 1) hx hb dL_law_1073 (by decide) ?_
  refine lv_iadd hx hb dL_law_1074 ?_
  refine va_sld hx hb hX hbl hbA hS hi1 dL_law_1075 ?_
  refine lw_callM (As := [.int (xs (Int32.toNatClampNeg (x4 + 1)))]) (rest := []) X (c_X6_keep l D y am hm) (mp_cw (k := 1) hts mM_L_132 mI_X6_keep mS_X6_keep mN_X6 mC_X6_keep rfl rfl (by decide +kernel) ⟨(Nat.le_of_ble_eq_true rfl), (Nat.le_of_ble_eq_true rfl)⟩) hK hP hD hS hA 0 mwC_0 rfl rfl hl.1 rfl (Nat.le_of_ble_eq_true rfl) dL_law_1076 hroom (fun H locs hP hD hS => ?_)
  refine lv_istore (lv' := [(6, .int r), (5, .int 0), (0, .ref b), (1, .ref (a 0)), (2, .ref (am 0)), (3, .ref (a 45)), (4, .int x4)]) hx hb dL_law_1079 hl (by decide) rfl (fun ls hl => ?_)
  refine lv_aload_n hx hb dL_law_1081 rfl (lv_at hl 4 rfl) ?_
  refine lw_callM (As := []) (rest := []) X (c_X6_thrown l D y am ht0) (mp_cw (k := 0) hts mM_L_79 mI_X6_thrown mS_X6_thrown mN_X6 mC_X6_thrown rfl rfl (by decide +kernel) ⟨(Nat.le_of_ble_eq_true rfl), (Nat.le_of_ble_eq_true rfl)⟩) hK hP hD hS hA 0 mwC_0 rfl rfl hl.1 rfl (Nat.le_of_ble_eq_true rfl) dL_law_1082 hroom (fun H locs hP hD hS => ?_)
  refine lv_iload hx hb dL_law_1085 (lv_at hl 1 rfl) ?_
  refine lv_icmp_eq (tgt := 1092) hx hb dL_law_1087 (by decide) (fun _ => ?_) (fun hc => absurd hth hc)
  refine lv_iload hx hb dL_law_1092 (lv_at hl 1 rfl) ?_
  refine lv_if_ne (tgt := 1116) hx hb dL_law_1094 (by decide) (fun hc => absurd rfl hc) (fun _ => ?_)
  refine lv_aload_n hx hb dL_law_1097 rfl (lv_at hl 5 rfl) ?_
  refine lv_iconst (v := 0) hx hb dL_law_1098 (by decide) ?_
  refine va_lald hx hb hK hP 45 1 rfl rfl (inR_vp (by decide)) dL_law_1099 ?_
  refine W.eq (g2 := F0 m 1100 ls (.long o0 :: [])) (congrArg (fun v => F0 m 1100 ls (.long v :: [])) ho) ?_
  refine lv_iload hx hb dL_law_1100 (lv_at hl 0 rfl) ?_
  refine lv_if_eq (tgt := 1109) hx hb dL_law_1102 (by decide) (fun hc => ?_) (fun hc => ?_)
  · refine lv_lconst (v := 0) hx hb dL_law_1109 (by decide) ?_
    refine W.lcmp hx hb dL_law_1110 ?_
    refine lv_if_eq (tgt := 1116) hx hb dL_law_1111 (by decide) (fun _ => ?_) (fun hc2 => absurd ((lg_cmp_eq _ _).mpr (heq.1 hc)) hc2)
    refine lv_goto (tgt := 1182) hx hb dL_law_1116 (by decide) ?_
    exact kk _ _ _ hP hD hS (lv_sub hl [2, 3, 4, 5, 6] rfl)
  · refine lv_lconst (v := 1) hx hb dL_law_1105 (by decide) ?_
    refine lv_goto (tgt := 1110) hx hb dL_law_1106 (by decide) ?_
    refine W.lcmp hx hb dL_law_1110 ?_
    refine lv_if_eq (tgt := 1116) hx hb dL_law_1111 (by decide) (fun _ => ?_) (fun hc2 => absurd ((lg_cmp_eq _ _).mpr (heq.2 hc)) hc2)
    refine lv_goto (tgt := 1182) hx hb dL_law_1116 (by decide) ?_
    exact kk _ _ _ hP hD hS (lv_sub hl [2, 3, 4, 5, 6] rfl)
set_option maxHeartbeats 4000000 in
set_option maxRecDepth 100000 in
theorem lc_keep_v2 {p : Program} {e : Env} {s : State} {m : MethodId} {below : List Frame} {meth : Method} {c : Code} {l : Launch} {b L : Nat} {xs : Nat → Int32} {D : va_G} {y : CY} {a am : Nat → Nat} {x z z1 : PD} {x1 : PD} {r : Int32} {th : Int32} {o0 : Int64} {x4 : Int32} {H : Heap} {locs : List Loc} {ls : Array Slot} {cells slots : Nat} {Q : State → Prop} {A : Nat → Prop} (X : mpX p s m #[Value.ref b] meth c code 8 ret RL) (hlt : l.stackTraces = false) (hT : thE A s s.heap) (hK : va_K D vwCl (mpT y) s) (hA : ∀ q, s.heap.size ≤ q → A q) (hX : va_X b L xs s s.heap) (hbl : b < s.heap.size) (hbA : ¬ A b) (hv : (xs (Int32.toNatClampNeg (x4 + 1))) = 2) (hf : f_L_keep_v2 x = some (0, x1)) (hm : f_X6_keep z (xs (Int32.toNatClampNeg (x4 + 1))) = some (r, z1)) (ht0 : f_X6_thrown z1 = some th) (hth : th = 0) (ho : rB x1 45 0 = o0) (heq : (r = 0 → o0 = 0) ∧ (¬ r = 0 → o0 = 1)) (hi1 : vp_in (x4 + 1) L) (hroom : cells ≤ room_1.cells ∧ slots ≤ room_1.slots) (hP : va_P D vwCl (pw y a x ++ mw y am z) H) (hD : va_D A (pw y a x ++ mw y am z)) (hS : va_S A s.heap H locs) (hl : lv_has ls 8 [(0, .ref b), (1, .ref (a 0)), (2, .ref (am 0)), (3, .ref (a 45)), (4, .int x4)])
    (kk : ∀ (H : Heap) (locs : List Loc) (ls : Array Slot), va_P D vwCl (pw y a x1 ++ mw y am z1) H → va_D A (pw y a x1 ++ mw y am z1) → va_S A s.heap H locs → lv_has ls 8 [(0, .ref b), (1, .ref (a 0)), (2, .ref (am 0)), (3, .ref (a 45)), (4, .int x4)] → W p l e room_1 s m #[Value.ref b] below meth c H locs cells slots Q (F0 m 1182 ls [])) :
    W p l e room_1 s m #[Value.ref b] below meth c H locs cells slots Q (F0 m 1056 ls []) := by
  obtain ⟨⟨hx, hb, hml, hown, hts⟩, hr, hlk⟩ := id X
  refine lv_aload_n hx hb dL_law_1056 rfl (lv_at hl 1 rfl) ?_
  refine lv_aload_n hx hb dL_law_1057 rfl (lv_at hl 0 rfl) ?_
  refine lv_iload hx hb dL_law_1058 (lv_at hl 4 rfl) ?_
  refine lv_iconst (v := 1) hx hb dL_law_1060 (by decide) ?_
  refine lv_iadd hx hb dL_law_1061 ?_
  refine va_sld hx hb hX hbl hbA hS hi1 dL_law_1062 ?_
  refine lv_aload_n hx hb dL_law_1063 rfl (lv_at hl 3 rfl) ?_
  refine W.eq (g2 := F0 m 1064 ls [.ref (a 45), .int 2, .ref (a 0)]) (by rw [hv]) ?_
  refine lw_callH (As := [.ref (a 0), .int 2, .ref (a 45)]) (rest := []) X (c_L_keep_v2 l D y a hf) (mp_csH (k := 3) hts mM_L_130 mT_L_keep mN_L mH_L_keep rfl rfl (by decide +kernel) ⟨(Nat.le_of_ble_eq_true rfl), (Nat.le_of_ble_eq_true rfl)⟩) hK hP hD hS hA rfl hl.1 rfl (Nat.le_of_ble_eq_true rfl) dL_law_1064 hroom (fun H locs hP hD hS => ?_)
  refine lv_istore (lv' := [(5, .int 0), (0, .ref b), (1, .ref (a 0)), (2, .ref (am 0)), (3, .ref (a 45)), (4, .int x4)]) hx hb dL_law_1067 hl (by decide) rfl (fun ls hl => ?_)
  refine lv_aload_n hx hb dL_law_1069 rfl (lv_at hl 3 rfl) ?_
  refine lv_aload_n hx hb dL_law_1070 rfl (lv_at hl 1 rfl) ?_
  refine lv_iload hx hb dL_law_1071 (lv_at hl 5 rfl) ?_
  refine lv_iconst (v := 1) hx hb dL_law_1073 (by decide) ?_
  refine lv_iadd hx hb dL_law_1074 ?_
  refine va_sld hx hb hX hbl hbA hS hi1 dL_law_1075 ?_
  refine lw_callM (As := [.int (xs (Int32.toNatClampNeg (x4 + 1)))]) (rest := []) X (c_X6_keep l D y am hm) (mp_cw (k := 1) hts mM_L_132 mI_X6_keep mS_X6_keep mN_X6 mC_X6_keep rfl rfl (by decide +kernel) ⟨(Nat.le_of_ble_eq_true rfl), (Nat.le_of_ble_eq_true rfl)⟩) hK hP hD hS hA 0 mwC_0 rfl rfl hl.1 rfl (Nat.le_of_ble_eq_true rfl) dL_law_1076 hroom (fun H locs hP hD hS => ?_)
  refine lv_istore (lv' := [(6, .int r), (5, .int 0), (0, .ref b), (1, .ref (a 0)), (2, .ref (am 0)), (3, .ref (a 45)), (4, .int x4)]) hx hb dL_law_1079 hl (by decide) rfl (fun ls hl => ?_)
  refine lv_aload_n hx hb dL_law_1081 rfl (lv_at hl 4 rfl) ?_
  refine lw_callM (As := []) (rest := []) X (c_X6_thrown l D y am ht0) (mp_cw (k := 0) hts mM_L_79 mI_X6_thrown mS_X6_thrown mN_X6 mC_X6_thrown rfl rfl (by decide +kernel) ⟨(Nat.le_of_ble_eq_true rfl), (Nat.le_of_ble_eq_true rfl)⟩) hK hP hD hS hA 0 mwC_0 rfl rfl hl.1 rfl (Nat.le_of_ble_eq_true rfl) dL_law_1082 hroom (fun H locs hP hD hS => ?_)
  refine lv_iload hx hb dL_law_1085 (lv_at hl 1 rfl) ?_
  refine lv_icmp_eq (tgt := 1092) hx hb dL_law_1087 (by decide) (fun _ => ?_) (fun hc => absurd hth hc)
  refine lv_iload hx hb dL_law_1092 (lv_at hl 1 rfl) ?_
  refine lv_if_ne (tgt := 1116) hx hb dL_law_1094 (by decide) (fun hc => absurd rfl hc) (fun _ => ?_)
  refine lv_aload_n hx hb dL_law_1097 rfl (lv_at hl 5 rfl) ?_
  refine lv_iconst (v := 0) hx hb dL_law_1098 (by decide) ?_
  refine va_lald hx hb hK hP 45 1 rfl rfl (inR_vp (by decide)) dL_law_1099 ?_
  refine W.eq (g2 := F0 m 1100 ls (.long o0 :: [])) (congrArg (fun v => F0 m 1100 ls (.long v :: [])) ho) ?_
  refine lv_iload hx hb dL_law_1100 (lv_at hl 0 rfl) ?_
  refine lv_if_eq (tgt := 1109) hx hb dL_law_1102 (by decide) (fun hc => ?_) (fun hc => ?_)
  · refine lv_lconst (v := 0) hx hb dL_law_1109 (by decide) ?_
    refine W.lcmp hx hb dL_law_1110 ?_
    refine lv_if_eq (tgt := 1116) hx hb dL_law_1111 (by decide) (fun _ => ?_) (fun hc2 => absurd ((lg_cmp_eq _ _).mpr (heq.1 hc)) hc2)
    refine lv_goto (tgt := 1182) hx hb dL_law_1116 (by decide) ?_
    exact kk _ _ _ hP hD hS (lv_sub hl [2, 3, 4, 5, 6] rfl)
  · refine lv_lconst (v := 1) hx hb dL_law_1105 (by decide) ?_
    refine lv_goto (tgt := 1110) hx hb dL_law_1106 (by decide) ?_
    refine W.lcmp hx hb dL_law_1110 ?_
    refine lv_if_eq (tgt := 1116) hx hb dL_law_1111 (by decide) (fun _ => ?_) (fun hc2 => absurd ((lg_cmp_eq _ _).mpr (heq.2 hc)) hc2)
    refine lv_goto (tgt := 1182) hx hb dL_law_1116 (by decide) ?_
    exact kk _ _ _ hP hD hS (lv_sub hl [2, 3, 4, 5, 6] rfl)
set_option maxHeartbeats 4000000 in
set_option maxRecDepth 100000 in
theorem lc_keep_v3 {p : Program} {e : Env} {s : State} {m : MethodId} {below : List Frame} {meth : Method} {c : Code} {l : Launch} {b L : Nat} {xs : Nat → Int32} {D : va_G} {y : CY} {a am : Nat → Nat} {x z z1 : PD} {x1 : PD} {r : Int32} {th : Int32} {o0 : Int64} {x4 : Int32} {H : Heap} {locs : List Loc} {ls : Array Slot} {cells slots : Nat} {Q : State → Prop} {A : Nat → Prop} (X : mpX p s m #[Value.ref b] meth c code 8 ret RL) (hlt : l.stackTraces = false) (hT : thE A s s.heap) (hK : va_K D vwCl (mpT y) s) (hA : ∀ q, s.heap.size ≤ q → A q) (hX : va_X b L xs s s.heap) (hbl : b < s.heap.size) (hbA : ¬ A b) (hv : (xs (Int32.toNatClampNeg (x4 + 1))) = 3) (hf : f_L_keep_v3 x = some (0, x1)) (hm : f_X6_keep z (xs (Int32.toNatClampNeg (x4 + 1))) = some (r, z1)) (ht0 : f_X6_thrown z1 = some th) (hth : th = 0) (ho : rB x1 45 0 = o0) (heq : (r = 0 → o0 = 0) ∧ (¬ r = 0 → o0 = 1)) (hi1 : vp_in (x4 + 1) L) (hroom : cells ≤ room_1.cells ∧ slots ≤ room_1.slots) (hP : va_P D vwCl (pw y a x ++ mw y am z) H) (hD : va_D A (pw y a x ++ mw y am z)) (hS : va_S A s.heap H locs) (hl : lv_has ls 8 [(0, .ref b), (1, .ref (a 0)), (2, .ref (am 0)), (3, .ref (a 45)), (4, .int x4)])
    (kk : ∀ (H : Heap) (locs : List Loc) (ls : Array Slot), va_P D vwCl (pw y a x1 ++ mw y am z1) H → va_D A (pw y a x1 ++ mw y am z1) → va_S A s.heap H locs → lv_has ls 8 [(0, .ref b), (1, .ref (a 0)), (2, .ref (am 0)), (3, .ref (a 45)), (4, .int x4)] → W p l e room_1 s m #[Value.ref b] below meth c H locs cells slots Q (F0 m 1182 ls [])) :
    W p l e room_1 s m #[Value.ref b] below meth c H locs cells slots Q (F0 m 1056 ls []) := by
  obtain ⟨⟨hx, hb, hml, hown, hts⟩, hr, hlk⟩ := id X
  refine lv_aload_n hx hb dL_law_1056 rfl (lv_at hl 1 rfl) ?_
  refine lv_aload_n hx hb dL_law_1057 rfl (lv_at hl 0 rfl) ?_
  refine lv_iload hx hb dL_law_1058 (lv_at hl 4 rfl) ?_
  refine lv_iconst (v := 1) hx hb dL_law_1060 (by decide) ?_
  refine lv_iadd hx hb dL_law_1061 ?_
  refine va_sld hx hb hX hbl hbA hS hi1 dL_law_1062 ?_
  refine lv_aload_n hx hb dL_law_1063 rfl (lv_at hl 3 rfl) ?_
  refine W.eq (g2 := F0 m 1064 ls [.ref (a 45), .int 3, .ref (a 0)]) (by rw [hv]) ?_
  refine lw_callH (As := [.ref (a 0), .int 3, .ref (a 45)]) (rest := []) X (c_L_keep_v3 l D y a hf) (mp_csH (k := 3) hts mM_L_130 mT_L_keep mN_L mH_L_keep rfl rfl (by decide +kernel) ⟨(Nat.le_of_ble_eq_true rfl), (Nat.le_of_ble_eq_true rfl)⟩) hK hP hD hS hA rfl hl.1 rfl (Nat.le_of_ble_eq_true rfl) dL_law_1064 hroom (fun H locs hP hD hS => ?_)
  refine lv_istore (lv' := [(5, .int 0), (0, .ref b), (1, .ref (a 0)), (2, .ref (am 0)), (3, .ref (a 45)), (4, .int x4)]) hx hb dL_law_1067 hl (by decide) rfl (fun ls hl => ?_)
  refine lv_aload_n hx hb dL_law_1069 rfl (lv_at hl 3 rfl) ?_
  refine lv_aload_n hx hb dL_law_1070 rfl (lv_at hl 1 rfl) ?_
  refine lv_iload hx hb dL_law_1071 (lv_at hl 5 rfl) ?_
  refine lv_iconst (v := 1) hx hb dL_law_1073 (by decide) ?_
  refine lv_iadd hx hb dL_law_1074 ?_
  refine va_sld hx hb hX hbl hbA hS hi1 dL_law_1075 ?_
  refine lw_callM (As := [.int (xs (Int32.toNatClampNeg (x4 + 1)))]) (rest := []) X (c_X6_keep l D y am hm) (mp_cw (k := 1) hts mM_L_132 mI_X6_keep mS_X6_keep mN_X6 mC_X6_keep rfl rfl (by decide +kernel) ⟨(Nat.le_of_ble_eq_true rfl), (Nat.le_of_ble_eq_true rfl)⟩) hK hP hD hS hA 0 mwC_0 rfl rfl hl.1 rfl (Nat.le_of_ble_eq_true rfl) dL_law_1076 hroom (fun H locs hP hD hS => ?_)
  refine lv_istore (lv' := [(6, .int r), (5, .int 0), (0, .ref b), (1, .ref (a 0)), (2, .ref (am 0)), (3, .ref (a 45)), (4, .int x4)]) hx hb dL_law_1079 hl (by decide) rfl (fun ls hl => ?_)
  refine lv_aload_n hx hb dL_law_1081 rfl (lv_at hl 4 rfl) ?_
  refine lw_callM (As := []) (rest := []) X (c_X6_thrown l D y am ht0) (mp_cw (k := 0) hts mM_L_79 mI_X6_thrown mS_X6_thrown mN_X6 mC_X6_thrown rfl rfl (by decide +kernel) ⟨(Nat.le_of_ble_eq_true rfl), (Nat.le_of_ble_eq_true rfl)⟩) hK hP hD hS hA 0 mwC_0 rfl rfl hl.1 rfl (Nat.le_of_ble_eq_true rfl) dL_law_1082 hroom (fun H locs hP hD hS => ?_)
  refine lv_iload hx hb dL_law_1085 (lv_at hl 1 rfl) ?_
  refine lv_icmp_eq (tgt := 1092) hx hb dL_law_1087 (by decide) (fun _ => ?_) (fun hc => absurd hth hc)
  refine lv_iload hx hb dL_law_1092 (lv_at hl 1 rfl) ?_
  refine lv_if_ne (tgt := 1116) hx hb dL_law_1094 (by decide) (fun hc => absurd rfl hc) (fun _ => ?_)
  refine lv_aload_n hx hb dL_law_1097 rfl (lv_at hl 5 rfl) ?_
  refine lv_iconst (v := 0) hx hb dL_law_1098 (by decide) ?_
  refine va_lald hx hb hK hP 45 1 rfl rfl (inR_vp (by decide)) dL_law_1099 ?_
  refine W.eq (g2 := F0 m 1100 ls (.long o0 :: [])) (congrArg (fun v => F0 m 1100 ls (.long v :: [])) ho) ?_
  refine lv_iload hx hb dL_law_1100 (lv_at hl 0 rfl) ?_
  refine lv_if_eq (tgt := 1109) hx hb dL_law_1102 (by decide) (fun hc => ?_) (fun hc => ?_)
  · refine lv_lconst (v := 0) hx hb dL_law_1109 (by decide) ?_
    refine W.lcmp hx hb dL_law_1110 ?_
    refine lv_if_eq (tgt := 1116) hx hb dL_law_1111 (by decide) (fun _ => ?_) (fun hc2 => absurd ((lg_cmp_eq _ _).mpr (heq.1 hc)) hc2)
    refine lv_goto (tgt := 1182) hx hb dL_law_1116 (by decide) ?_
    exact kk _ _ _ hP hD hS (lv_sub hl [2, 3, 4, 5, 6] rfl)
  · refine lv_lconst (v := 1) hx hb dL_law_1105 (by decide) ?_
    refine lv_goto (tgt := 1110) hx hb dL_law_1106 (by decide) ?_
    refine W.lcmp hx hb dL_law_1110 ?_
    refine lv_if_eq (tgt := 1116) hx hb dL_law_1111 (by decide) (fun _ => ?_) (fun hc2 => absurd ((lg_cmp_eq _ _).mpr (heq.2 hc)) hc2)
    refine lv_goto (tgt := 1182) hx hb dL_law_1116 (by decide) ?_
    exact kk _ _ _ hP hD hS (lv_sub hl [2, 3, 4, 5, 6] rfl)
set_option maxHeartbeats 4000000 in
set_option maxRecDepth 100000 in
theorem lc_keep_t2 {p : Program} {e : Env} {s : State} {m : MethodId} {below : List Frame} {meth : Method} {c : Code} {l : Launch} {b L : Nat} {xs : Nat → Int32} {D : va_G} {y : CY} {a am : Nat → Nat} {x z z1 : PD} {r : Int32} {th : Int32} {x4 : Int32} {H : Heap} {locs : List Loc} {ls : Array Slot} {cells slots : Nat} {Q : State → Prop} {A : Nat → Prop} (X : mpX p s m #[Value.ref b] meth c code 8 ret RL) (hlt : l.stackTraces = false) (hT : thE A s s.heap) (hK : va_K D vwCl (mpT y) s) (hA : ∀ q, s.heap.size ≤ q → A q) (hX : va_X b L xs s s.heap) (hbl : b < s.heap.size) (hbA : ¬ A b) (hf : g_X5_keep x (xs (Int32.toNatClampNeg (x4 + 1))) = some 2) (hm : f_X6_keep z (xs (Int32.toNatClampNeg (x4 + 1))) = some (r, z1)) (ht0 : f_X6_thrown z1 = some th) (hth : th = 1) (hi1 : vp_in (x4 + 1) L) (hroom : cells + 1 ≤ room_1.cells ∧ slots + 6 ≤ room_1.slots) (hP : va_P D vwCl (pw y a x ++ mw y am z) H) (hD : va_D A (pw y a x ++ mw y am z)) (hS : va_S A s.heap H locs) (hl : lv_has ls 8 [(0, .ref b), (1, .ref (a 0)), (2, .ref (am 0)), (3, .ref (a 45)), (4, .int x4)])
    (kk : ∀ (H : Heap) (locs : List Loc) (ls : Array Slot), va_P D vwCl (pw y a x ++ mw y am z1) H → va_D A (pw y a x ++ mw y am z1) → va_S A s.heap H locs → lv_has ls 8 [(0, .ref b), (1, .ref (a 0)), (2, .ref (am 0)), (3, .ref (a 45)), (4, .int x4)] → W p l e room_1 s m #[Value.ref b] below meth c H locs (cells + 1) (slots + 6) Q (F0 m 1182 ls [])) :
    W p l e room_1 s m #[Value.ref b] below meth c H locs cells slots Q (F0 m 1056 ls []) := by
  obtain ⟨⟨hx, hb, hml, hown, hts⟩, hr, hlk⟩ := id X
  have hroom2 := hroom
  refine lv_aload_n hx hb dL_law_1056 rfl (lv_at hl 1 rfl) ?_
  refine lv_aload_n hx hb dL_law_1057 rfl (lv_at hl 0 rfl) ?_
  refine lv_iload hx hb dL_law_1058 (lv_at hl 4 rfl) ?_
  refine lv_iconst (v := 1) hx hb dL_law_1060 (by decide) ?_
  refine lv_iadd hx hb dL_law_1061 ?_
  refine va_sld hx hb hX hbl hbA hS hi1 dL_law_1062 ?_
  refine lv_aload_n hx hb dL_law_1063 rfl (lv_at hl 3 rfl) ?_
  refine lw_callT (As := [.ref (a 0), .int (xs (Int32.toNatClampNeg (x4 + 1))), .ref (a 45)]) (rest := []) X hT (th_L_keep_2 l hlt D y a hf) (mp_csH (k := 3) hts mM_L_130 mT_L_keep mN_L mH_L_keep rfl rfl (by decide +kernel) ⟨(Nat.le_of_ble_eq_true rfl), (Nat.le_of_ble_eq_true rfl)⟩) hK hP hD hS hA rfl hl.1 rfl (Nat.le_of_ble_eq_true rfl) dL_law_1064 hroom (fun H locs hP hD hS => ?_)
  refine lv_istore (lv' := [(5, .int 1), (0, .ref b), (1, .ref (a 0)), (2, .ref (am 0)), (3, .ref (a 45)), (4, .int x4)]) hx hb dL_law_1067 hl (by decide) rfl (fun ls hl => ?_)
  refine lv_aload_n hx hb dL_law_1069 rfl (lv_at hl 3 rfl) ?_
  refine lv_aload_n hx hb dL_law_1070 rfl (lv_at hl 1 rfl) ?_
  refine lv_iload hx hb dL_law_1071 (lv_at hl 5 rfl) ?_
  refine lv_iconst (v := 1) hx hb dL_law_1073 (by decide) ?_
  refine lv_iadd hx hb dL_law_1074 ?_
  refine va_sld hx hb hX hbl hbA hS hi1 dL_law_1075 ?_
  refine lw_callM (As := [.int (xs (Int32.toNatClampNeg (x4 + 1)))]) (rest := []) X (c_X6_keep l D y am hm) (mp_cw (k := 1) hts mM_L_132 mI_X6_keep mS_X6_keep mN_X6 mC_X6_keep rfl rfl (by decide +kernel) ⟨(Nat.le_of_ble_eq_true rfl), (Nat.le_of_ble_eq_true rfl)⟩) hK hP hD hS hA 0 mwC_0 rfl rfl hl.1 rfl (Nat.le_of_ble_eq_true rfl) dL_law_1076 hroom2 (fun H locs hP hD hS => ?_)
  refine lv_istore (lv' := [(6, .int r), (5, .int 1), (0, .ref b), (1, .ref (a 0)), (2, .ref (am 0)), (3, .ref (a 45)), (4, .int x4)]) hx hb dL_law_1079 hl (by decide) rfl (fun ls hl => ?_)
  refine lv_aload_n hx hb dL_law_1081 rfl (lv_at hl 4 rfl) ?_
  refine lw_callM (As := []) (rest := []) X (c_X6_thrown l D y am ht0) (mp_cw (k := 0) hts mM_L_79 mI_X6_thrown mS_X6_thrown mN_X6 mC_X6_thrown rfl rfl (by decide +kernel) ⟨(Nat.le_of_ble_eq_true rfl), (Nat.le_of_ble_eq_true rfl)⟩) hK hP hD hS hA 0 mwC_0 rfl rfl hl.1 rfl (Nat.le_of_ble_eq_true rfl) dL_law_1082 hroom2 (fun H locs hP hD hS => ?_)
  refine lv_iload hx hb dL_law_1085 (lv_at hl 1 rfl) ?_
  refine lv_icmp_eq (tgt := 1092) hx hb dL_law_1087 (by decide) (fun _ => ?_) (fun hc => absurd hth hc)
  refine lv_iload hx hb dL_law_1092 (lv_at hl 1 rfl) ?_
  refine lv_if_ne (tgt := 1116) hx hb dL_law_1094 (by decide) (fun _ => ?_) (fun hc => absurd hc (by decide))
  refine lv_goto (tgt := 1182) hx hb dL_law_1116 (by decide) ?_
  exact kk _ _ _ hP hD hS (lv_sub hl [2, 3, 4, 5, 6] rfl)
set_option maxHeartbeats 4000000 in
set_option maxRecDepth 100000 in
theorem lc_goOn_v0 {p : Program} {e : Env} {s : State} {m : MethodId} {below : List Frame} {meth : Method} {c : Code} {l : Launch} {b L : Nat} {xs : Nat → Int32} {D : va_G} {y : CY} {a am : Nat → Nat} {x z z1 : PD} {x1 : PD} {r : Int32} {th : Int32} {o0 : Int64} {x4 : Int32} {H : Heap} {locs : List Loc} {ls : Array Slot} {cells slots : Nat} {Q : State → Prop} {A : Nat → Prop} (X : mpX p s m #[Value.ref b] meth c code 8 ret RL) (hlt : l.stackTraces = false) (hT : thE A s s.heap) (hK : va_K D vwCl (mpT y) s) (hA : ∀ q, s.heap.size ≤ q → A q) (hX : va_X b L xs s s.heap) (hbl : b < s.heap.size) (hbA : ¬ A b) (hv : (xs (Int32.toNatClampNeg (x4 + 1))) = 0) (hf : f_L_goOn_v0 x = some (0, x1)) (hm : f_X6_goOn z (xs (Int32.toNatClampNeg (x4 + 1))) = some (r, z1)) (ht0 : f_X6_thrown z1 = some th) (hth : th = 0) (ho : rB x1 45 0 = o0) (heq : (r = 0 → o0 = 0) ∧ (¬ r = 0 → o0 = 1)) (hi1 : vp_in (x4 + 1) L) (hroom : cells ≤ room_1.cells ∧ slots ≤ room_1.slots) (hP : va_P D vwCl (pw y a x ++ mw y am z) H) (hD : va_D A (pw y a x ++ mw y am z)) (hS : va_S A s.heap H locs) (hl : lv_has ls 8 [(0, .ref b), (1, .ref (a 0)), (2, .ref (am 0)), (3, .ref (a 45)), (4, .int x4)])
    (kk : ∀ (H : Heap) (locs : List Loc) (ls : Array Slot), va_P D vwCl (pw y a x1 ++ mw y am z1) H → va_D A (pw y a x1 ++ mw y am z1) → va_S A s.heap H locs → lv_has ls 8 [(0, .ref b), (1, .ref (a 0)), (2, .ref (am 0)), (3, .ref (a 45)), (4, .int x4)] → W p l e room_1 s m #[Value.ref b] below meth c H locs cells slots Q (F0 m 1182 ls [])) :
    W p l e room_1 s m #[Value.ref b] below meth c H locs cells slots Q (F0 m 1119 ls []) := by
  obtain ⟨⟨hx, hb, hml, hown, hts⟩, hr, hlk⟩ := id X
  refine lv_aload_n hx hb dL_law_1119 rfl (lv_at hl 1 rfl) ?_
  refine lv_aload_n hx hb dL_law_1120 rfl (lv_at hl 0 rfl) ?_
  refine lv_iload hx hb dL_law_1121 (lv_at hl 4 rfl) ?_
  refine lv_iconst (v := 1) hx hb dL_law_1123 (by decide) ?_
  refine lv_iadd hx hb dL_law_1124 ?_
  refine va_sld hx hb hX hbl hbA hS hi1 dL_law_1125 ?_
  refine lv_aload_n hx hb dL_law_1126 rfl (lv_at hl 3 rfl) ?_
  refine W.eq (g2 := F0 m 1127 ls [.ref (a 45), .int 0, .ref (a 0)]) (by rw [hv]) ?_
  refine lw_callH (As := [.ref (a 0), .int 0, .ref (a 45)]) (rest := []) X (c_L_goOn_v0 l D y a hf) (mp_csH (k := 3) hts mM_L_133 mT_L_goOn mN_L mH_L_goOn rfl rfl (by decide +kernel) ⟨(Nat.le_of_ble_eq_true rfl), (Nat.le_of_ble_eq_true rfl)⟩) hK hP hD hS hA rfl hl.1 rfl (Nat.le_of_ble_eq_true rfl) dL_law_1127 hroom (fun H locs hP hD hS => ?_)
  refine lv_istore (lv' := [(5, .int 0), (0, .ref b), (1, .ref (a 0)), (2, .ref (am 0)), (3, .ref (a 45)), (4, .int x4)]) hx hb dL_law_1130 hl (by decide) rfl (fun ls hl => ?_)
  refine lv_aload_n hx hb dL_law_1132 rfl (lv_at hl 3 rfl) ?_
  refine lv_aload_n hx hb dL_law_1133 rfl (lv_at hl 1 rfl) ?_
  refine lv_iload hx hb dL_law_1134 (lv_at hl 5 rfl) ?_
  refine lv_iconst (v := 1) hx hb dL_law_1136 (by decide) ?_
  refine lv_iadd hx hb dL_law_1137 ?_
  refine va_sld hx hb hX hbl hbA hS hi1 dL_law_1138 ?_
  refine lw_callM (As := [.int (xs (Int32.toNatClampNeg (x4 + 1)))]) (rest := []) X (c_X6_goOn l D y am hm) (mp_cw (k := 1) hts mM_L_135 mI_X6_goOn mS_X6_goOn mN_X6 mC_X6_goOn rfl rfl (by decide +kernel) ⟨(Nat.le_of_ble_eq_true rfl), (Nat.le_of_ble_eq_true rfl)⟩) hK hP hD hS hA 0 mwC_0 rfl rfl hl.1 rfl (Nat.le_of_ble_eq_true rfl) dL_law_1139 hroom (fun H locs hP hD hS => ?_)
  refine lv_istore (lv' := [(6, .int r), (5, .int 0), (0, .ref b), (1, .ref (a 0)), (2, .ref (am 0)), (3, .ref (a 45)), (4, .int x4)]) hx hb dL_law_1142 hl (by decide) rfl (fun ls hl => ?_)
  refine lv_aload_n hx hb dL_law_1144 rfl (lv_at hl 4 rfl) ?_
  refine lw_callM (As := []) (rest := []) X (c_X6_thrown l D y am ht0) (mp_cw (k := 0) hts mM_L_79 mI_X6_thrown mS_X6_thrown mN_X6 mC_X6_thrown rfl rfl (by decide +kernel) ⟨(Nat.le_of_ble_eq_true rfl), (Nat.le_of_ble_eq_true rfl)⟩) hK hP hD hS hA 0 mwC_0 rfl rfl hl.1 rfl (Nat.le_of_ble_eq_true rfl) dL_law_1145 hroom (fun H locs hP hD hS => ?_)
  refine lv_iload hx hb dL_law_1148 (lv_at hl 1 rfl) ?_
  refine lv_icmp_eq (tgt := 1155) hx hb dL_law_1150 (by decide) (fun _ => ?_) (fun hc => absurd hth hc)
  refine lv_iload hx hb dL_law_1155 (lv_at hl 1 rfl) ?_
  refine lv_if_ne (tgt := 1179) hx hb dL_law_1157 (by decide) (fun hc => absurd rfl hc) (fun _ => ?_)
  refine lv_aload_n hx hb dL_law_1160 rfl (lv_at hl 5 rfl) ?_
  refine lv_iconst (v := 0) hx hb dL_law_1161 (by decide) ?_
  refine va_lald hx hb hK hP 45 1 rfl rfl (inR_vp (by decide)) dL_law_1162 ?_
  refine W.eq (g2 := F0 m 1163 ls (.long o0 :: [])) (congrArg (fun v => F0 m 1163 ls (.long v :: [])) ho) ?_
  refine lv_iload hx hb dL_law_1163 (lv_at hl 0 rfl) ?_
  refine lv_if_eq (tgt := 1172) hx hb dL_law_1165 (by decide) (fun hc => ?_) (fun hc => ?_)
  · refine lv_lconst (v := 0) hx hb dL_law_1172 (by decide) ?_
    refine W.lcmp hx hb dL_law_1173 ?_
    refine lv_if_eq (tgt := 1179) hx hb dL_law_1174 (by decide) (fun _ => ?_) (fun hc2 => absurd ((lg_cmp_eq _ _).mpr (heq.1 hc)) hc2)
    refine lv_goto (tgt := 1182) hx hb dL_law_1179 (by decide) ?_
    exact kk _ _ _ hP hD hS (lv_sub hl [2, 3, 4, 5, 6] rfl)
  · refine lv_lconst (v := 1) hx hb dL_law_1168 (by decide) ?_
    refine lv_goto (tgt := 1173) hx hb dL_law_1169 (by decide) ?_
    refine W.lcmp hx hb dL_law_1173 ?_
    refine lv_if_eq (tgt := 1179) hx hb dL_law_1174 (by decide) (fun _ => ?_) (fun hc2 => absurd ((lg_cmp_eq _ _).mpr (heq.2 hc)) hc2)
    refine lv_goto (tgt := 1182) hx hb dL_law_1179 (by decide) ?_
    exact kk _ _ _ hP hD hS (lv_sub hl [2, 3, 4, 5, 6] rfl)
set_option maxHeartbeats 4000000 in
set_option maxRecDepth 100000 in
theorem lc_goOn_v1 {p : Program} {e : Env} {s : State} {m : MethodId} {below : List Frame} {meth : Method} {c : Code} {l : Launch} {b L : Nat} {xs : Nat → Int32} {D : va_G} {y : CY} {a am : Nat → Nat} {x z z1 : PD} {x1 : PD} {r : Int32} {th : Int32} {o0 : Int64} {x4 : Int32} {H : Heap} {locs : List Loc} {ls : Array Slot} {cells slots : Nat} {Q : State → Prop} {A : Nat → Prop} (X : mpX p s m #[Value.ref b] meth c code 8 ret RL) (hlt : l.stackTraces = false) (hT : thE A s s.heap) (hK : va_K D vwCl (mpT y) s) (hA : ∀ q, s.heap.size ≤ q → A q) (hX : va_X b L xs s s.heap) (hbl : b < s.heap.size) (hbA : ¬ A b) (hv : (xs (Int32.toNatClampNeg (x4 + 1))) = 1) (hf : f_L_goOn_v1 x = some (0, x1)) (hm : f_X6_goOn z (xs (Int32.toNatClampNeg (x4 + 1))) = some (r, z1)) (ht0 : f_X6_thrown z1 = some th) (hth : th = 0) (ho : rB x1 45 0 = o0) (heq : (r = 0 → o0 = 0) ∧ (¬ r = 0 → o0 = 1)) (hi1 : vp_in (x4 + 1) L) (hroom : cells ≤ room_1.cells ∧ slots ≤ room_1.slots) (hP : va_P D vwCl (pw y a x ++ mw y am z) H) (hD : va_D A (pw y a x ++ mw y am z)) (hS : va_S A s.heap H locs) (hl : lv_has ls 8 [(0, .ref b), (1, .ref (a 0)), (2, .ref (am 0)), (3, .ref (a 45)), (4, .int x4)])
    (kk : ∀ (H : Heap) (locs : List Loc) (ls : Array Slot), va_P D vwCl (pw y a x1 ++ mw y am z1) H → va_D A (pw y a x1 ++ mw y am z1) → va_S A s.heap H locs → lv_has ls 8 [(0, .ref b), (1, .ref (a 0)), (2, .ref (am 0)), (3, .ref (a 45)), (4, .int x4)] → W p l e room_1 s m #[Value.ref b] below meth c H locs cells slots Q (F0 m 1182 ls [])) :
    W p l e room_1 s m #[Value.ref b] below meth c H locs cells slots Q (F0 m 1119 ls []) := by
  obtain ⟨⟨hx, hb, hml, hown, hts⟩, hr, hlk⟩ := id X
  refine lv_aload_n hx hb dL_law_1119 rfl (lv_at hl 1 rfl) ?_
  refine lv_aload_n hx hb dL_law_1120 rfl (lv_at hl 0 rfl) ?_
  refine lv_iload hx hb dL_law_1121 (lv_at hl 4 rfl) ?_
  refine lv_iconst (v := 1) hx hb dL_law_1123 (by decide) ?_
  refine lv_iadd hx hb dL_law_1124 ?_
  refine va_sld hx hb hX hbl hbA hS hi1 dL_law_1125 ?_
  refine lv_aload_n hx hb dL_law_1126 rfl (lv_at hl 3 rfl) ?_
  refine W.eq (g2 := F0 m 1127 ls [.ref (a 45), .int 1, .ref (a 0)]) (by rw [hv]) ?_
  refine lw_callH (As := [.ref (a 0), .int 1, .ref (a 45)]) (rest := []) X (c_L_goOn_v1 l D y a hf) (mp_csH (k := 3) hts mM_L_133 mT_L_goOn mN_L mH_L_goOn rfl rfl (by decide +kernel) ⟨(Nat.le_of_ble_eq_true rfl), (Nat.le_of_ble_eq_true rfl)⟩) hK hP hD hS hA rfl hl.1 rfl (Nat.le_of_ble_eq_true rfl) dL_law_1127 hroom (fun H locs hP hD hS => ?_)
  refine lv_istore (lv' := [(5, .int 0), (0, .ref b), (1, .ref (a 0)), (2, .ref (am 0)), (3, .ref (a 45)), (4, .int x4)]) hx hb dL_law_1130 hl (by decide) rfl (fun ls hl => ?_)
  refine lv_aload_n hx hb dL_law_1132 rfl (lv_at hl 3 rfl) ?_
  refine lv_aload_n hx hb dL_law_1133 rfl (lv_at hl 1 rfl) ?_
  refine lv_iload hx hb dL_law_1134 (lv_at hl 5 rfl) ?_
  refine lv_iconst (v := 1) hx hb dL_law_1136 (by decide) ?_
  refine lv_iadd hx hb dL_law_1137 ?_
  refine va_sld hx hb hX hbl hbA hS hi1 dL_law_1138 ?_
  refine lw_callM (As := [.int (xs (Int32.toNatClampNeg (x4 + 1)))]) (rest := []) X (c_X6_goOn l D y am hm) (mp_cw (k := 1) hts mM_L_135 mI_X6_goOn mS_X6_goOn mN_X6 mC_X6_goOn rfl rfl (by decide +kernel) ⟨(Nat.le_of_ble_eq_true rfl), (Nat.le_of_ble_eq_true rfl)⟩) hK hP hD hS hA 0 mwC_0 rfl rfl hl.1 rfl (Nat.le_of_ble_eq_true rfl) dL_law_1139 hroom (fun H locs hP hD hS => ?_)
  refine lv_istore (lv' := [(6, .int r), (5, .int 0), (0, .ref b), (1, .ref (a 0)), (2, .ref (am 0)), (3, .ref (a 45)), (4, .int x4)]) hx hb dL_law_1142 hl (by decide) rfl (fun ls hl => ?_)
  refine lv_aload_n hx hb dL_law_1144 rfl (lv_at hl 4 rfl) ?_
  refine lw_callM (As := []) (rest := []) X (c_X6_thrown l D y am ht0) (mp_cw (k := 0) hts mM_L_79 mI_X6_thrown mS_X6_thrown mN_X6 mC_X6_thrown rfl rfl (by decide +kernel) ⟨(Nat.le_of_ble_eq_true rfl), (Nat.le_of_ble_eq_true rfl)⟩) hK hP hD hS hA 0 mwC_0 rfl rfl hl.1 rfl (Nat.le_of_ble_eq_true rfl) dL_law_1145 hroom (fun H locs hP hD hS => ?_)
  refine lv_iload hx hb dL_law_1148 (lv_at hl 1 rfl) ?_
  refine lv_icmp_eq (tgt := 1155) hx hb dL_law_1150 (by decide) (fun _ => ?_) (fun hc => absurd hth hc)
  refine lv_iload hx hb dL_law_1155 (lv_at hl 1 rfl) ?_
  refine lv_if_ne (tgt := 1179) hx hb dL_law_1157 (by decide) (fun hc => absurd rfl hc) (fun _ => ?_)
  refine lv_aload_n hx hb dL_law_1160 rfl (lv_at hl 5 rfl) ?_
  refine lv_iconst (v := 0) hx hb dL_law_1161 (by decide) ?_
  refine va_lald hx hb hK hP 45 1 rfl rfl (inR_vp (by decide)) dL_law_1162 ?_
  refine W.eq (g2 := F0 m 1163 ls (.long o0 :: [])) (congrArg (fun v => F0 m 1163 ls (.long v :: [])) ho) ?_
  refine lv_iload hx hb dL_law_1163 (lv_at hl 0 rfl) ?_
  refine lv_if_eq (tgt := 1172) hx hb dL_law_1165 (by decide) (fun hc => ?_) (fun hc => ?_)
  · refine lv_lconst (v := 0) hx hb dL_law_1172 (by decide) ?_
    refine W.lcmp hx hb dL_law_1173 ?_
    refine lv_if_eq (tgt := 1179) hx hb dL_law_1174 (by decide) (fun _ => ?_) (fun hc2 => absurd ((lg_cmp_eq _ _).mpr (heq.1 hc)) hc2)
    refine lv_goto (tgt := 1182) hx hb dL_law_1179 (by decide) ?_
    exact kk _ _ _ hP hD hS (lv_sub hl [2, 3, 4, 5, 6] rfl)
  · refine lv_lconst (v := 1) hx hb dL_law_1168 (by decide) ?_
    refine lv_goto (tgt := 1173) hx hb dL_law_1169 (by decide) ?_
    refine W.lcmp hx hb dL_law_1173 ?_
    refine lv_if_eq (tgt := 1179) hx hb dL_law_1174 (by decide) (fun _ => ?_) (fun hc2 => absurd ((lg_cmp_eq _ _).mpr (heq.2 hc)) hc2)
    refine lv_goto (tgt := 1182) hx hb dL_law_1179 (by decide) ?_
    exact kk _ _ _ hP hD hS (lv_sub hl [2, 3, 4, 5, 6] rfl)
set_option maxHeartbeats 4000000 in
set_option maxRecDepth 100000 in
theorem lc_goOn_v2 {p : Program} {e : Env} {s : State} {m : MethodId} {below : List Frame} {meth : Method} {c : Code} {l : Launch} {b L : Nat} {xs : Nat → Int32} {D : va_G} {y : CY} {a am : Nat → Nat} {x z z1 : PD} {x1 : PD} {r : Int32} {th : Int32} {o0 : Int64} {x4 : Int32} {H : Heap} {locs : List Loc} {ls : Array Slot} {cells slots : Nat} {Q : State → Prop} {A : Nat → Prop} (X : mpX p s m #[Value.ref b] meth c code 8 ret RL) (hlt : l.stackTraces = false) (hT : thE A s s.heap) (hK : va_K D vwCl (mpT y) s) (hA : ∀ q, s.heap.size ≤ q → A q) (hX : va_X b L xs s s.heap) (hbl : b < s.heap.size) (hbA : ¬ A b) (hv : (xs (Int32.toNatClampNeg (x4 + 1))) = 2) (hf : f_L_goOn_v2 x = some (0, x1)) (hm : f_X6_goOn z (xs (Int32.toNatClampNeg (x4 + 1))) = some (r, z1)) (ht0 : f_X6_thrown z1 = some th) (hth : th = 0) (ho : rB x1 45 0 = o0) (heq : (r = 0 → o0 = 0) ∧ (¬ r = 0 → o0 = 1)) (hi1 : vp_in (x4 + 1) L) (hroom : cells ≤ room_1.cells ∧ slots ≤ room_1.slots) (hP : va_P D vwCl (pw y a x ++ mw y am z) H) (hD : va_D A (pw y a x ++ mw y am z)) (hS : va_S A s.heap H locs) (hl : lv_has ls 8 [(0, .ref b), (1, .ref (a 0)), (2, .ref (am 0)), (3, .ref (a 45)), (4, .int x4)])
    (kk : ∀ (H : Heap) (locs : List Loc) (ls : Array Slot), va_P D vwCl (pw y a x1 ++ mw y am z1) H → va_D A (pw y a x1 ++ mw y am z1) → va_S A s.heap H locs → lv_has ls 8 [(0, .ref b), (1, .ref (a 0)), (2, .ref (am 0)), (3, .ref (a 45)), (4, .int x4)] → W p l e room_1 s m #[Value.ref b] below meth c H locs cells slots Q (F0 m 1182 ls [])) :
    W p l e room_1 s m #[Value.ref b] below meth c H locs cells slots Q (F0 m 1119 ls []) := by
  obtain ⟨⟨hx, hb, hml, hown, hts⟩, hr, hlk⟩ := id X
  refine lv_aload_n hx hb dL_law_1119 rfl (lv_at hl 1 rfl) ?_
  refine lv_aload_n hx hb dL_law_1120 rfl (lv_at hl 0 rfl) ?_
  refine lv_iload hx hb dL_law_1121 (lv_at hl 4 rfl) ?_
  refine lv_iconst (v := 1) hx hb dL_law_1123 (by decide) ?_
  refine lv_iadd hx hb dL_law_1124 ?_
  refine va_sld hx hb hX hbl hbA hS hi1 dL_law_1125 ?_
  refine lv_aload_n hx hb dL_law_1126 rfl (lv_at hl 3 rfl) ?_
  refine W.eq (g2 := F0 m 1127 ls [.ref (a 45), .int 2, .ref (a 0)]) (by rw [hv]) ?_
  refine lw_callH (As := [.ref (a 0), .int 2, .ref (a 45)]) (rest := []) X (c_L_goOn_v2 l D y a hf) (mp_csH (k := 3) hts mM_L_133 mT_L_goOn mN_L mH_L_goOn rfl rfl (by decide +kernel) ⟨(Nat.le_of_ble_eq_true rfl), (Nat.le_of_ble_eq_true rfl)⟩) hK hP hD hS hA rfl hl.1 rfl (Nat.le_of_ble_eq_true rfl) dL_law_1127 hroom (fun H locs hP hD hS => ?_)
  refine lv_istore (lv' := [(5, .int 0), (0, .ref b), (1, .ref (a 0)), (2, .ref (am 0)), (3, .ref (a 45)), (4, .int x4)]) hx hb dL_law_1130 hl (by decide) rfl (fun ls hl => ?_)
  refine lv_aload_n hx hb dL_law_1132 rfl (lv_at hl 3 rfl) ?_
  refine lv_aload_n hx hb dL_law_1133 rfl (lv_at hl 1 rfl) ?_
  refine lv_iload hx hb dL_law_1134 (lv_at hl 5 rfl) ?_
  refine lv_iconst (v := 1) hx hb dL_law_1136 (by decide) ?_
  refine lv_iadd hx hb dL_law_1137 ?_
  refine va_sld hx hb hX hbl hbA hS hi1 dL_law_1138 ?_
  refine lw_callM (As := [.int (xs (Int32.toNatClampNeg (x4 + 1)))]) (rest := []) X (c_X6_goOn l D y am hm) (mp_cw (k := 1) hts mM_L_135 mI_X6_goOn mS_X6_goOn mN_X6 mC_X6_goOn rfl rfl (by decide +kernel) ⟨(Nat.le_of_ble_eq_true rfl), (Nat.le_of_ble_eq_true rfl)⟩) hK hP hD hS hA 0 mwC_0 rfl rfl hl.1 rfl (Nat.le_of_ble_eq_true rfl) dL_law_1139 hroom (fun H locs hP hD hS => ?_)
  refine lv_istore (lv' := [(6, .int r), (5, .int 0), (0, .ref b), (1, .ref (a 0)), (2, .ref (am 0)), (3, .ref (a 45)), (4, .int x4)]) hx hb dL_law_1142 hl (by decide) rfl (fun ls hl => ?_)
  refine lv_aload_n hx hb dL_law_1144 rfl (lv_at hl 4 rfl) ?_
  refine lw_callM (As := []) (rest := []) X (c_X6_thrown l D y am ht0) (mp_cw (k := 0) hts mM_L_79 mI_X6_thrown mS_X6_thrown mN_X6 mC_X6_thrown rfl rfl (by decide +kernel) ⟨(Nat.le_of_ble_eq_true rfl), (Nat.le_of_ble_eq_true rfl)⟩) hK hP hD hS hA 0 mwC_0 rfl rfl hl.1 rfl (Nat.le_of_ble_eq_true rfl) dL_law_1145 hroom (fun H locs hP hD hS => ?_)
  refine lv_iload hx hb dL_law_1148 (lv_at hl 1 rfl) ?_
  refine lv_icmp_eq (tgt := 1155) hx hb dL_law_1150 (by decide) (fun _ => ?_) (fun hc => absurd hth hc)
  refine lv_iload hx hb dL_law_1155 (lv_at hl 1 rfl) ?_
  refine lv_if_ne (tgt := 1179) hx hb dL_law_1157 (by decide) (fun hc => absurd rfl hc) (fun _ => ?_)
  refine lv_aload_n hx hb dL_law_1160 rfl (lv_at hl 5 rfl) ?_
  refine lv_iconst (v := 0) hx hb dL_law_1161 (by decide) ?_
  refine va_lald hx hb hK hP 45 1 rfl rfl (inR_vp (by decide)) dL_law_1162 ?_
  refine W.eq (g2 := F0 m 1163 ls (.long o0 :: [])) (congrArg (fun v => F0 m 1163 ls (.long v :: [])) ho) ?_
  refine lv_iload hx hb dL_law_1163 (lv_at hl 0 rfl) ?_
  refine lv_if_eq (tgt := 1172) hx hb dL_law_1165 (by decide) (fun hc => ?_) (fun hc => ?_)
  · refine lv_lconst (v := 0) hx hb dL_law_1172 (by decide) ?_
    refine W.lcmp hx hb dL_law_1173 ?_
    refine lv_if_eq (tgt := 1179) hx hb dL_law_1174 (by decide) (fun _ => ?_) (fun hc2 => absurd ((lg_cmp_eq _ _).mpr (heq.1 hc)) hc2)
    refine lv_goto (tgt := 1182) hx hb dL_law_1179 (by decide) ?_
    exact kk _ _ _ hP hD hS (lv_sub hl [2, 3, 4, 5, 6] rfl)
  · refine lv_lconst (v := 1) hx hb dL_law_1168 (by decide) ?_
    refine lv_goto (tgt := 1173) hx hb dL_law_1169 (by decide) ?_
    refine W.lcmp hx hb dL_law_1173 ?_
    refine lv_if_eq (tgt := 1179) hx hb dL_law_1174 (by decide) (fun _ => ?_) (fun hc2 => absurd ((lg_cmp_eq _ _).mpr (heq.2 hc)) hc2)
    refine lv_goto (tgt := 1182) hx hb dL_law_1179 (by decide) ?_
    exact kk _ _ _ hP hD hS (lv_sub hl [2, 3, 4, 5, 6] rfl)
set_option maxHeartbeats 4000000 in
set_option maxRecDepth 100000 in
theorem lc_goOn_v3 {p : Program} {e : Env} {s : State} {m : MethodId} {below : List Frame} {meth : Method} {c : Code} {l : Launch} {b L : Nat} {xs : Nat → Int32} {D : va_G} {y : CY} {a am : Nat → Nat} {x z z1 : PD} {x1 : PD} {r : Int32} {th : Int32} {o0 : Int64} {x4 : Int32} {H : Heap} {locs : List Loc} {ls : Array Slot} {cells slots : Nat} {Q : State → Prop} {A : Nat → Prop} (X : mpX p s m #[Value.ref b] meth c code 8 ret RL) (hlt : l.stackTraces = false) (hT : thE A s s.heap) (hK : va_K D vwCl (mpT y) s) (hA : ∀ q, s.heap.size ≤ q → A q) (hX : va_X b L xs s s.heap) (hbl : b < s.heap.size) (hbA : ¬ A b) (hv : (xs (Int32.toNatClampNeg (x4 + 1))) = 3) (hf : f_L_goOn_v3 x = some (0, x1)) (hm : f_X6_goOn z (xs (Int32.toNatClampNeg (x4 + 1))) = some (r, z1)) (ht0 : f_X6_thrown z1 = some th) (hth : th = 0) (ho : rB x1 45 0 = o0) (heq : (r = 0 → o0 = 0) ∧ (¬ r = 0 → o0 = 1)) (hi1 : vp_in (x4 + 1) L) (hroom : cells ≤ room_1.cells ∧ slots ≤ room_1.slots) (hP : va_P D vwCl (pw y a x ++ mw y am z) H) (hD : va_D A (pw y a x ++ mw y am z)) (hS : va_S A s.heap H locs) (hl : lv_has ls 8 [(0, .ref b), (1, .ref (a 0)), (2, .ref (am 0)), (3, .ref (a 45)), (4, .int x4)])
    (kk : ∀ (H : Heap) (locs : List Loc) (ls : Array Slot), va_P D vwCl (pw y a x1 ++ mw y am z1) H → va_D A (pw y a x1 ++ mw y am z1) → va_S A s.heap H locs → lv_has ls 8 [(0, .ref b), (1, .ref (a 0)), (2, .ref (am 0)), (3, .ref (a 45)), (4, .int x4)] → W p l e room_1 s m #[Value.ref b] below meth c H locs cells slots Q (F0 m 1182 ls [])) :
    W p l e room_1 s m #[Value.ref b] below meth c H locs cells slots Q (F0 m 1119 ls []) := by
  obtain ⟨⟨hx, hb, hml, hown, hts⟩, hr, hlk⟩ := id X
  refine lv_aload_n hx hb dL_law_1119 rfl (lv_at hl 1 rfl) ?_
  refine lv_aload_n hx hb dL_law_1120 rfl (lv_at hl 0 rfl) ?_
  refine lv_iload hx hb dL_law_1121 (lv_at hl 4 rfl) ?_
  refine lv_iconst (v := 1) hx hb dL_law_1123 (by decide) ?_
  refine lv_iadd hx hb dL_law_1124 ?_
  refine va_sld hx hb hX hbl hbA hS hi1 dL_law_1125 ?_
  refine lv_aload_n hx hb dL_law_1126 rfl (lv_at hl 3 rfl) ?_
  refine W.eq (g2 := F0 m 1127 ls [.ref (a 45), .int 3, .ref (a 0)]) (by rw [hv]) ?_
  refine lw_callH (As := [.ref (a 0), .int 3, .ref (a 45)]) (rest := []) X (c_L_goOn_v3 l D y a hf) (mp_csH (k := 3) hts mM_L_133 mT_L_goOn mN_L mH_L_goOn rfl rfl (by decide +kernel) ⟨(Nat.le_of_ble_eq_true rfl), (Nat.le_of_ble_eq_true rfl)⟩) hK hP hD hS hA rfl hl.1 rfl (Nat.le_of_ble_eq_true rfl) dL_law_1127 hroom (fun H locs hP hD hS => ?_)
  refine lv_istore (lv' := [(5, .int 0), (0, .ref b), (1, .ref (a 0)), (2, .ref (am 0)), (3, .ref (a 45)), (4, .int x4)]) hx hb dL_law_1130 hl (by decide) rfl (fun ls hl => ?_)
  refine lv_aload_n hx hb dL_law_1132 rfl (lv_at hl 3 rfl) ?_
  refine lv_aload_n hx hb dL_law_1133 rfl (lv_at hl 1 rfl) ?_
  refine lv_iload hx hb dL_law_1134 (lv_at hl 5 rfl) ?_
  refine lv_iconst (v := 1) hx hb dL_law_1136 (by decide) ?_
  refine lv_iadd hx hb dL_law_1137 ?_
  refine va_sld hx hb hX hbl hbA hS hi1 dL_law_1138 ?_
  refine lw_callM (As := [.int (xs (Int32.toNatClampNeg (x4 + 1)))]) (rest := []) X (c_X6_goOn l D y am hm) (mp_cw (k := 1) hts mM_L_135 mI_X6_goOn mS_X6_goOn mN_X6 mC_X6_goOn rfl rfl (by decide +kernel) ⟨(Nat.le_of_ble_eq_true rfl), (Nat.le_of_ble_eq_true rfl)⟩) hK hP hD hS hA 0 mwC_0 rfl rfl hl.1 rfl (Nat.le_of_ble_eq_true rfl) dL_law_1139 hroom (fun H locs hP hD hS => ?_)
  refine lv_istore (lv' := [(6, .int r), (5, .int 0), (0, .ref b), (1, .ref (a 0)), (2, .ref (am 0)), (3, .ref (a 45)), (4, .int x4)]) hx hb dL_law_1142 hl (by decide) rfl (fun ls hl => ?_)
  refine lv_aload_n hx hb dL_law_1144 rfl (lv_at hl 4 rfl) ?_
  refine lw_callM (As := []) (rest := []) X (c_X6_thrown l D y am ht0) (mp_cw (k := 0) hts mM_L_79 mI_X6_thrown mS_X6_thrown mN_X6 mC_X6_thrown rfl rfl (by decide +kernel) ⟨(Nat.le_of_ble_eq_true rfl), (Nat.le_of_ble_eq_true rfl)⟩) hK hP hD hS hA 0 mwC_0 rfl rfl hl.1 rfl (Nat.le_of_ble_eq_true rfl) dL_law_1145 hroom (fun H locs hP hD hS => ?_)
  refine lv_iload hx hb dL_law_1148 (lv_at hl 1 rfl) ?_
  refine lv_icmp_eq (tgt := 1155) hx hb dL_law_1150 (by decide) (fun _ => ?_) (fun hc => absurd hth hc)
  refine lv_iload hx hb dL_law_1155 (lv_at hl 1 rfl) ?_
  refine lv_if_ne (tgt := 1179) hx hb dL_law_1157 (by decide) (fun hc => absurd rfl hc) (fun _ => ?_)
  refine lv_aload_n hx hb dL_law_1160 rfl (lv_at hl 5 rfl) ?_
  refine lv_iconst (v := 0) hx hb dL_law_1161 (by decide) ?_
  refine va_lald hx hb hK hP 45 1 rfl rfl (inR_vp (by decide)) dL_law_1162 ?_
  refine W.eq (g2 := F0 m 1163 ls (.long o0 :: [])) (congrArg (fun v => F0 m 1163 ls (.long v :: [])) ho) ?_
  refine lv_iload hx hb dL_law_1163 (lv_at hl 0 rfl) ?_
  refine lv_if_eq (tgt := 1172) hx hb dL_law_1165 (by decide) (fun hc => ?_) (fun hc => ?_)
  · refine lv_lconst (v := 0) hx hb dL_law_1172 (by decide) ?_
    refine W.lcmp hx hb dL_law_1173 ?_
    refine lv_if_eq (tgt := 1179) hx hb dL_law_1174 (by decide) (fun _ => ?_) (fun hc2 => absurd ((lg_cmp_eq _ _).mpr (heq.1 hc)) hc2)
    refine lv_goto (tgt := 1182) hx hb dL_law_1179 (by decide) ?_
    exact kk _ _ _ hP hD hS (lv_sub hl [2, 3, 4, 5, 6] rfl)
  · refine lv_lconst (v := 1) hx hb dL_law_1168 (by decide) ?_
    refine lv_goto (tgt := 1173) hx hb dL_law_1169 (by decide) ?_
    refine W.lcmp hx hb dL_law_1173 ?_
    refine lv_if_eq (tgt := 1179) hx hb dL_law_1174 (by decide) (fun _ => ?_) (fun hc2 => absurd ((lg_cmp_eq _ _).mpr (heq.2 hc)) hc2)
    refine lv_goto (tgt := 1182) hx hb dL_law_1179 (by decide) ?_
    exact kk _ _ _ hP hD hS (lv_sub hl [2, 3, 4, 5, 6] rfl)
set_option maxHeartbeats 4000000 in
set_option maxRecDepth 100000 in
theorem lc_goOn_t2 {p : Program} {e : Env} {s : State} {m : MethodId} {below : List Frame} {meth : Method} {c : Code} {l : Launch} {b L : Nat} {xs : Nat → Int32} {D : va_G} {y : CY} {a am : Nat → Nat} {x z z1 : PD} {r : Int32} {th : Int32} {x4 : Int32} {H : Heap} {locs : List Loc} {ls : Array Slot} {cells slots : Nat} {Q : State → Prop} {A : Nat → Prop} (X : mpX p s m #[Value.ref b] meth c code 8 ret RL) (hlt : l.stackTraces = false) (hT : thE A s s.heap) (hK : va_K D vwCl (mpT y) s) (hA : ∀ q, s.heap.size ≤ q → A q) (hX : va_X b L xs s s.heap) (hbl : b < s.heap.size) (hbA : ¬ A b) (hf : g_X5_goOn x (xs (Int32.toNatClampNeg (x4 + 1))) = some 2) (hm : f_X6_goOn z (xs (Int32.toNatClampNeg (x4 + 1))) = some (r, z1)) (ht0 : f_X6_thrown z1 = some th) (hth : th = 1) (hi1 : vp_in (x4 + 1) L) (hroom : cells + 1 ≤ room_1.cells ∧ slots + 6 ≤ room_1.slots) (hP : va_P D vwCl (pw y a x ++ mw y am z) H) (hD : va_D A (pw y a x ++ mw y am z)) (hS : va_S A s.heap H locs) (hl : lv_has ls 8 [(0, .ref b), (1, .ref (a 0)), (2, .ref (am 0)), (3, .ref (a 45)), (4, .int x4)])
    (kk : ∀ (H : Heap) (locs : List Loc) (ls : Array Slot), va_P D vwCl (pw y a x ++ mw y am z1) H → va_D A (pw y a x ++ mw y am z1) → va_S A s.heap H locs → lv_has ls 8 [(0, .ref b), (1, .ref (a 0)), (2, .ref (am 0)), (3, .ref (a 45)), (4, .int x4)] → W p l e room_1 s m #[Value.ref b] below meth c H locs (cells + 1) (slots + 6) Q (F0 m 1182 ls [])) :
    W p l e room_1 s m #[Value.ref b] below meth c H locs cells slots Q (F0 m 1119 ls []) := by
  obtain ⟨⟨hx, hb, hml, hown, hts⟩, hr, hlk⟩ := id X
  have hroom2 := hroom
  refine lv_aload_n hx hb dL_law_1119 rfl (lv_at hl 1 rfl) ?_
  refine lv_aload_n hx hb dL_law_1120 rfl (lv_at hl 0 rfl) ?_
  refine lv_iload hx hb dL_law_1121 (lv_at hl 4 rfl) ?_
  refine lv_iconst (v := 1) hx hb dL_law_1123 (by decide) ?_
  refine lv_iadd hx hb dL_law_1124 ?_
  refine va_sld hx hb hX hbl hbA hS hi1 dL_law_1125 ?_
  refine lv_aload_n hx hb dL_law_1126 rfl (lv_at hl 3 rfl) ?_
  refine lw_callT (As := [.ref (a 0), .int (xs (Int32.toNatClampNeg (x4 + 1))), .ref (a 45)]) (rest := []) X hT (th_L_goOn_2 l hlt D y a hf) (mp_csH (k := 3) hts mM_L_133 mT_L_goOn mN_L mH_L_goOn rfl rfl (by decide +kernel) ⟨(Nat.le_of_ble_eq_true rfl), (Nat.le_of_ble_eq_true rfl)⟩) hK hP hD hS hA rfl hl.1 rfl (Nat.le_of_ble_eq_true rfl) dL_law_1127 hroom (fun H locs hP hD hS => ?_)
  refine lv_istore (lv' := [(5, .int 1), (0, .ref b), (1, .ref (a 0)), (2, .ref (am 0)), (3, .ref (a 45)), (4, .int x4)]) hx hb dL_law_1130 hl (by decide) rfl (fun ls hl => ?_)
  refine lv_aload_n hx hb dL_law_1132 rfl (lv_at hl 3 rfl) ?_
  refine lv_aload_n hx hb dL_law_1133 rfl (lv_at hl 1 rfl) ?_
  refine lv_iload hx hb dL_law_1134 (lv_at hl 5 rfl) ?_
  refine lv_iconst (v := 1) hx hb dL_law_1136 (by decide) ?_
  refine lv_iadd hx hb dL_law_1137 ?_
  refine va_sld hx hb hX hbl hbA hS hi1 dL_law_1138 ?_
  refine lw_callM (As := [.int (xs (Int32.toNatClampNeg (x4 + 1)))]) (rest := []) X (c_X6_goOn l D y am hm) (mp_cw (k := 1) hts mM_L_135 mI_X6_goOn mS_X6_goOn mN_X6 mC_X6_goOn rfl rfl (by decide +kernel) ⟨(Nat.le_of_ble_eq_true rfl), (Nat.le_of_ble_eq_true rfl)⟩) hK hP hD hS hA 0 mwC_0 rfl rfl hl.1 rfl (Nat.le_of_ble_eq_true rfl) dL_law_1139 hroom2 (fun H locs hP hD hS => ?_)
  refine lv_istore (lv' := [(6, .int r), (5, .int 1), (0, .ref b), (1, .ref (a 0)), (2, .ref (am 0)), (3, .ref (a 45)), (4, .int x4)]) hx hb dL_law_1142 hl (by decide) rfl (fun ls hl => ?_)
  refine lv_aload_n hx hb dL_law_1144 rfl (lv_at hl 4 rfl) ?_
  refine lw_callM (As := []) (rest := []) X (c_X6_thrown l D y am ht0) (mp_cw (k := 0) hts mM_L_79 mI_X6_thrown mS_X6_thrown mN_X6 mC_X6_thrown rfl rfl (by decide +kernel) ⟨(Nat.le_of_ble_eq_true rfl), (Nat.le_of_ble_eq_true rfl)⟩) hK hP hD hS hA 0 mwC_0 rfl rfl hl.1 rfl (Nat.le_of_ble_eq_true rfl) dL_law_1145 hroom2 (fun H locs hP hD hS => ?_)
  refine lv_iload hx hb dL_law_1148 (lv_at hl 1 rfl) ?_
  refine lv_icmp_eq (tgt := 1155) hx hb dL_law_1150 (by decide) (fun _ => ?_) (fun hc => absurd hth hc)
  refine lv_iload hx hb dL_law_1155 (lv_at hl 1 rfl) ?_
  refine lv_if_ne (tgt := 1179) hx hb dL_law_1157 (by decide) (fun _ => ?_) (fun hc => absurd hc (by decide))
  refine lv_goto (tgt := 1182) hx hb dL_law_1179 (by decide) ?_
  exact kk _ _ _ hP hD hS (lv_sub hl [2, 3, 4, 5, 6] rfl)
