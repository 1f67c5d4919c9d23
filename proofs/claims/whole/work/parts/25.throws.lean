def g_X5_checkPiece (x : PD) (p1 : Int32) : Option Nat :=
  bn1 (f_X2_isPiece x p1) fun r1 =>
  if r1 = 0 then
  some 1
  else
  none
set_option maxHeartbeats 4000000 in
set_option maxRecDepth 100000 in
theorem t_X5_checkPiece (l : Launch) (hlt : l.stackTraces = false) (D : va_G) (y : CY) (a : Nat → Nat) {x : PD} {e0 : Nat} {p1 : Int32} (h : g_X5_checkPiece x p1 = some e0) : mpTM l D y yX5_checkPiece cX5_checkPiece 2 none { frames := 6, cells := 1, slots := 6, locals := 90 } (pw y a x) [.ref (a 0), .int p1] e0 := by
  refine mpTM.mk (own := RX5) (by decide) rfl (Nat.le_of_ble_eq_true rfl) ?_
  intro p e s m below meth c A ls X ht hT hK hA hP hD hl
  have hS : va_S A s.heap s.heap [] := va_S.rf
  obtain ⟨⟨hx, hb, hml, hown, hts⟩, hr, hlk⟩ := id X
  have hl : lv_has ls 2 [(0, .ref (a 0)), (1, .int p1)] := hl
  unfold g_X5_checkPiece at h
  refine lv_aload_n hx hb dX5_checkPiece_0 rfl (lv_at hl 0 rfl) ?_
  refine pwG_0_0 X hK hP mF_X5_12 dX5_checkPiece_1 ?_
  refine lv_iload_n hx hb dX5_checkPiece_4 rfl (lv_at hl 1 rfl) ?_
  obtain ⟨r1, hr0, h⟩ := bn1_elim h
  refine mp_call1 (As := [.int p1]) (rest := []) X (c_X2_isPiece l D y a hr0) (mp_cw (k := 1) hts mM_X5_227 mI_X2_isPiece mS_X2_isPiece mN_X2 mC_X2_isPiece rfl rfl (by decide +kernel) ⟨Nat.le_of_ble_eq_true rfl, Nat.le_of_ble_eq_true rfl⟩) hK hP hD hS hA 1 pwC_1 rfl rfl hl.1 rfl (Nat.le_of_ble_eq_true rfl) dX5_checkPiece_5 ⟨Nat.zero_le _, Nat.zero_le _⟩ (fun H locs hP hD hS => ?_)
  refine lv_if_ne (tgt := 21) hx hb dX5_checkPiece_8 (by decide) (fun hc => ?_) (fun hc => ?_)
  · replace h := iff_ hc h
    exact nons h
  · replace h := ift hc h
    cases h
    exact mp_throwN X hlt ht hT hK hP hS (k := 230) (List.mem_of_getElem? (i := 5) rfl) hl.1 dX5_checkPiece_11 dX5_checkPiece_14 dX5_checkPiece_15 dX5_checkPiece_17 dX5_checkPiece_20 ⟨Nat.le_of_ble_eq_true rfl, Nat.le_of_ble_eq_true rfl, Nat.le_of_ble_eq_true rfl, Nat.le_of_ble_eq_true rfl⟩
def g_X5_joint (x : PD) (p1 : Int32) (p2 : Int32) (p3 : Int32) (p4 : Int32) : Option Nat :=
  orT (g_X5_checkPiece x p1) (bn1 (f_X5_checkPiece x p1) fun _u =>
  g_X5_checkPiece x p3)
set_option maxHeartbeats 4000000 in
set_option maxRecDepth 100000 in
theorem t_X5_joint (l : Launch) (hlt : l.stackTraces = false) (D : va_G) (y : CY) (a : Nat → Nat) {x : PD} {e0 : Nat} {p1 : Int32} {p2 : Int32} {p3 : Int32} {p4 : Int32} (h : g_X5_joint x p1 p2 p3 p4 = some e0) : mpTM l D y yX5_joint cX5_joint 6 (some .int) { frames := 7, cells := 1, slots := 6, locals := 111 } (pw y a x) [.ref (a 0), .int p1, .int p2, .int p3, .int p4] e0 := by
  refine mpTM.mk (own := RX5) (by decide) rfl (Nat.le_of_ble_eq_true rfl) ?_
  intro p e s m below meth c A ls X ht hT hK hA hP hD hl
  have hS : va_S A s.heap s.heap [] := va_S.rf
  obtain ⟨⟨hx, hb, hml, hown, hts⟩, hr, hlk⟩ := id X
  have hl : lv_has ls 6 [(0, .ref (a 0)), (1, .int p1), (2, .int p2), (3, .int p3), (4, .int p4)] := hl
  unfold g_X5_joint at h
  refine lv_aload_n hx hb dX5_joint_0 rfl (lv_at hl 0 rfl) ?_
  refine lv_iload_n hx hb dX5_joint_1 rfl (lv_at hl 1 rfl) ?_
  rcases orT_elim h with h | ⟨-, h⟩
  · exact mp_tcall (As := [.int p1]) (rest := []) X ht hT (t_X5_checkPiece l hlt D y a h) (mp_cwT (k := 1) hts mM_X5_59 mI_X5_checkPiece mS_X5_checkPiece mN_X5 mC_X5_checkPiece rfl rfl (by decide +kernel) ⟨Nat.le_of_ble_eq_true rfl, Nat.le_of_ble_eq_true rfl⟩) hK hP hD hS hA 0 pwC_0 rfl rfl hl.1 rfl (Nat.le_of_ble_eq_true rfl) dX5_joint_2 ⟨Nat.le_of_ble_eq_true rfl, Nat.le_of_ble_eq_true rfl⟩
  · obtain ⟨u0, hr0, h⟩ := bn1_elim h
    refine mp_callv (As := [.int p1]) (rest := []) X (c_X5_checkPiece l D y a hr0) (mp_cw (k := 1) hts mM_X5_59 mI_X5_checkPiece mS_X5_checkPiece mN_X5 mC_X5_checkPiece rfl rfl (by decide +kernel) ⟨Nat.le_of_ble_eq_true rfl, Nat.le_of_ble_eq_true rfl⟩) hK hP hD hS hA 0 pwC_0 rfl rfl hl.1 rfl (Nat.le_of_ble_eq_true rfl) dX5_joint_2 ⟨Nat.zero_le _, Nat.zero_le _⟩ (fun H locs hP hD hS => ?_)
    refine lv_aload_n hx hb dX5_joint_5 rfl (lv_at hl 0 rfl) ?_
    refine lv_iload_n hx hb dX5_joint_6 rfl (lv_at hl 3 rfl) ?_
    exact mp_tcall (As := [.int p3]) (rest := []) X ht hT (t_X5_checkPiece l hlt D y a h) (mp_cwT (k := 1) hts mM_X5_59 mI_X5_checkPiece mS_X5_checkPiece mN_X5 mC_X5_checkPiece rfl rfl (by decide +kernel) ⟨Nat.le_of_ble_eq_true rfl, Nat.le_of_ble_eq_true rfl⟩) hK hP hD hS hA 0 pwC_0 rfl rfl hl.1 rfl (Nat.le_of_ble_eq_true rfl) dX5_joint_7 ⟨Nat.le_of_ble_eq_true rfl, Nat.le_of_ble_eq_true rfl⟩
def g_X5_price (x : PD) (p1 : Int32) (p2 : Int32) : Option Nat :=
  if p1 < 0 then
  (some 2)
  else
  if ((2 : Int32)) ≤ p1 then
  (some 2)
  else
  if p2 < 0 then
  (some 2)
  else
  if p2 ≤ ((99 : Int32)) then
  (none)
  else
  some 2
set_option maxHeartbeats 4000000 in
set_option maxRecDepth 100000 in
theorem t_X5_price (l : Launch) (hlt : l.stackTraces = false) (D : va_G) (y : CY) (a : Nat → Nat) {x : PD} {e0 : Nat} {p1 : Int32} {p2 : Int32} (h : g_X5_price x p1 p2 = some e0) : mpTM l D y yX5_price cX5_price 4 (some .int) { frames := 6, cells := 1, slots := 6, locals := 90 } (pw y a x) [.ref (a 0), .int p1, .int p2] e0 := by
  refine mpTM.mk (own := RX5) (by decide) rfl (Nat.le_of_ble_eq_true rfl) ?_
  intro p e s m below meth c A ls X ht hT hK hA hP hD hl
  have hS : va_S A s.heap s.heap [] := va_S.rf
  obtain ⟨⟨hx, hb, hml, hown, hts⟩, hr, hlk⟩ := id X
  have hl : lv_has ls 4 [(0, .ref (a 0)), (1, .int p1), (2, .int p2)] := hl
  unfold g_X5_price at h
  refine lv_iload_n hx hb dX5_price_0 rfl (lv_at hl 1 rfl) ?_
  refine lv_if_lt (tgt := 19) hx hb dX5_price_1 (by decide) (fun hc => ?_) (fun hc => ?_)
  · replace h := ift hc h
    cases h
    exact mp_throwI X hlt ht hT hK hP hS (k := 69) (List.mem_of_getElem? (i := 0) rfl) hl.1 dX5_price_19 dX5_price_22 dX5_price_23 dX5_price_25 dX5_price_28 ⟨Nat.le_of_ble_eq_true rfl, Nat.le_of_ble_eq_true rfl, Nat.le_of_ble_eq_true rfl, Nat.le_of_ble_eq_true rfl⟩
  · replace h := iff_ hc h
    refine lv_iload_n hx hb dX5_price_4 rfl (lv_at hl 1 rfl) ?_
    refine lv_iconst (v := 2) hx hb dX5_price_5 (by decide) ?_
    refine lv_icmp_ge (tgt := 19) hx hb dX5_price_6 (by decide) (fun hc => ?_) (fun hc => ?_)
    · replace h := ift hc h
      cases h
      exact mp_throwI X hlt ht hT hK hP hS (k := 69) (List.mem_of_getElem? (i := 0) rfl) hl.1 dX5_price_19 dX5_price_22 dX5_price_23 dX5_price_25 dX5_price_28 ⟨Nat.le_of_ble_eq_true rfl, Nat.le_of_ble_eq_true rfl, Nat.le_of_ble_eq_true rfl, Nat.le_of_ble_eq_true rfl⟩
    · replace h := iff_ hc h
      refine lv_iload_n hx hb dX5_price_9 rfl (lv_at hl 2 rfl) ?_
      refine lv_if_lt (tgt := 19) hx hb dX5_price_10 (by decide) (fun hc => ?_) (fun hc => ?_)
      · replace h := ift hc h
        cases h
        exact mp_throwI X hlt ht hT hK hP hS (k := 69) (List.mem_of_getElem? (i := 0) rfl) hl.1 dX5_price_19 dX5_price_22 dX5_price_23 dX5_price_25 dX5_price_28 ⟨Nat.le_of_ble_eq_true rfl, Nat.le_of_ble_eq_true rfl, Nat.le_of_ble_eq_true rfl, Nat.le_of_ble_eq_true rfl⟩
      · replace h := iff_ hc h
        refine lv_iload_n hx hb dX5_price_13 rfl (lv_at hl 2 rfl) ?_
        refine lv_bipush (v := 99) hx hb dX5_price_14 (by decide) ?_
        refine lv_icmp_le (tgt := 29) hx hb dX5_price_16 (by decide) (fun hc => ?_) (fun hc => ?_)
        · replace h := ift hc h
          exact nons h
        · replace h := iff_ hc h
          cases h
          exact mp_throwI X hlt ht hT hK hP hS (k := 69) (List.mem_of_getElem? (i := 0) rfl) hl.1 dX5_price_19 dX5_price_22 dX5_price_23 dX5_price_25 dX5_price_28 ⟨Nat.le_of_ble_eq_true rfl, Nat.le_of_ble_eq_true rfl, Nat.le_of_ble_eq_true rfl, Nat.le_of_ble_eq_true rfl⟩
def g_X5_play (x : PD) (p1 : Int32) : Option Nat :=
  g_X5_checkPiece x p1
set_option maxHeartbeats 4000000 in
set_option maxRecDepth 100000 in
theorem t_X5_play (l : Launch) (hlt : l.stackTraces = false) (D : va_G) (y : CY) (a : Nat → Nat) {x : PD} {e0 : Nat} {p1 : Int32} (h : g_X5_play x p1 = some e0) : mpTM l D y yX5_play cX5_play 2 (some .boolean) { frames := 7, cells := 1, slots := 6, locals := 111 } (pw y a x) [.ref (a 0), .int p1] e0 := by
  refine mpTM.mk (own := RX5) (by decide) rfl (Nat.le_of_ble_eq_true rfl) ?_
  intro p e s m below meth c A ls X ht hT hK hA hP hD hl
  have hS : va_S A s.heap s.heap [] := va_S.rf
  obtain ⟨⟨hx, hb, hml, hown, hts⟩, hr, hlk⟩ := id X
  have hl : lv_has ls 2 [(0, .ref (a 0)), (1, .int p1)] := hl
  unfold g_X5_play at h
  refine lv_aload_n hx hb dX5_play_0 rfl (lv_at hl 0 rfl) ?_
  refine lv_iload_n hx hb dX5_play_1 rfl (lv_at hl 1 rfl) ?_
  exact mp_tcall (As := [.int p1]) (rest := []) X ht hT (t_X5_checkPiece l hlt D y a h) (mp_cwT (k := 1) hts mM_X5_59 mI_X5_checkPiece mS_X5_checkPiece mN_X5 mC_X5_checkPiece rfl rfl (by decide +kernel) ⟨Nat.le_of_ble_eq_true rfl, Nat.le_of_ble_eq_true rfl⟩) hK hP hD hS hA 0 pwC_0 rfl rfl hl.1 rfl (Nat.le_of_ble_eq_true rfl) dX5_play_2 ⟨Nat.le_of_ble_eq_true rfl, Nat.le_of_ble_eq_true rfl⟩
def g_X5_checkMood (x : PD) (p1 : Int32) : Option Nat :=
  if p1 < 0 then
  (some 2)
  else
  if p1 < ((8 : Int32)) then
  (none)
  else
  some 2
set_option maxHeartbeats 4000000 in
set_option maxRecDepth 100000 in
theorem t_X5_checkMood (l : Launch) (hlt : l.stackTraces = false) (D : va_G) (y : CY) (a : Nat → Nat) {x : PD} {e0 : Nat} {p1 : Int32} (h : g_X5_checkMood x p1 = some e0) : mpTM l D y yX5_checkMood cX5_checkMood 2 none { frames := 6, cells := 1, slots := 6, locals := 90 } (pw y a x) [.ref (a 0), .int p1] e0 := by
  refine mpTM.mk (own := RX5) (by decide) rfl (Nat.le_of_ble_eq_true rfl) ?_
  intro p e s m below meth c A ls X ht hT hK hA hP hD hl
  have hS : va_S A s.heap s.heap [] := va_S.rf
  obtain ⟨⟨hx, hb, hml, hown, hts⟩, hr, hlk⟩ := id X
  have hl : lv_has ls 2 [(0, .ref (a 0)), (1, .int p1)] := hl
  unfold g_X5_checkMood at h
  refine lv_iload_n hx hb dX5_checkMood_0 rfl (lv_at hl 1 rfl) ?_
  refine lv_if_lt (tgt := 10) hx hb dX5_checkMood_1 (by decide) (fun hc => ?_) (fun hc => ?_)
  · replace h := ift hc h
    cases h
    exact mp_throwI X hlt ht hT hK hP hS (k := 234) (List.mem_of_getElem? (i := 7) rfl) hl.1 dX5_checkMood_10 dX5_checkMood_13 dX5_checkMood_14 dX5_checkMood_16 dX5_checkMood_19 ⟨Nat.le_of_ble_eq_true rfl, Nat.le_of_ble_eq_true rfl, Nat.le_of_ble_eq_true rfl, Nat.le_of_ble_eq_true rfl⟩
  · replace h := iff_ hc h
    refine lv_iload_n hx hb dX5_checkMood_4 rfl (lv_at hl 1 rfl) ?_
    refine lv_bipush (v := 8) hx hb dX5_checkMood_5 (by decide) ?_
    refine lv_icmp_lt (tgt := 20) hx hb dX5_checkMood_7 (by decide) (fun hc => ?_) (fun hc => ?_)
    · replace h := ift hc h
      exact nons h
    · replace h := iff_ hc h
      cases h
      exact mp_throwI X hlt ht hT hK hP hS (k := 234) (List.mem_of_getElem? (i := 7) rfl) hl.1 dX5_checkMood_10 dX5_checkMood_13 dX5_checkMood_14 dX5_checkMood_16 dX5_checkMood_19 ⟨Nat.le_of_ble_eq_true rfl, Nat.le_of_ble_eq_true rfl, Nat.le_of_ble_eq_true rfl, Nat.le_of_ble_eq_true rfl⟩
def g_X5_ask (x : PD) (p1 : Int32) : Option Nat :=
  g_X5_checkMood x p1
set_option maxHeartbeats 4000000 in
set_option maxRecDepth 100000 in
theorem t_X5_ask (l : Launch) (hlt : l.stackTraces = false) (D : va_G) (y : CY) (a : Nat → Nat) {x : PD} {e0 : Nat} {p1 : Int32} (h : g_X5_ask x p1 = some e0) : mpTM l D y yX5_ask cX5_ask 2 (some .int) { frames := 7, cells := 1, slots := 6, locals := 111 } (pw y a x) [.ref (a 0), .int p1] e0 := by
  refine mpTM.mk (own := RX5) (by decide) rfl (Nat.le_of_ble_eq_true rfl) ?_
  intro p e s m below meth c A ls X ht hT hK hA hP hD hl
  have hS : va_S A s.heap s.heap [] := va_S.rf
  obtain ⟨⟨hx, hb, hml, hown, hts⟩, hr, hlk⟩ := id X
  have hl : lv_has ls 2 [(0, .ref (a 0)), (1, .int p1)] := hl
  unfold g_X5_ask at h
  refine lv_aload_n hx hb dX5_ask_0 rfl (lv_at hl 0 rfl) ?_
  refine lv_iload_n hx hb dX5_ask_1 rfl (lv_at hl 1 rfl) ?_
  exact mp_tcall (As := [.int p1]) (rest := []) X ht hT (t_X5_checkMood l hlt D y a h) (mp_cwT (k := 1) hts mM_X5_92 mI_X5_checkMood mS_X5_checkMood mN_X5 mC_X5_checkMood rfl rfl (by decide +kernel) ⟨Nat.le_of_ble_eq_true rfl, Nat.le_of_ble_eq_true rfl⟩) hK hP hD hS hA 0 pwC_0 rfl rfl hl.1 rfl (Nat.le_of_ble_eq_true rfl) dX5_ask_2 ⟨Nat.le_of_ble_eq_true rfl, Nat.le_of_ble_eq_true rfl⟩
def g_X5_way (x : PD) (p1 : Int32) : Option Nat :=
  if p1 = ((-1 : Int32)) then
  none
  else
  if p1 < 0 then
  (some 1)
  else
  bn1 (f_X1_left x) fun r1 =>
  if p1 < r1 then
  (none)
  else
  some 1
set_option maxHeartbeats 4000000 in
set_option maxRecDepth 100000 in
theorem t_X5_way (l : Launch) (hlt : l.stackTraces = false) (D : va_G) (y : CY) (a : Nat → Nat) {x : PD} {e0 : Nat} {p1 : Int32} (h : g_X5_way x p1 = some e0) : mpTM l D y yX5_way cX5_way 2 (some .int) { frames := 6, cells := 1, slots := 6, locals := 90 } (pw y a x) [.ref (a 0), .int p1] e0 := by
  refine mpTM.mk (own := RX5) (by decide) rfl (Nat.le_of_ble_eq_true rfl) ?_
  intro p e s m below meth c A ls X ht hT hK hA hP hD hl
  have hS : va_S A s.heap s.heap [] := va_S.rf
  obtain ⟨⟨hx, hb, hml, hown, hts⟩, hr, hlk⟩ := id X
  have hl : lv_has ls 2 [(0, .ref (a 0)), (1, .int p1)] := hl
  unfold g_X5_way at h
  refine lv_iload_n hx hb dX5_way_0 rfl (lv_at hl 1 rfl) ?_
  refine lv_iconst (v := -1) hx hb dX5_way_1 (by decide) ?_
  refine lv_icmp_ne (tgt := 10) hx hb dX5_way_2 (by decide) (fun hc => ?_) (fun hc => ?_)
  · replace h := iff_ hc h
    refine lv_iload_n hx hb dX5_way_10 rfl (lv_at hl 1 rfl) ?_
    refine lv_if_lt (tgt := 25) hx hb dX5_way_11 (by decide) (fun hc => ?_) (fun hc => ?_)
    · replace h := ift hc h
      cases h
      exact mp_throwN X hlt ht hT hK hP hS (k := 115) (List.mem_of_getElem? (i := 1) rfl) hl.1 dX5_way_25 dX5_way_28 dX5_way_29 dX5_way_31 dX5_way_34 ⟨Nat.le_of_ble_eq_true rfl, Nat.le_of_ble_eq_true rfl, Nat.le_of_ble_eq_true rfl, Nat.le_of_ble_eq_true rfl⟩
    · replace h := iff_ hc h
      refine lv_iload_n hx hb dX5_way_14 rfl (lv_at hl 1 rfl) ?_
      refine lv_aload_n hx hb dX5_way_15 rfl (lv_at hl 0 rfl) ?_
      refine pwG_0_5 X hK hP mF_X5_48 dX5_way_16 ?_
      obtain ⟨r1, hr0, h⟩ := bn1_elim h
      refine mp_call1 (As := []) (rest := [.int p1]) X (c_X1_left l D y a hr0) (mp_cw (k := 0) hts mM_X5_110 mI_X1_left mS_X1_left mN_X1 mC_X1_left rfl rfl (by decide +kernel) ⟨Nat.le_of_ble_eq_true rfl, Nat.le_of_ble_eq_true rfl⟩) hK hP hD hS hA 40 pwC_40 rfl rfl hl.1 rfl (Nat.le_of_ble_eq_true rfl) dX5_way_19 ⟨Nat.zero_le _, Nat.zero_le _⟩ (fun H locs hP hD hS => ?_)
      refine lv_icmp_lt (tgt := 35) hx hb dX5_way_22 (by decide) (fun hc => ?_) (fun hc => ?_)
      · replace h := ift hc h
        exact nons h
      · replace h := iff_ hc h
        cases h
        exact mp_throwN X hlt ht hT hK hP hS (k := 115) (List.mem_of_getElem? (i := 1) rfl) hl.1 dX5_way_25 dX5_way_28 dX5_way_29 dX5_way_31 dX5_way_34 ⟨Nat.le_of_ble_eq_true rfl, Nat.le_of_ble_eq_true rfl, Nat.le_of_ble_eq_true rfl, Nat.le_of_ble_eq_true rfl⟩
  · replace h := ift hc h
    exact nons h
def g_X5_checkPlayable (x : PD) (p1 : Int32) : Option Nat :=
  bn1 (f_X2_canPlay x p1) fun r1 =>
  if r1 = 0 then
  some 1
  else
  none
set_option maxHeartbeats 4000000 in
set_option maxRecDepth 100000 in
theorem t_X5_checkPlayable (l : Launch) (hlt : l.stackTraces = false) (D : va_G) (y : CY) (a : Nat → Nat) {x : PD} {e0 : Nat} {p1 : Int32} (h : g_X5_checkPlayable x p1 = some e0) : mpTM l D y yX5_checkPlayable cX5_checkPlayable 2 none { frames := 6, cells := 1, slots := 6, locals := 90 } (pw y a x) [.ref (a 0), .int p1] e0 := by
  refine mpTM.mk (own := RX5) (by decide) rfl (Nat.le_of_ble_eq_true rfl) ?_
  intro p e s m below meth c A ls X ht hT hK hA hP hD hl
  have hS : va_S A s.heap s.heap [] := va_S.rf
  obtain ⟨⟨hx, hb, hml, hown, hts⟩, hr, hlk⟩ := id X
  have hl : lv_has ls 2 [(0, .ref (a 0)), (1, .int p1)] := hl
  unfold g_X5_checkPlayable at h
  refine lv_aload_n hx hb dX5_checkPlayable_0 rfl (lv_at hl 0 rfl) ?_
  refine pwG_0_0 X hK hP mF_X5_12 dX5_checkPlayable_1 ?_
  refine lv_iload_n hx hb dX5_checkPlayable_4 rfl (lv_at hl 1 rfl) ?_
  obtain ⟨r1, hr0, h⟩ := bn1_elim h
  refine mp_call1 (As := [.int p1]) (rest := []) X (c_X2_canPlay l D y a hr0) (mp_cw (k := 1) hts mM_X5_78 mI_X2_canPlay mS_X2_canPlay mN_X2 mC_X2_canPlay rfl rfl (by decide +kernel) ⟨Nat.le_of_ble_eq_true rfl, Nat.le_of_ble_eq_true rfl⟩) hK hP hD hS hA 1 pwC_1 rfl rfl hl.1 rfl (Nat.le_of_ble_eq_true rfl) dX5_checkPlayable_5 ⟨Nat.zero_le _, Nat.zero_le _⟩ (fun H locs hP hD hS => ?_)
  refine lv_if_ne (tgt := 21) hx hb dX5_checkPlayable_8 (by decide) (fun hc => ?_) (fun hc => ?_)
  · replace h := iff_ hc h
    exact nons h
  · replace h := ift hc h
    cases h
    exact mp_throwN X hlt ht hT hK hP hS (k := 232) (List.mem_of_getElem? (i := 6) rfl) hl.1 dX5_checkPlayable_11 dX5_checkPlayable_14 dX5_checkPlayable_15 dX5_checkPlayable_17 dX5_checkPlayable_20 ⟨Nat.le_of_ble_eq_true rfl, Nat.le_of_ble_eq_true rfl, Nat.le_of_ble_eq_true rfl, Nat.le_of_ble_eq_true rfl⟩
def g_X5_reach (x : PD) (p1 : Int32) (p2 : Int32) : Option Nat :=
  orT (g_X5_checkPlayable x p1) (bn1 (f_X5_checkPlayable x p1) fun _u =>
  g_X5_checkMood x p2)
set_option maxHeartbeats 4000000 in
set_option maxRecDepth 100000 in
theorem t_X5_reach (l : Launch) (hlt : l.stackTraces = false) (D : va_G) (y : CY) (a : Nat → Nat) {x : PD} {e0 : Nat} {p1 : Int32} {p2 : Int32} (h : g_X5_reach x p1 p2 = some e0) : mpTM l D y yX5_reach cX5_reach 3 (some .long) { frames := 7, cells := 1, slots := 6, locals := 111 } (pw y a x) [.ref (a 0), .int p1, .int p2] e0 := by
  refine mpTM.mk (own := RX5) (by decide) rfl (Nat.le_of_ble_eq_true rfl) ?_
  intro p e s m below meth c A ls X ht hT hK hA hP hD hl
  have hS : va_S A s.heap s.heap [] := va_S.rf
  obtain ⟨⟨hx, hb, hml, hown, hts⟩, hr, hlk⟩ := id X
  have hl : lv_has ls 3 [(0, .ref (a 0)), (1, .int p1), (2, .int p2)] := hl
  unfold g_X5_reach at h
  refine lv_aload_n hx hb dX5_reach_0 rfl (lv_at hl 0 rfl) ?_
  refine lv_iload_n hx hb dX5_reach_1 rfl (lv_at hl 1 rfl) ?_
  rcases orT_elim h with h | ⟨-, h⟩
  · exact mp_tcall (As := [.int p1]) (rest := []) X ht hT (t_X5_checkPlayable l hlt D y a h) (mp_cwT (k := 1) hts mM_X5_126 mI_X5_checkPlayable mS_X5_checkPlayable mN_X5 mC_X5_checkPlayable rfl rfl (by decide +kernel) ⟨Nat.le_of_ble_eq_true rfl, Nat.le_of_ble_eq_true rfl⟩) hK hP hD hS hA 0 pwC_0 rfl rfl hl.1 rfl (Nat.le_of_ble_eq_true rfl) dX5_reach_2 ⟨Nat.le_of_ble_eq_true rfl, Nat.le_of_ble_eq_true rfl⟩
  · obtain ⟨u0, hr0, h⟩ := bn1_elim h
    refine mp_callv (As := [.int p1]) (rest := []) X (c_X5_checkPlayable l D y a hr0) (mp_cw (k := 1) hts mM_X5_126 mI_X5_checkPlayable mS_X5_checkPlayable mN_X5 mC_X5_checkPlayable rfl rfl (by decide +kernel) ⟨Nat.le_of_ble_eq_true rfl, Nat.le_of_ble_eq_true rfl⟩) hK hP hD hS hA 0 pwC_0 rfl rfl hl.1 rfl (Nat.le_of_ble_eq_true rfl) dX5_reach_2 ⟨Nat.zero_le _, Nat.zero_le _⟩ (fun H locs hP hD hS => ?_)
    refine lv_aload_n hx hb dX5_reach_5 rfl (lv_at hl 0 rfl) ?_
    refine lv_iload_n hx hb dX5_reach_6 rfl (lv_at hl 2 rfl) ?_
    exact mp_tcall (As := [.int p2]) (rest := []) X ht hT (t_X5_checkMood l hlt D y a h) (mp_cwT (k := 1) hts mM_X5_92 mI_X5_checkMood mS_X5_checkMood mN_X5 mC_X5_checkMood rfl rfl (by decide +kernel) ⟨Nat.le_of_ble_eq_true rfl, Nat.le_of_ble_eq_true rfl⟩) hK hP hD hS hA 0 pwC_0 rfl rfl hl.1 rfl (Nat.le_of_ble_eq_true rfl) dX5_reach_7 ⟨Nat.le_of_ble_eq_true rfl, Nat.le_of_ble_eq_true rfl⟩
def g_X5_lacks (x : PD) (p1 : Int32) (p2 : Int32) : Option Nat :=
  orT (g_X5_checkPlayable x p1) (bn1 (f_X5_checkPlayable x p1) fun _u =>
  g_X5_checkMood x p2)
set_option maxHeartbeats 4000000 in
set_option maxRecDepth 100000 in
theorem t_X5_lacks (l : Launch) (hlt : l.stackTraces = false) (D : va_G) (y : CY) (a : Nat → Nat) {x : PD} {e0 : Nat} {p1 : Int32} {p2 : Int32} (h : g_X5_lacks x p1 p2 = some e0) : mpTM l D y yX5_lacks cX5_lacks 4 (some .int) { frames := 7, cells := 1, slots := 6, locals := 111 } (pw y a x) [.ref (a 0), .int p1, .int p2] e0 := by
  refine mpTM.mk (own := RX5) (by decide) rfl (Nat.le_of_ble_eq_true rfl) ?_
  intro p e s m below meth c A ls X ht hT hK hA hP hD hl
  have hS : va_S A s.heap s.heap [] := va_S.rf
  obtain ⟨⟨hx, hb, hml, hown, hts⟩, hr, hlk⟩ := id X
  have hl : lv_has ls 4 [(0, .ref (a 0)), (1, .int p1), (2, .int p2)] := hl
  unfold g_X5_lacks at h
  refine lv_aload_n hx hb dX5_lacks_0 rfl (lv_at hl 0 rfl) ?_
  refine lv_iload_n hx hb dX5_lacks_1 rfl (lv_at hl 1 rfl) ?_
  rcases orT_elim h with h | ⟨-, h⟩
  · exact mp_tcall (As := [.int p1]) (rest := []) X ht hT (t_X5_checkPlayable l hlt D y a h) (mp_cwT (k := 1) hts mM_X5_126 mI_X5_checkPlayable mS_X5_checkPlayable mN_X5 mC_X5_checkPlayable rfl rfl (by decide +kernel) ⟨Nat.le_of_ble_eq_true rfl, Nat.le_of_ble_eq_true rfl⟩) hK hP hD hS hA 0 pwC_0 rfl rfl hl.1 rfl (Nat.le_of_ble_eq_true rfl) dX5_lacks_2 ⟨Nat.le_of_ble_eq_true rfl, Nat.le_of_ble_eq_true rfl⟩
  · obtain ⟨u0, hr0, h⟩ := bn1_elim h
    refine mp_callv (As := [.int p1]) (rest := []) X (c_X5_checkPlayable l D y a hr0) (mp_cw (k := 1) hts mM_X5_126 mI_X5_checkPlayable mS_X5_checkPlayable mN_X5 mC_X5_checkPlayable rfl rfl (by decide +kernel) ⟨Nat.le_of_ble_eq_true rfl, Nat.le_of_ble_eq_true rfl⟩) hK hP hD hS hA 0 pwC_0 rfl rfl hl.1 rfl (Nat.le_of_ble_eq_true rfl) dX5_lacks_2 ⟨Nat.zero_le _, Nat.zero_le _⟩ (fun H locs hP hD hS => ?_)
    refine lv_aload_n hx hb dX5_lacks_5 rfl (lv_at hl 0 rfl) ?_
    refine lv_iload_n hx hb dX5_lacks_6 rfl (lv_at hl 2 rfl) ?_
    exact mp_tcall (As := [.int p2]) (rest := []) X ht hT (t_X5_checkMood l hlt D y a h) (mp_cwT (k := 1) hts mM_X5_92 mI_X5_checkMood mS_X5_checkMood mN_X5 mC_X5_checkMood rfl rfl (by decide +kernel) ⟨Nat.le_of_ble_eq_true rfl, Nat.le_of_ble_eq_true rfl⟩) hK hP hD hS hA 0 pwC_0 rfl rfl hl.1 rfl (Nat.le_of_ble_eq_true rfl) dX5_lacks_7 ⟨Nat.le_of_ble_eq_true rfl, Nat.le_of_ble_eq_true rfl⟩
def g_X5_layer (x : PD) (p1 : Int32) (p2 : Int32) : Option Nat :=
  g_X5_checkPiece x p1
set_option maxHeartbeats 4000000 in
set_option maxRecDepth 100000 in
theorem t_X5_layer (l : Launch) (hlt : l.stackTraces = false) (D : va_G) (y : CY) (a : Nat → Nat) {x : PD} {e0 : Nat} {p1 : Int32} {p2 : Int32} (h : g_X5_layer x p1 p2 = some e0) : mpTM l D y yX5_layer cX5_layer 4 (some .int) { frames := 7, cells := 1, slots := 6, locals := 111 } (pw y a x) [.ref (a 0), .int p1, .int p2] e0 := by
  refine mpTM.mk (own := RX5) (by decide) rfl (Nat.le_of_ble_eq_true rfl) ?_
  intro p e s m below meth c A ls X ht hT hK hA hP hD hl
  have hS : va_S A s.heap s.heap [] := va_S.rf
  obtain ⟨⟨hx, hb, hml, hown, hts⟩, hr, hlk⟩ := id X
  have hl : lv_has ls 4 [(0, .ref (a 0)), (1, .int p1), (2, .int p2)] := hl
  unfold g_X5_layer at h
  refine lv_aload_n hx hb dX5_layer_0 rfl (lv_at hl 0 rfl) ?_
  refine lv_iload_n hx hb dX5_layer_1 rfl (lv_at hl 1 rfl) ?_
  exact mp_tcall (As := [.int p1]) (rest := []) X ht hT (t_X5_checkPiece l hlt D y a h) (mp_cwT (k := 1) hts mM_X5_59 mI_X5_checkPiece mS_X5_checkPiece mN_X5 mC_X5_checkPiece rfl rfl (by decide +kernel) ⟨Nat.le_of_ble_eq_true rfl, Nat.le_of_ble_eq_true rfl⟩) hK hP hD hS hA 0 pwC_0 rfl rfl hl.1 rfl (Nat.le_of_ble_eq_true rfl) dX5_layer_2 ⟨Nat.le_of_ble_eq_true rfl, Nat.le_of_ble_eq_true rfl⟩
def g_X5_sting (x : PD) (p1 : Int32) : Option Nat :=
  g_X5_checkPiece x p1
set_option maxHeartbeats 4000000 in
set_option maxRecDepth 100000 in
theorem t_X5_sting (l : Launch) (hlt : l.stackTraces = false) (D : va_G) (y : CY) (a : Nat → Nat) {x : PD} {e0 : Nat} {p1 : Int32} (h : g_X5_sting x p1 = some e0) : mpTM l D y yX5_sting cX5_sting 2 (some .int) { frames := 7, cells := 1, slots := 6, locals := 111 } (pw y a x) [.ref (a 0), .int p1] e0 := by
  refine mpTM.mk (own := RX5) (by decide) rfl (Nat.le_of_ble_eq_true rfl) ?_
  intro p e s m below meth c A ls X ht hT hK hA hP hD hl
  have hS : va_S A s.heap s.heap [] := va_S.rf
  obtain ⟨⟨hx, hb, hml, hown, hts⟩, hr, hlk⟩ := id X
  have hl : lv_has ls 2 [(0, .ref (a 0)), (1, .int p1)] := hl
  unfold g_X5_sting at h
  refine lv_aload_n hx hb dX5_sting_0 rfl (lv_at hl 0 rfl) ?_
  refine lv_iload_n hx hb dX5_sting_1 rfl (lv_at hl 1 rfl) ?_
  exact mp_tcall (As := [.int p1]) (rest := []) X ht hT (t_X5_checkPiece l hlt D y a h) (mp_cwT (k := 1) hts mM_X5_59 mI_X5_checkPiece mS_X5_checkPiece mN_X5 mC_X5_checkPiece rfl rfl (by decide +kernel) ⟨Nat.le_of_ble_eq_true rfl, Nat.le_of_ble_eq_true rfl⟩) hK hP hD hS hA 0 pwC_0 rfl rfl hl.1 rfl (Nat.le_of_ble_eq_true rfl) dX5_sting_2 ⟨Nat.le_of_ble_eq_true rfl, Nat.le_of_ble_eq_true rfl⟩
def g_X5_go (x : PD) (p1 : Int32) : Option Nat :=
  if p1 < 0 then
  (some 2)
  else
  if p1 ≤ ((20000 : Int32)) then
  (none)
  else
  some 2
set_option maxHeartbeats 4000000 in
set_option maxRecDepth 100000 in
theorem t_X5_go (l : Launch) (hlt : l.stackTraces = false) (D : va_G) (y : CY) (a : Nat → Nat) {x : PD} {e0 : Nat} {p1 : Int32} (h : g_X5_go x p1 = some e0) : mpTM l D y yX5_go cX5_go 7 (some .long) { frames := 6, cells := 1, slots := 6, locals := 90 } (pw y a x) [.ref (a 0), .int p1] e0 := by
  refine mpTM.mk (own := RX5) (by decide) rfl (Nat.le_of_ble_eq_true rfl) ?_
  intro p e s m below meth c A ls X ht hT hK hA hP hD hl
  have hS : va_S A s.heap s.heap [] := va_S.rf
  obtain ⟨⟨hx, hb, hml, hown, hts⟩, hr, hlk⟩ := id X
  have hl : lv_has ls 7 [(0, .ref (a 0)), (1, .int p1)] := hl
  unfold g_X5_go at h
  refine lv_iload_n hx hb dX5_go_0 rfl (lv_at hl 1 rfl) ?_
  refine lv_if_lt (tgt := 11) hx hb dX5_go_1 (by decide) (fun hc => ?_) (fun hc => ?_)
  · replace h := ift hc h
    cases h
    exact mp_throwI X hlt ht hT hK hP hS (k := 157) (List.mem_of_getElem? (i := 2) rfl) hl.1 dX5_go_11 dX5_go_14 dX5_go_15 dX5_go_17 dX5_go_20 ⟨Nat.le_of_ble_eq_true rfl, Nat.le_of_ble_eq_true rfl, Nat.le_of_ble_eq_true rfl, Nat.le_of_ble_eq_true rfl⟩
  · replace h := iff_ hc h
    refine lv_iload_n hx hb dX5_go_4 rfl (lv_at hl 1 rfl) ?_
    refine lv_sipush (v := 20000) hx hb dX5_go_5 (by decide) ?_
    refine lv_icmp_le (tgt := 21) hx hb dX5_go_8 (by decide) (fun hc => ?_) (fun hc => ?_)
    · replace h := ift hc h
      exact nons h
    · replace h := iff_ hc h
      cases h
      exact mp_throwI X hlt ht hT hK hP hS (k := 157) (List.mem_of_getElem? (i := 2) rfl) hl.1 dX5_go_11 dX5_go_14 dX5_go_15 dX5_go_17 dX5_go_20 ⟨Nat.le_of_ble_eq_true rfl, Nat.le_of_ble_eq_true rfl, Nat.le_of_ble_eq_true rfl, Nat.le_of_ble_eq_true rfl⟩
def g_X5_now (x : PD) (p1 : Int32) : Option Nat :=
  if p1 = 0 then
  (none)
  else if p1 = 1 then
  (none)
  else if p1 = 2 then
  (none)
  else if p1 = 3 then
  (none)
  else if p1 = 4 then
  (none)
  else if p1 = 5 then
  (none)
  else if p1 = 6 then
  (none)
  else if p1 = 7 then
  (none)
  else if p1 = 8 then
  (none)
  else if p1 = 9 then
  (none)
  else if p1 = 10 then
  (none)
  else (some 1)
set_option maxHeartbeats 4000000 in
set_option maxRecDepth 100000 in
theorem t_X5_now (l : Launch) (hlt : l.stackTraces = false) (D : va_G) (y : CY) (a : Nat → Nat) {x : PD} {e0 : Nat} {p1 : Int32} (h : g_X5_now x p1 = some e0) : mpTM l D y yX5_now cX5_now 2 (some .int) { frames := 6, cells := 1, slots := 6, locals := 90 } (pw y a x) [.ref (a 0), .int p1] e0 := by
  refine mpTM.mk (own := RX5) (by decide) rfl (Nat.le_of_ble_eq_true rfl) ?_
  intro p e s m below meth c A ls X ht hT hK hA hP hD hl
  have hS : va_S A s.heap s.heap [] := va_S.rf
  obtain ⟨⟨hx, hb, hml, hown, hts⟩, hr, hlk⟩ := id X
  have hl : lv_has ls 2 [(0, .ref (a 0)), (1, .int p1)] := hl
  unfold g_X5_now at h
  refine lv_iload_n hx hb dX5_now_0 rfl (lv_at hl 1 rfl) ?_
  by_cases hc0 : p1 = 0
  · replace h := ift hc0 h
    refine lv_tableIn (off := 59) (tgt := 60) hx hb dX5_now_1 (by rw [hc0]; decide) (by rw [hc0]; decide) (by rw [hc0]; rfl) (by decide) ?_
    exact nons h
  replace h := iff_ hc0 h
  by_cases hc1 : p1 = 1
  · replace h := ift hc1 h
    refine lv_tableIn (off := 67) (tgt := 68) hx hb dX5_now_1 (by rw [hc1]; decide) (by rw [hc1]; decide) (by rw [hc1]; rfl) (by decide) ?_
    exact nons h
  replace h := iff_ hc1 h
  by_cases hc2 : p1 = 2
  · replace h := ift hc2 h
    refine lv_tableIn (off := 75) (tgt := 76) hx hb dX5_now_1 (by rw [hc2]; decide) (by rw [hc2]; decide) (by rw [hc2]; rfl) (by decide) ?_
    exact nons h
  replace h := iff_ hc2 h
  by_cases hc3 : p1 = 3
  · replace h := ift hc3 h
    refine lv_tableIn (off := 83) (tgt := 84) hx hb dX5_now_1 (by rw [hc3]; decide) (by rw [hc3]; decide) (by rw [hc3]; rfl) (by decide) ?_
    exact nons h
  replace h := iff_ hc3 h
  by_cases hc4 : p1 = 4
  · replace h := ift hc4 h
    refine lv_tableIn (off := 107) (tgt := 108) hx hb dX5_now_1 (by rw [hc4]; decide) (by rw [hc4]; decide) (by rw [hc4]; rfl) (by decide) ?_
    exact nons h
  replace h := iff_ hc4 h
  by_cases hc5 : p1 = 5
  · replace h := ift hc5 h
    refine lv_tableIn (off := 115) (tgt := 116) hx hb dX5_now_1 (by rw [hc5]; decide) (by rw [hc5]; decide) (by rw [hc5]; rfl) (by decide) ?_
    exact nons h
  replace h := iff_ hc5 h
  by_cases hc6 : p1 = 6
  · replace h := ift hc6 h
    refine lv_tableIn (off := 123) (tgt := 124) hx hb dX5_now_1 (by rw [hc6]; decide) (by rw [hc6]; decide) (by rw [hc6]; rfl) (by decide) ?_
    exact nons h
  replace h := iff_ hc6 h
  by_cases hc7 : p1 = 7
  · replace h := ift hc7 h
    refine lv_tableIn (off := 131) (tgt := 132) hx hb dX5_now_1 (by rw [hc7]; decide) (by rw [hc7]; decide) (by rw [hc7]; rfl) (by decide) ?_
    exact nons h
  replace h := iff_ hc7 h
  by_cases hc8 : p1 = 8
  · replace h := ift hc8 h
    refine lv_tableIn (off := 139) (tgt := 140) hx hb dX5_now_1 (by rw [hc8]; decide) (by rw [hc8]; decide) (by rw [hc8]; rfl) (by decide) ?_
    exact nons h
  replace h := iff_ hc8 h
  by_cases hc9 : p1 = 9
  · replace h := ift hc9 h
    refine lv_tableIn (off := 147) (tgt := 148) hx hb dX5_now_1 (by rw [hc9]; decide) (by rw [hc9]; decide) (by rw [hc9]; rfl) (by decide) ?_
    exact nons h
  replace h := iff_ hc9 h
  by_cases hc10 : p1 = 10
  · replace h := ift hc10 h
    refine lv_tableIn (off := 155) (tgt := 156) hx hb dX5_now_1 (by rw [hc10]; decide) (by rw [hc10]; decide) (by rw [hc10]; rfl) (by decide) ?_
    exact nons h
  replace h := iff_ hc10 h
  refine lv_tableOut (tgt := 164) hx hb dX5_now_1 (by have q0 := lv_neT (a := 0) hc0 rfl; have q1 := lv_neT (a := 1) hc1 rfl; have q2 := lv_neT (a := 2) hc2 rfl; have q3 := lv_neT (a := 3) hc3 rfl; have q4 := lv_neT (a := 4) hc4 rfl; have q5 := lv_neT (a := 5) hc5 rfl; have q6 := lv_neT (a := 6) hc6 rfl; have q7 := lv_neT (a := 7) hc7 rfl; have q8 := lv_neT (a := 8) hc8 rfl; have q9 := lv_neT (a := 9) hc9 rfl; have q10 := lv_neT (a := 10) hc10 rfl; omega) (by decide) ?_
  cases h
  exact mp_throwN X hlt ht hT hK hP hS (k := 205) (List.mem_of_getElem? (i := 3) rfl) hl.1 dX5_now_164 dX5_now_167 dX5_now_168 dX5_now_170 dX5_now_173 ⟨Nat.le_of_ble_eq_true rfl, Nat.le_of_ble_eq_true rfl, Nat.le_of_ble_eq_true rfl, Nat.le_of_ble_eq_true rfl⟩
def g_X5_level (x : PD) (p1 : Int32) : Option Nat :=
  g_X5_checkPiece x p1
set_option maxHeartbeats 4000000 in
set_option maxRecDepth 100000 in
theorem t_X5_level (l : Launch) (hlt : l.stackTraces = false) (D : va_G) (y : CY) (a : Nat → Nat) {x : PD} {e0 : Nat} {p1 : Int32} (h : g_X5_level x p1 = some e0) : mpTM l D y yX5_level cX5_level 2 (some .int) { frames := 7, cells := 1, slots := 6, locals := 111 } (pw y a x) [.ref (a 0), .int p1] e0 := by
  refine mpTM.mk (own := RX5) (by decide) rfl (Nat.le_of_ble_eq_true rfl) ?_
  intro p e s m below meth c A ls X ht hT hK hA hP hD hl
  have hS : va_S A s.heap s.heap [] := va_S.rf
  obtain ⟨⟨hx, hb, hml, hown, hts⟩, hr, hlk⟩ := id X
  have hl : lv_has ls 2 [(0, .ref (a 0)), (1, .int p1)] := hl
  unfold g_X5_level at h
  refine lv_aload_n hx hb dX5_level_0 rfl (lv_at hl 0 rfl) ?_
  refine lv_iload_n hx hb dX5_level_1 rfl (lv_at hl 1 rfl) ?_
  exact mp_tcall (As := [.int p1]) (rest := []) X ht hT (t_X5_checkPiece l hlt D y a h) (mp_cwT (k := 1) hts mM_X5_59 mI_X5_checkPiece mS_X5_checkPiece mN_X5 mC_X5_checkPiece rfl rfl (by decide +kernel) ⟨Nat.le_of_ble_eq_true rfl, Nat.le_of_ble_eq_true rfl⟩) hK hP hD hS hA 0 pwC_0 rfl rfl hl.1 rfl (Nat.le_of_ble_eq_true rfl) dX5_level_2 ⟨Nat.le_of_ble_eq_true rfl, Nat.le_of_ble_eq_true rfl⟩
def g_X5_log (x : PD) (p1 : Int32) (p2 : Int32) : Option Nat :=
  if p1 < 0 then
  (some 1)
  else
  if (rI x 1061) ≤ p1 then
  (some 1)
  else
  if p2 < 0 then
  (some 1)
  else
  if p2 ≤ ((2 : Int32)) then
  (none)
  else
  some 1
set_option maxHeartbeats 4000000 in
set_option maxRecDepth 100000 in
theorem t_X5_log (l : Launch) (hlt : l.stackTraces = false) (D : va_G) (y : CY) (a : Nat → Nat) {x : PD} {e0 : Nat} {p1 : Int32} {p2 : Int32} (h : g_X5_log x p1 p2 = some e0) : mpTM l D y yX5_log cX5_log 3 (some .long) { frames := 6, cells := 1, slots := 6, locals := 90 } (pw y a x) [.ref (a 0), .int p1, .int p2] e0 := by
  refine mpTM.mk (own := RX5) (by decide) rfl (Nat.le_of_ble_eq_true rfl) ?_
  intro p e s m below meth c A ls X ht hT hK hA hP hD hl
  have hS : va_S A s.heap s.heap [] := va_S.rf
  obtain ⟨⟨hx, hb, hml, hown, hts⟩, hr, hlk⟩ := id X
  have hl : lv_has ls 3 [(0, .ref (a 0)), (1, .int p1), (2, .int p2)] := hl
  unfold g_X5_log at h
  refine lv_iload_n hx hb dX5_log_0 rfl (lv_at hl 1 rfl) ?_
  refine lv_if_lt (tgt := 24) hx hb dX5_log_1 (by decide) (fun hc => ?_) (fun hc => ?_)
  · replace h := ift hc h
    cases h
    exact mp_throwN X hlt ht hT hK hP hS (k := 210) (List.mem_of_getElem? (i := 4) rfl) hl.1 dX5_log_24 dX5_log_27 dX5_log_28 dX5_log_30 dX5_log_33 ⟨Nat.le_of_ble_eq_true rfl, Nat.le_of_ble_eq_true rfl, Nat.le_of_ble_eq_true rfl, Nat.le_of_ble_eq_true rfl⟩
  · replace h := iff_ hc h
    refine lv_iload_n hx hb dX5_log_4 rfl (lv_at hl 1 rfl) ?_
    refine lv_aload_n hx hb dX5_log_5 rfl (lv_at hl 0 rfl) ?_
    refine pwG_0_3 X hK hP mF_X5_32 dX5_log_6 ?_
    refine pwG_33_5 X hK hP mF_X5_196 dX5_log_9 ?_
    refine lv_icmp_ge (tgt := 24) hx hb dX5_log_12 (by decide) (fun hc => ?_) (fun hc => ?_)
    · replace h := ift hc h
      cases h
      exact mp_throwN X hlt ht hT hK hP hS (k := 210) (List.mem_of_getElem? (i := 4) rfl) hl.1 dX5_log_24 dX5_log_27 dX5_log_28 dX5_log_30 dX5_log_33 ⟨Nat.le_of_ble_eq_true rfl, Nat.le_of_ble_eq_true rfl, Nat.le_of_ble_eq_true rfl, Nat.le_of_ble_eq_true rfl⟩
    · replace h := iff_ hc h
      refine lv_iload_n hx hb dX5_log_15 rfl (lv_at hl 2 rfl) ?_
      refine lv_if_lt (tgt := 24) hx hb dX5_log_16 (by decide) (fun hc => ?_) (fun hc => ?_)
      · replace h := ift hc h
        cases h
        exact mp_throwN X hlt ht hT hK hP hS (k := 210) (List.mem_of_getElem? (i := 4) rfl) hl.1 dX5_log_24 dX5_log_27 dX5_log_28 dX5_log_30 dX5_log_33 ⟨Nat.le_of_ble_eq_true rfl, Nat.le_of_ble_eq_true rfl, Nat.le_of_ble_eq_true rfl, Nat.le_of_ble_eq_true rfl⟩
      · replace h := iff_ hc h
        refine lv_iload_n hx hb dX5_log_19 rfl (lv_at hl 2 rfl) ?_
        refine lv_iconst (v := 2) hx hb dX5_log_20 (by decide) ?_
        refine lv_icmp_le (tgt := 34) hx hb dX5_log_21 (by decide) (fun hc => ?_) (fun hc => ?_)
        · replace h := ift hc h
          exact nons h
        · replace h := iff_ hc h
          cases h
          exact mp_throwN X hlt ht hT hK hP hS (k := 210) (List.mem_of_getElem? (i := 4) rfl) hl.1 dX5_log_24 dX5_log_27 dX5_log_28 dX5_log_30 dX5_log_33 ⟨Nat.le_of_ble_eq_true rfl, Nat.le_of_ble_eq_true rfl, Nat.le_of_ble_eq_true rfl, Nat.le_of_ble_eq_true rfl⟩
def g_X5_slotAt (x : PD) (p1 : Int32) : Option Nat :=
  if p1 < 0 then
  (some 2)
  else
  if ((4 : Int32)) ≤ p1 then
  (some 2)
  else
  none
set_option maxHeartbeats 4000000 in
set_option maxRecDepth 100000 in
theorem t_X5_slotAt (l : Launch) (hlt : l.stackTraces = false) (D : va_G) (y : CY) (a : Nat → Nat) {x : PD} {e0 : Nat} {p1 : Int32} (h : g_X5_slotAt x p1 = some e0) : mpTM l D y yX5_slotAt cX5_slotAt 2 (some (.object "MoodPlayer$State")) { frames := 6, cells := 1, slots := 6, locals := 90 } (pw y a x) [.ref (a 0), .int p1] e0 := by
  refine mpTM.mk (own := RX5) (by decide) rfl (Nat.le_of_ble_eq_true rfl) ?_
  intro p e s m below meth c A ls X ht hT hK hA hP hD hl
  have hS : va_S A s.heap s.heap [] := va_S.rf
  obtain ⟨⟨hx, hb, hml, hown, hts⟩, hr, hlk⟩ := id X
  have hl : lv_has ls 2 [(0, .ref (a 0)), (1, .int p1)] := hl
  unfold g_X5_slotAt at h
  refine lv_iload_n hx hb dX5_slotAt_0 rfl (lv_at hl 1 rfl) ?_
  refine lv_if_lt (tgt := 18) hx hb dX5_slotAt_1 (by decide) (fun hc => ?_) (fun hc => ?_)
  · replace h := ift hc h
    cases h
    exact mp_throwI X hlt ht hT hK hP hS (k := 236) (List.mem_of_getElem? (i := 8) rfl) hl.1 dX5_slotAt_18 dX5_slotAt_21 dX5_slotAt_22 dX5_slotAt_24 dX5_slotAt_27 ⟨Nat.le_of_ble_eq_true rfl, Nat.le_of_ble_eq_true rfl, Nat.le_of_ble_eq_true rfl, Nat.le_of_ble_eq_true rfl⟩
  · replace h := iff_ hc h
    refine lv_iload_n hx hb dX5_slotAt_4 rfl (lv_at hl 1 rfl) ?_
    refine lv_iconst (v := 4) hx hb dX5_slotAt_5 (by decide) ?_
    refine lv_icmp_ge (tgt := 18) hx hb dX5_slotAt_6 (by decide) (fun hc => ?_) (fun hc => ?_)
    · replace h := ift hc h
      cases h
      exact mp_throwI X hlt ht hT hK hP hS (k := 236) (List.mem_of_getElem? (i := 8) rfl) hl.1 dX5_slotAt_18 dX5_slotAt_21 dX5_slotAt_22 dX5_slotAt_24 dX5_slotAt_27 ⟨Nat.le_of_ble_eq_true rfl, Nat.le_of_ble_eq_true rfl, Nat.le_of_ble_eq_true rfl, Nat.le_of_ble_eq_true rfl⟩
    · replace h := iff_ hc h
      refine lv_aload_n hx hb dX5_slotAt_9 rfl (lv_at hl 0 rfl) ?_
      refine pwG_0_2 X hK hP mF_X5_23 dX5_slotAt_10 ?_
      refine lv_iload_n hx hb dX5_slotAt_13 rfl (lv_at hl 1 rfl) ?_
      exact nons h
def g_X5_keep (x : PD) (p1 : Int32) : Option Nat :=
  g_X5_slotAt x p1
set_option maxHeartbeats 4000000 in
set_option maxRecDepth 100000 in
theorem t_X5_keep (l : Launch) (hlt : l.stackTraces = false) (D : va_G) (y : CY) (a : Nat → Nat) {x : PD} {e0 : Nat} {p1 : Int32} (h : g_X5_keep x p1 = some e0) : mpTM l D y yX5_keep cX5_keep 4 (some .boolean) { frames := 7, cells := 1, slots := 6, locals := 111 } (pw y a x) [.ref (a 0), .int p1] e0 := by
  refine mpTM.mk (own := RX5) (by decide) rfl (Nat.le_of_ble_eq_true rfl) ?_
  intro p e s m below meth c A ls X ht hT hK hA hP hD hl
  have hS : va_S A s.heap s.heap [] := va_S.rf
  obtain ⟨⟨hx, hb, hml, hown, hts⟩, hr, hlk⟩ := id X
  have hl : lv_has ls 4 [(0, .ref (a 0)), (1, .int p1)] := hl
  unfold g_X5_keep at h
  refine lv_aload_n hx hb dX5_keep_0 rfl (lv_at hl 0 rfl) ?_
  refine lv_iload_n hx hb dX5_keep_1 rfl (lv_at hl 1 rfl) ?_
  exact mp_tcall (As := [.int p1]) (rest := []) X ht hT (t_X5_slotAt l hlt D y a h) (mp_cwT (k := 1) hts mM_X5_216 mI_X5_slotAt mS_X5_slotAt mN_X5 mC_X5_slotAt rfl rfl (by decide +kernel) ⟨Nat.le_of_ble_eq_true rfl, Nat.le_of_ble_eq_true rfl⟩) hK hP hD hS hA 0 pwC_0 rfl rfl hl.1 rfl (Nat.le_of_ble_eq_true rfl) dX5_keep_2 ⟨Nat.le_of_ble_eq_true rfl, Nat.le_of_ble_eq_true rfl⟩
def g_X5_goOn (x : PD) (p1 : Int32) : Option Nat :=
  g_X5_slotAt x p1
set_option maxHeartbeats 4000000 in
set_option maxRecDepth 100000 in
theorem t_X5_goOn (l : Launch) (hlt : l.stackTraces = false) (D : va_G) (y : CY) (a : Nat → Nat) {x : PD} {e0 : Nat} {p1 : Int32} (h : g_X5_goOn x p1 = some e0) : mpTM l D y yX5_goOn cX5_goOn 3 (some .boolean) { frames := 7, cells := 1, slots := 6, locals := 111 } (pw y a x) [.ref (a 0), .int p1] e0 := by
  refine mpTM.mk (own := RX5) (by decide) rfl (Nat.le_of_ble_eq_true rfl) ?_
  intro p e s m below meth c A ls X ht hT hK hA hP hD hl
  have hS : va_S A s.heap s.heap [] := va_S.rf
  obtain ⟨⟨hx, hb, hml, hown, hts⟩, hr, hlk⟩ := id X
  have hl : lv_has ls 3 [(0, .ref (a 0)), (1, .int p1)] := hl
  unfold g_X5_goOn at h
  refine lv_aload_n hx hb dX5_goOn_0 rfl (lv_at hl 0 rfl) ?_
  refine lv_iload_n hx hb dX5_goOn_1 rfl (lv_at hl 1 rfl) ?_
  exact mp_tcall (As := [.int p1]) (rest := []) X ht hT (t_X5_slotAt l hlt D y a h) (mp_cwT (k := 1) hts mM_X5_216 mI_X5_slotAt mS_X5_slotAt mN_X5 mC_X5_slotAt rfl rfl (by decide +kernel) ⟨Nat.le_of_ble_eq_true rfl, Nat.le_of_ble_eq_true rfl⟩) hK hP hD hS hA 0 pwC_0 rfl rfl hl.1 rfl (Nat.le_of_ble_eq_true rfl) dX5_goOn_2 ⟨Nat.le_of_ble_eq_true rfl, Nat.le_of_ble_eq_true rfl⟩
