/-! HeadsByHairModel.much(ILjava/lang/String;)V -/
abbrev rm_X12_much : Room := { frames := 51, cells := 0, slots := 0, locals := 2720 }
set_option maxHeartbeats 4000000 in
set_option maxRecDepth 100000 in
theorem c_X12_much (l : Launch) (G : GG) (h a_s a_image a_by a_truths a_bodies : Nat) (x_thrown x_hasImage x_act x_spot x_end x_isWrong x_open x_turn x_lean x_last x_angle x_asLay x_ticks x_ran x_kind x_number x_tellsV : Int32) (f_s : Nat → Int32) (t2 : Nat) (ht2 : t2 < nJS) (l1 : Int32) (z_x_spot : Int32) (z_x_isWrong : Int32) (z_x_open : Int32) (z_f_s : Nat → Int32) (hF : fX12_much t2 x_act x_spot x_end x_isWrong x_open f_s l1 = some (z_x_spot, z_x_isWrong, z_x_open, z_f_s)) : CMv l yX12_much wsX12_much rm_X12_much G [o12 h x_thrown a_s a_image x_hasImage x_act x_spot x_end x_isWrong x_open a_by a_truths x_turn x_lean x_last x_angle x_asLay x_ticks a_bodies x_ran x_kind x_number x_tellsV, aI G a_s 1394 f_s] [o12 h x_thrown a_s a_image x_hasImage x_act z_x_spot x_end z_x_isWrong z_x_open a_by a_truths x_turn x_lean x_last x_angle x_asLay x_ticks a_bodies x_ran x_kind x_number x_tellsV, aI G a_s 1394 z_f_s] [.ref h, .int l1, .ref (G.2.2.1 t2)] := by
  refine cm_start (cc := cX12_much) (maxL := 4) (ret := none) (Qc := fun A => QV G [o12 h x_thrown a_s a_image x_hasImage x_act z_x_spot x_end z_x_isWrong z_x_open a_by a_truths x_turn x_lean x_last x_angle x_asLay x_ticks a_bodies x_ran x_kind x_number x_tellsV, aI G a_s 1394 z_f_s] A) (by decide +kernel) rfl (Nat.le_of_ble_eq_true rfl) ?_
  intro p e s m args below meth c A hx hb hr hlk hml hown hnm hts hA H locs hP hK hD hE hS ls hl
  have hown : s.vm.findClass RX12 = some m.cls := hown
  have hl : lv_has ls 4 [(0, .ref h), (1, .int l1), (2, .ref (G.2.2.1 t2))] := hl
  revert hF
  intro hF
  unfold fX12_much at hF
  refine lv_aload_n hx hb dX12_much_0 rfl (lv_at hl 0 rfl) ?_
  refine lv_aload_n hx hb dX12_much_1 rfl (lv_at hl 2 rfl) ?_
  obtain ⟨r1, hc2, hF⟩ := bd_some hF
  have hPc := hP.sub (ws' := [o12 h x_thrown a_s a_image x_hasImage x_act x_spot x_end x_isWrong x_open a_by a_truths x_turn x_lean x_last x_angle x_asLay x_ticks a_bodies x_ran x_kind x_number x_tellsV, aI G a_s 1394 f_s]) [0, 1] rfl
  have hDc := hD.sub (ws' := [o12 h x_thrown a_s a_image x_hasImage x_act x_spot x_end x_isWrong x_open a_by a_truths x_turn x_lean x_last x_angle x_asLay x_ticks a_bodies x_ran x_kind x_number x_tellsV, aI G a_s 1394 f_s]) [0, 1] (by decide) rfl
  have hFc := va_free (wc := [o12 h x_thrown a_s a_image x_hasImage x_act x_spot x_end x_isWrong x_open a_by a_truths x_turn x_lean x_last x_angle x_asLay x_ticks a_bodies x_ran x_kind x_number x_tellsV, aI G a_s 1394 f_s]) hD hS hA [0, 1] rfl
  have hM := c_X12_spells l G h a_s a_image a_by a_truths a_bodies x_thrown x_hasImage x_act x_spot x_end x_isWrong x_open x_turn x_lean x_last x_angle x_asLay x_ticks x_ran x_kind x_number x_tellsV f_s t2 ht2 r1.1 r1.2 hc2 H.size
  refine cl_v (w1 := [o12 h x_thrown a_s a_image x_hasImage x_act r1.1 x_end r1.2 x_open a_by a_truths x_turn x_lean x_last x_angle x_asLay x_ticks a_bodies x_ran x_kind x_number x_tellsV, aI G a_s 1394 f_s]) (ws' := [o12 h x_thrown a_s a_image x_hasImage x_act r1.1 x_end r1.2 x_open a_by a_truths x_turn x_lean x_last x_angle x_asLay x_ticks a_bodies x_ran x_kind x_number x_tellsV, aI G a_s 1394 f_s]) hP hD hS hFc [0, 1] rfl rfl rfl (va_runV (As := [.ref (G.2.2.1 t2)]) (rest := []) ⟨hx, hb, hml, hown, hts⟩ hM (cwV 1 hts gX12_much_X12_spells rfl rfl rfl (by decide +kernel) ⟨Nat.le_of_ble_eq_true rfl, Nat.le_of_ble_eq_true rfl⟩) (cp_V hK hE hS hPc hDc hFc (va_recv hK hPc (ci := 12) (q0 := 0) rfl rfl)) rfl rfl hl.1 rfl (lv_room (Nat.le_of_ble_eq_true rfl)) dX12_much_2 ⟨Nat.zero_le _, Nat.zero_le _⟩) (fun H locs hP hD hS => ?_)
  refine lv_aload_n hx hb dX12_much_5 rfl (lv_at hl 0 rfl) ?_
  obtain ⟨r3, hc4, hF⟩ := bd_some hF
  have hPc := hP.sub (ws' := [o12 h x_thrown a_s a_image x_hasImage x_act r1.1 x_end r1.2 x_open a_by a_truths x_turn x_lean x_last x_angle x_asLay x_ticks a_bodies x_ran x_kind x_number x_tellsV, aI G a_s 1394 f_s]) [0, 1] rfl
  have hDc := hD.sub (ws' := [o12 h x_thrown a_s a_image x_hasImage x_act r1.1 x_end r1.2 x_open a_by a_truths x_turn x_lean x_last x_angle x_asLay x_ticks a_bodies x_ran x_kind x_number x_tellsV, aI G a_s 1394 f_s]) [0, 1] (by decide) rfl
  have hFc := va_free (wc := [o12 h x_thrown a_s a_image x_hasImage x_act r1.1 x_end r1.2 x_open a_by a_truths x_turn x_lean x_last x_angle x_asLay x_ticks a_bodies x_ran x_kind x_number x_tellsV, aI G a_s 1394 f_s]) hD hS hA [0, 1] rfl
  have hM := c_X12_figures l G h a_s a_image a_by a_truths a_bodies x_thrown x_hasImage x_act r1.1 x_end r1.2 x_open x_turn x_lean x_last x_angle x_asLay x_ticks x_ran x_kind x_number x_tellsV f_s r3.1 r3.2.1 r3.2.2 hc4 H.size
  refine cl_i (w1 := [o12 h x_thrown a_s a_image x_hasImage x_act r3.2.1 x_end r3.2.2 x_open a_by a_truths x_turn x_lean x_last x_angle x_asLay x_ticks a_bodies x_ran x_kind x_number x_tellsV, aI G a_s 1394 f_s]) (ws' := [o12 h x_thrown a_s a_image x_hasImage x_act r3.2.1 x_end r3.2.2 x_open a_by a_truths x_turn x_lean x_last x_angle x_asLay x_ticks a_bodies x_ran x_kind x_number x_tellsV, aI G a_s 1394 f_s]) hP hD hS hFc [0, 1] rfl rfl rfl (va_runV (As := []) (rest := []) ⟨hx, hb, hml, hown, hts⟩ hM (cwV 0 hts gX12_much_X12_figures rfl rfl rfl (by decide +kernel) ⟨Nat.le_of_ble_eq_true rfl, Nat.le_of_ble_eq_true rfl⟩) (cp_V hK hE hS hPc hDc hFc (va_recv hK hPc (ci := 12) (q0 := 0) rfl rfl)) rfl rfl hl.1 rfl (lv_room (Nat.le_of_ble_eq_true rfl)) dX12_much_6 ⟨Nat.zero_le _, Nat.zero_le _⟩) (fun H locs hP hD hS => ?_)
  refine lv_istore_n (lv' := [(3, .int r3.1), (0, .ref h), (1, .int l1), (2, .ref (G.2.2.1 t2))]) hx hb dX12_much_9 rfl hl (by decide) rfl (fun ls hl => ?_)
  refine lv_aload_n hx hb dX12_much_10 rfl (lv_at hl 1 rfl) ?_
  refine lv_bipush (v := 32) hx hb dX12_much_11 (by decide) ?_
  obtain ⟨r5, hc6, hF⟩ := bd_some hF
  have hPc := hP.sub (ws' := [o12 h x_thrown a_s a_image x_hasImage x_act r3.2.1 x_end r3.2.2 x_open a_by a_truths x_turn x_lean x_last x_angle x_asLay x_ticks a_bodies x_ran x_kind x_number x_tellsV, aI G a_s 1394 f_s]) [0, 1] rfl
  have hDc := hD.sub (ws' := [o12 h x_thrown a_s a_image x_hasImage x_act r3.2.1 x_end r3.2.2 x_open a_by a_truths x_turn x_lean x_last x_angle x_asLay x_ticks a_bodies x_ran x_kind x_number x_tellsV, aI G a_s 1394 f_s]) [0, 1] (by decide) rfl
  have hFc := va_free (wc := [o12 h x_thrown a_s a_image x_hasImage x_act r3.2.1 x_end r3.2.2 x_open a_by a_truths x_turn x_lean x_last x_angle x_asLay x_ticks a_bodies x_ran x_kind x_number x_tellsV, aI G a_s 1394 f_s]) hD hS hA [0, 1] rfl
  have hM := c_X12_must l G h a_s a_image a_by a_truths a_bodies x_thrown x_hasImage x_act r3.2.1 x_end r3.2.2 x_open x_turn x_lean x_last x_angle x_asLay x_ticks x_ran x_kind x_number x_tellsV f_s (32 : Int32) r5.1 r5.2 hc6 H.size
  refine cl_v (w1 := [o12 h x_thrown a_s a_image x_hasImage x_act r5.1 x_end r5.2 x_open a_by a_truths x_turn x_lean x_last x_angle x_asLay x_ticks a_bodies x_ran x_kind x_number x_tellsV, aI G a_s 1394 f_s]) (ws' := [o12 h x_thrown a_s a_image x_hasImage x_act r5.1 x_end r5.2 x_open a_by a_truths x_turn x_lean x_last x_angle x_asLay x_ticks a_bodies x_ran x_kind x_number x_tellsV, aI G a_s 1394 f_s]) hP hD hS hFc [0, 1] rfl rfl rfl (va_runV (As := [.int 32]) (rest := []) ⟨hx, hb, hml, hown, hts⟩ hM (cwV 1 hts gX12_much_X12_must rfl rfl rfl (by decide +kernel) ⟨Nat.le_of_ble_eq_true rfl, Nat.le_of_ble_eq_true rfl⟩) (cp_V hK hE hS hPc hDc hFc (va_recv hK hPc (ci := 12) (q0 := 0) rfl rfl)) rfl rfl hl.1 rfl (lv_room (Nat.le_of_ble_eq_true rfl)) dX12_much_13 ⟨Nat.zero_le _, Nat.zero_le _⟩) (fun H locs hP hD hS => ?_)
  refine lv_aload_n hx hb dX12_much_16 rfl (lv_at hl 1 rfl) ?_
  obtain ⟨r7, hc8, hF⟩ := bd_some hF
  have hPc := hP.sub (ws' := [o12 h x_thrown a_s a_image x_hasImage x_act r5.1 x_end r5.2 x_open a_by a_truths x_turn x_lean x_last x_angle x_asLay x_ticks a_bodies x_ran x_kind x_number x_tellsV, aI G a_s 1394 f_s]) [0, 1] rfl
  have hDc := hD.sub (ws' := [o12 h x_thrown a_s a_image x_hasImage x_act r5.1 x_end r5.2 x_open a_by a_truths x_turn x_lean x_last x_angle x_asLay x_ticks a_bodies x_ran x_kind x_number x_tellsV, aI G a_s 1394 f_s]) [0, 1] (by decide) rfl
  have hFc := va_free (wc := [o12 h x_thrown a_s a_image x_hasImage x_act r5.1 x_end r5.2 x_open a_by a_truths x_turn x_lean x_last x_angle x_asLay x_ticks a_bodies x_ran x_kind x_number x_tellsV, aI G a_s 1394 f_s]) hD hS hA [0, 1] rfl
  have hM := (c_tM l G 40).2.2 h a_s a_image a_by a_truths a_bodies x_thrown x_hasImage x_act r5.1 x_end r5.2 x_open x_turn x_lean x_last x_angle x_asLay x_ticks x_ran x_kind x_number x_tellsV f_s r7.1 r7.2.1 r7.2.2.1 r7.2.2.2 hc8 H.size
  refine cl_v (w1 := [o12 h x_thrown a_s a_image x_hasImage x_act r7.1 x_end r7.2.1 r7.2.2.1 a_by a_truths x_turn x_lean x_last x_angle x_asLay x_ticks a_bodies x_ran x_kind x_number x_tellsV, aI G a_s 1394 r7.2.2.2]) (ws' := [o12 h x_thrown a_s a_image x_hasImage x_act r7.1 x_end r7.2.1 r7.2.2.1 a_by a_truths x_turn x_lean x_last x_angle x_asLay x_ticks a_bodies x_ran x_kind x_number x_tellsV, aI G a_s 1394 r7.2.2.2]) hP hD hS hFc [0, 1] rfl rfl rfl (va_runV (As := []) (rest := []) ⟨hx, hb, hml, hown, hts⟩ hM (cwV 0 hts gX12_much_X12_some rfl rfl rfl (by decide +kernel) ⟨Nat.le_of_ble_eq_true rfl, Nat.le_of_ble_eq_true rfl⟩) (cp_V hK hE hS hPc hDc hFc (va_recv hK hPc (ci := 12) (q0 := 0) rfl rfl)) rfl rfl hl.1 rfl (lv_room (Nat.le_of_ble_eq_true rfl)) dX12_much_17 ⟨Nat.zero_le _, Nat.zero_le _⟩) (fun H locs hP hD hS => ?_)
  refine lv_aload_n hx hb dX12_much_20 rfl (lv_at hl 1 rfl) ?_
  refine lv_iload_n hx hb dX12_much_21 rfl (lv_at hl 2 rfl) ?_
  refine W.eq (g2 := F0 m 22 ls [.int l1, .ref h]) rfl ?_
  refine lv_iload_n hx hb dX12_much_22 rfl (lv_at hl 0 rfl) ?_
  refine lv_isub hx hb dX12_much_23 ?_
  obtain ⟨r9, hc10, hF⟩ := bd_some hF
  have hPc := hP.sub (ws' := [o12 h x_thrown a_s a_image x_hasImage x_act r7.1 x_end r7.2.1 r7.2.2.1 a_by a_truths x_turn x_lean x_last x_angle x_asLay x_ticks a_bodies x_ran x_kind x_number x_tellsV, aI G a_s 1394 r7.2.2.2]) [0, 1] rfl
  have hDc := hD.sub (ws' := [o12 h x_thrown a_s a_image x_hasImage x_act r7.1 x_end r7.2.1 r7.2.2.1 a_by a_truths x_turn x_lean x_last x_angle x_asLay x_ticks a_bodies x_ran x_kind x_number x_tellsV, aI G a_s 1394 r7.2.2.2]) [0, 1] (by decide) rfl
  have hFc := va_free (wc := [o12 h x_thrown a_s a_image x_hasImage x_act r7.1 x_end r7.2.1 r7.2.2.1 a_by a_truths x_turn x_lean x_last x_angle x_asLay x_ticks a_bodies x_ran x_kind x_number x_tellsV, aI G a_s 1394 r7.2.2.2]) hD hS hA [0, 1] rfl
  have hM := c_X12_emits l G h a_s a_image a_by a_truths a_bodies x_thrown x_hasImage x_act r7.1 x_end r7.2.1 r7.2.2.1 x_turn x_lean x_last x_angle x_asLay x_ticks x_ran x_kind x_number x_tellsV r7.2.2.2 (l1 - r3.1) r9 hc10 H.size
  refine cl_v (w1 := [o12 h x_thrown a_s a_image x_hasImage x_act r7.1 x_end r7.2.1 r7.2.2.1 a_by a_truths x_turn x_lean x_last x_angle x_asLay x_ticks a_bodies x_ran x_kind x_number x_tellsV, aI G a_s 1394 r9]) (ws' := [o12 h x_thrown a_s a_image x_hasImage x_act r7.1 x_end r7.2.1 r7.2.2.1 a_by a_truths x_turn x_lean x_last x_angle x_asLay x_ticks a_bodies x_ran x_kind x_number x_tellsV, aI G a_s 1394 r9]) hP hD hS hFc [0, 1] rfl rfl rfl (va_runV (As := [.int (l1 - r3.1)]) (rest := []) ⟨hx, hb, hml, hown, hts⟩ hM (cwV 1 hts gX12_much_X12_emits rfl rfl rfl (by decide +kernel) ⟨Nat.le_of_ble_eq_true rfl, Nat.le_of_ble_eq_true rfl⟩) (cp_V hK hE hS hPc hDc hFc (va_recv hK hPc (ci := 12) (q0 := 0) rfl rfl)) rfl rfl hl.1 rfl (lv_room (Nat.le_of_ble_eq_true rfl)) dX12_much_24 ⟨Nat.zero_le _, Nat.zero_le _⟩) (fun H locs hP hD hS => ?_)
  injection hF with hz
  injection hz with hq0 hz
  injection hz with hq1 hz
  injection hz with hq2 hz
  subst hq0
  subst hq1
  subst hq2
  subst hz
  exact cm_retv hx hb hr hlk hK hP hD hS dX12_much_27

/-! HeadsByHairModel.clauseHere()V -/
abbrev rm_X12_clauseHere : Room := { frames := 52, cells := 0, slots := 0, locals := 2743 }
set_option maxHeartbeats 4000000 in
set_option maxRecDepth 100000 in
theorem c_X12_clauseHere (l : Launch) (G : GG) (h a_s a_image a_by a_truths a_bodies : Nat) (x_thrown x_hasImage x_act x_spot x_end x_isWrong x_open x_turn x_lean x_last x_angle x_asLay x_ticks x_ran x_kind x_number x_tellsV : Int32) (f_s : Nat → Int32) (z_x_spot : Int32) (z_x_isWrong : Int32) (z_x_open : Int32) (z_f_s : Nat → Int32) (hF : fX12_clauseHere x_act x_spot x_end x_isWrong x_open f_s = some (z_x_spot, z_x_isWrong, z_x_open, z_f_s)) : CMv l yX12_clauseHere wsX12_clauseHere rm_X12_clauseHere G [o12 h x_thrown a_s a_image x_hasImage x_act x_spot x_end x_isWrong x_open a_by a_truths x_turn x_lean x_last x_angle x_asLay x_ticks a_bodies x_ran x_kind x_number x_tellsV, aI G a_s 1394 f_s] [o12 h x_thrown a_s a_image x_hasImage x_act z_x_spot x_end z_x_isWrong z_x_open a_by a_truths x_turn x_lean x_last x_angle x_asLay x_ticks a_bodies x_ran x_kind x_number x_tellsV, aI G a_s 1394 z_f_s] [.ref h] := by
  refine cm_start (cc := cX12_clauseHere) (maxL := 2) (ret := none) (Qc := fun A => QV G [o12 h x_thrown a_s a_image x_hasImage x_act z_x_spot x_end z_x_isWrong z_x_open a_by a_truths x_turn x_lean x_last x_angle x_asLay x_ticks a_bodies x_ran x_kind x_number x_tellsV, aI G a_s 1394 z_f_s] A) (by decide +kernel) rfl (Nat.le_of_ble_eq_true rfl) ?_
  intro p e s m args below meth c A hx hb hr hlk hml hown hnm hts hA H locs hP hK hD hE hS ls hl
  have hown : s.vm.findClass RX12 = some m.cls := hown
  have hl : lv_has ls 2 [(0, .ref h)] := hl
  have hin12 : ∀ w ∈ wsX120, w ∈ wsX12_clauseHere := by decide +kernel
  have lk_9 := hts (.fieldLink RX12 9 "HeadsByHairModel" "s" "[I") (by decide +kernel)
  have lk_83 := hts (.fieldLink RX12 83 "HeadsByHairModel" "act" "I") (by decide +kernel)
  have lk_62 := hts (.fieldLink RX12 62 "HeadsByHairModel" "isWrong" "Z") (by decide +kernel)
  revert hF
  have B138 : ∀ (x_spot : Int32) (x_isWrong : Int32) (x_open : Int32) (f_s : Nat → Int32) (s1 : Int32) (s2 : Int32) (H : Heap) (locs : List Loc) (ls : Array Slot), va_P G.1 vwCl [o12 h x_thrown a_s a_image x_hasImage x_act x_spot x_end x_isWrong x_open a_by a_truths x_turn x_lean x_last x_angle x_asLay x_ticks a_bodies x_ran x_kind x_number x_tellsV, aI G a_s 1394 f_s] H → va_D A [o12 h x_thrown a_s a_image x_hasImage x_act x_spot x_end x_isWrong x_open a_by a_truths x_turn x_lean x_last x_angle x_asLay x_ticks a_bodies x_ran x_kind x_number x_tellsV, aI G a_s 1394 f_s] → va_S A s.heap H locs → lv_has ls 2 [] → fX12_clauseHere_b138 x_act x_spot x_end x_isWrong x_open f_s s1 s2 = some (z_x_spot, z_x_isWrong, z_x_open, z_f_s) → W p l e (rm_X12_clauseHere) s m args below meth c H locs 0 0 (MQ below (QV G [o12 h x_thrown a_s a_image x_hasImage x_act z_x_spot x_end z_x_isWrong z_x_open a_by a_truths x_turn x_lean x_last x_angle x_asLay x_ticks a_bodies x_ran x_kind x_number x_tellsV, aI G a_s 1394 z_f_s] A) args s 0 0 A) (F0 m 138 ls [.int s2, .int s1, .ref a_s]) := by
    intro x_spot x_isWrong x_open f_s s1 s2 H locs ls hP hD hS hl hF
    unfold fX12_clauseHere_b138 at hF
    obtain ⟨hi9, hF⟩ := ck_some hF
    refine va_iast (D := G.1) hx hb hK hP hD hS 1 0 rfl rfl hi9 dX12_clauseHere_138 (fun H locs hP hD hS => ?_)
    have hP : va_P G.1 vwCl [o12 h x_thrown a_s a_image x_hasImage x_act x_spot x_end x_isWrong x_open a_by a_truths x_turn x_lean x_last x_angle x_asLay x_ticks a_bodies x_ran x_kind x_number x_tellsV, aI G a_s 1394 (upd f_s s1.toNatClampNeg s2)] H := hP
    have hD : va_D A [o12 h x_thrown a_s a_image x_hasImage x_act x_spot x_end x_isWrong x_open a_by a_truths x_turn x_lean x_last x_angle x_asLay x_ticks a_bodies x_ran x_kind x_number x_tellsV, aI G a_s 1394 (upd f_s s1.toNatClampNeg s2)] := hD
    refine lv_goto (tgt := 147) hx hb dX12_clauseHere_139 (by decide) ?_
    injection hF with hz
    injection hz with hq0 hz
    injection hz with hq1 hz
    injection hz with hq2 hz
    subst hq0
    subst hq1
    subst hq2
    subst hz
    exact cm_retv hx hb hr hlk hK hP hD hS dX12_clauseHere_147
  intro hF
  unfold fX12_clauseHere at hF
  refine lv_aload_n hx hb dX12_clauseHere_0 rfl (lv_at hl 0 rfl) ?_
  obtain ⟨r1, hc2, hF⟩ := bd_some hF
  have hPc := hP.sub (ws' := [o12 h x_thrown a_s a_image x_hasImage x_act x_spot x_end x_isWrong x_open a_by a_truths x_turn x_lean x_last x_angle x_asLay x_ticks a_bodies x_ran x_kind x_number x_tellsV, aI G a_s 1394 f_s]) [0, 1] rfl
  have hDc := hD.sub (ws' := [o12 h x_thrown a_s a_image x_hasImage x_act x_spot x_end x_isWrong x_open a_by a_truths x_turn x_lean x_last x_angle x_asLay x_ticks a_bodies x_ran x_kind x_number x_tellsV, aI G a_s 1394 f_s]) [0, 1] (by decide) rfl
  have hFc := va_free (wc := [o12 h x_thrown a_s a_image x_hasImage x_act x_spot x_end x_isWrong x_open a_by a_truths x_turn x_lean x_last x_angle x_asLay x_ticks a_bodies x_ran x_kind x_number x_tellsV, aI G a_s 1394 f_s]) hD hS hA [0, 1] rfl
  have hM := c_X12_here l G h a_s a_image a_by a_truths a_bodies x_thrown x_hasImage x_act x_spot x_end x_isWrong x_open x_turn x_lean x_last x_angle x_asLay x_ticks x_ran x_kind x_number x_tellsV f_s r1 hc2 H.size
  refine cl_i (w1 := [o12 h x_thrown a_s a_image x_hasImage x_act x_spot x_end x_isWrong x_open a_by a_truths x_turn x_lean x_last x_angle x_asLay x_ticks a_bodies x_ran x_kind x_number x_tellsV, aI G a_s 1394 f_s]) (ws' := [o12 h x_thrown a_s a_image x_hasImage x_act x_spot x_end x_isWrong x_open a_by a_truths x_turn x_lean x_last x_angle x_asLay x_ticks a_bodies x_ran x_kind x_number x_tellsV, aI G a_s 1394 f_s]) hP hD hS hFc [0, 1] rfl rfl rfl (va_runV (As := []) (rest := []) ⟨hx, hb, hml, hown, hts⟩ hM (cwV 0 hts gX12_clauseHere_X12_here rfl rfl rfl (by decide +kernel) ⟨Nat.le_of_ble_eq_true rfl, Nat.le_of_ble_eq_true rfl⟩) (cp_V hK hE hS hPc hDc hFc (va_recv hK hPc (ci := 12) (q0 := 0) rfl rfl)) rfl rfl hl.1 rfl (lv_room (Nat.le_of_ble_eq_true rfl)) dX12_clauseHere_1 ⟨Nat.zero_le _, Nat.zero_le _⟩) (fun H locs hP hD hS => ?_)
  by_cases c3 : r1 = 99
  · rw [if_pos c3] at hF
    refine lv_eqi c3 ?_
    refine lv_lookup (tgt := 91) (off := 87) hx hb dX12_clauseHere_4 (by decide) (by decide) (by decide) ?_
    refine lv_aload_n hx hb dX12_clauseHere_91 rfl (lv_at hl 0 rfl) ?_
    refine va_ldcS hx hb hown (hE.ref (i := 11) (by decide)) dX12_clauseHere_92 ?_
    obtain ⟨r4, hc5, hF⟩ := bd_some hF
    have hPc := hP.sub (ws' := [o12 h x_thrown a_s a_image x_hasImage x_act x_spot x_end x_isWrong x_open a_by a_truths x_turn x_lean x_last x_angle x_asLay x_ticks a_bodies x_ran x_kind x_number x_tellsV, aI G a_s 1394 f_s]) [0, 1] rfl
    have hDc := hD.sub (ws' := [o12 h x_thrown a_s a_image x_hasImage x_act x_spot x_end x_isWrong x_open a_by a_truths x_turn x_lean x_last x_angle x_asLay x_ticks a_bodies x_ran x_kind x_number x_tellsV, aI G a_s 1394 f_s]) [0, 1] (by decide) rfl
    have hFc := va_free (wc := [o12 h x_thrown a_s a_image x_hasImage x_act x_spot x_end x_isWrong x_open a_by a_truths x_turn x_lean x_last x_angle x_asLay x_ticks a_bodies x_ran x_kind x_number x_tellsV, aI G a_s 1394 f_s]) hD hS hA [0, 1] rfl
    have hM := c_X12_spells l G h a_s a_image a_by a_truths a_bodies x_thrown x_hasImage x_act x_spot x_end x_isWrong x_open x_turn x_lean x_last x_angle x_asLay x_ticks x_ran x_kind x_number x_tellsV f_s 11 (by decide) r4.1 r4.2 hc5 H.size
    refine cl_v (w1 := [o12 h x_thrown a_s a_image x_hasImage x_act r4.1 x_end r4.2 x_open a_by a_truths x_turn x_lean x_last x_angle x_asLay x_ticks a_bodies x_ran x_kind x_number x_tellsV, aI G a_s 1394 f_s]) (ws' := [o12 h x_thrown a_s a_image x_hasImage x_act r4.1 x_end r4.2 x_open a_by a_truths x_turn x_lean x_last x_angle x_asLay x_ticks a_bodies x_ran x_kind x_number x_tellsV, aI G a_s 1394 f_s]) hP hD hS hFc [0, 1] rfl rfl rfl (va_runV (As := [.ref (G.2.2.1 11)]) (rest := []) ⟨hx, hb, hml, hown, hts⟩ hM (cwV 1 hts gX12_clauseHere_X12_spells rfl rfl rfl (by decide +kernel) ⟨Nat.le_of_ble_eq_true rfl, Nat.le_of_ble_eq_true rfl⟩) (cp_V hK hE hS hPc hDc hFc (va_recv hK hPc (ci := 12) (q0 := 0) rfl rfl)) rfl rfl hl.1 rfl (lv_room (Nat.le_of_ble_eq_true rfl)) dX12_clauseHere_94 ⟨Nat.zero_le _, Nat.zero_le _⟩) (fun H locs hP hD hS => ?_)
    refine lv_aload_n hx hb dX12_clauseHere_97 rfl (lv_at hl 0 rfl) ?_
    obtain ⟨r6, hc7, hF⟩ := bd_some hF
    have hPc := hP.sub (ws' := [o12 h x_thrown a_s a_image x_hasImage x_act r4.1 x_end r4.2 x_open a_by a_truths x_turn x_lean x_last x_angle x_asLay x_ticks a_bodies x_ran x_kind x_number x_tellsV, aI G a_s 1394 f_s]) [0, 1] rfl
    have hDc := hD.sub (ws' := [o12 h x_thrown a_s a_image x_hasImage x_act r4.1 x_end r4.2 x_open a_by a_truths x_turn x_lean x_last x_angle x_asLay x_ticks a_bodies x_ran x_kind x_number x_tellsV, aI G a_s 1394 f_s]) [0, 1] (by decide) rfl
    have hFc := va_free (wc := [o12 h x_thrown a_s a_image x_hasImage x_act r4.1 x_end r4.2 x_open a_by a_truths x_turn x_lean x_last x_angle x_asLay x_ticks a_bodies x_ran x_kind x_number x_tellsV, aI G a_s 1394 f_s]) hD hS hA [0, 1] rfl
    have hM := c_X12_figures l G h a_s a_image a_by a_truths a_bodies x_thrown x_hasImage x_act r4.1 x_end r4.2 x_open x_turn x_lean x_last x_angle x_asLay x_ticks x_ran x_kind x_number x_tellsV f_s r6.1 r6.2.1 r6.2.2 hc7 H.size
    refine cl_i (w1 := [o12 h x_thrown a_s a_image x_hasImage x_act r6.2.1 x_end r6.2.2 x_open a_by a_truths x_turn x_lean x_last x_angle x_asLay x_ticks a_bodies x_ran x_kind x_number x_tellsV, aI G a_s 1394 f_s]) (ws' := [o12 h x_thrown a_s a_image x_hasImage x_act r6.2.1 x_end r6.2.2 x_open a_by a_truths x_turn x_lean x_last x_angle x_asLay x_ticks a_bodies x_ran x_kind x_number x_tellsV, aI G a_s 1394 f_s]) hP hD hS hFc [0, 1] rfl rfl rfl (va_runV (As := []) (rest := []) ⟨hx, hb, hml, hown, hts⟩ hM (cwV 0 hts gX12_clauseHere_X12_figures rfl rfl rfl (by decide +kernel) ⟨Nat.le_of_ble_eq_true rfl, Nat.le_of_ble_eq_true rfl⟩) (cp_V hK hE hS hPc hDc hFc (va_recv hK hPc (ci := 12) (q0 := 0) rfl rfl)) rfl rfl hl.1 rfl (lv_room (Nat.le_of_ble_eq_true rfl)) dX12_clauseHere_98 ⟨Nat.zero_le _, Nat.zero_le _⟩) (fun H locs hP hD hS => ?_)
    refine lv_istore_n (lv' := [(1, .int r6.1), (0, .ref h)]) hx hb dX12_clauseHere_101 rfl hl (by decide) rfl (fun ls hl => ?_)
    refine lv_aload_n hx hb dX12_clauseHere_102 rfl (lv_at hl 1 rfl) ?_
    refine va_get (D := G.1) (ci := 12) (v := .ref a_s) (C := RX12) (T := TX12) (N := 22) hx hb hts hin12 hown hK hP 0 rfl rfl 1 (by decide) lk_9 (fun _ h9 => h9) rfl dX12_clauseHere_103 ?_
    refine lv_sipush (v := 242) hx hb dX12_clauseHere_106 (by decide) ?_
    refine lv_aload_n hx hb dX12_clauseHere_109 rfl (lv_at hl 1 rfl) ?_
    refine W.eq (g2 := F0 m 110 ls [.ref h, .int 242, .ref a_s]) rfl ?_
    refine va_get (D := G.1) (ci := 12) (v := .int x_act) (C := RX12) (T := TX12) (N := 22) hx hb hts hin12 hown hK hP 0 rfl rfl 4 (by decide) lk_83 (fun _ h9 => h9) rfl dX12_clauseHere_110 ?_
    refine lv_iadd hx hb dX12_clauseHere_113 ?_
    refine lv_aload_n hx hb dX12_clauseHere_114 rfl (lv_at hl 1 rfl) ?_
    refine va_get (D := G.1) (ci := 12) (v := .int r6.2.2) (C := RX12) (T := TX12) (N := 22) hx hb hts hin12 hown hK hP 0 rfl rfl 7 (by decide) lk_62 (fun _ h9 => h9) rfl dX12_clauseHere_115 ?_
    refine lv_if_eq (tgt := 137) hx hb dX12_clauseHere_118 (by decide) (fun c8 => ?_) (fun c8 => ?_)
    · rw [if_pos c8] at hF
      refine lv_iload_n hx hb dX12_clauseHere_137 rfl (lv_at hl 0 rfl) ?_
      exact B138 _ _ _ _ _ _ H locs ls hP hD hS (lv_sub hl [] rfl) hF
    rw [if_neg c8] at hF
    refine lv_aload_n hx hb dX12_clauseHere_121 rfl (lv_at hl 1 rfl) ?_
    refine va_get (D := G.1) (ci := 12) (v := .ref a_s) (C := RX12) (T := TX12) (N := 22) hx hb hts hin12 hown hK hP 0 rfl rfl 1 (by decide) lk_9 (fun _ h9 => h9) rfl dX12_clauseHere_122 ?_
    refine lv_sipush (v := 242) hx hb dX12_clauseHere_125 (by decide) ?_
    refine lv_aload_n hx hb dX12_clauseHere_128 rfl (lv_at hl 1 rfl) ?_
    refine va_get (D := G.1) (ci := 12) (v := .int x_act) (C := RX12) (T := TX12) (N := 22) hx hb hts hin12 hown hK hP 0 rfl rfl 4 (by decide) lk_83 (fun _ h9 => h9) rfl dX12_clauseHere_129 ?_
    refine lv_iadd hx hb dX12_clauseHere_132 ?_
    obtain ⟨hi10, hF⟩ := ck_some hF
    refine va_iald (D := G.1) hx hb hK hP 1 0 rfl rfl hi10 dX12_clauseHere_133 ?_
    refine lv_goto (tgt := 138) hx hb dX12_clauseHere_134 (by decide) ?_
    exact B138 _ _ _ _ _ _ H locs ls hP hD hS (lv_sub hl [] rfl) hF
  rw [if_neg c3] at hF
  by_cases c11 : r1 = 108
  · rw [if_pos c11] at hF
    refine lv_eqi c11 ?_
    refine lv_lookup (tgt := 59) (off := 55) hx hb dX12_clauseHere_4 (by decide) (by decide) (by decide) ?_
    refine lv_aload_n hx hb dX12_clauseHere_59 rfl (lv_at hl 0 rfl) ?_
    refine lv_sipush (v := (-200)) hx hb dX12_clauseHere_60 (by decide) ?_
    refine va_ldcS hx hb hown (hE.ref (i := 9) (by decide)) dX12_clauseHere_63 ?_
    obtain ⟨r12, hc13, hF⟩ := bd_some hF
    have hPc := hP.sub (ws' := [o12 h x_thrown a_s a_image x_hasImage x_act x_spot x_end x_isWrong x_open a_by a_truths x_turn x_lean x_last x_angle x_asLay x_ticks a_bodies x_ran x_kind x_number x_tellsV, aI G a_s 1394 f_s]) [0, 1] rfl
    have hDc := hD.sub (ws' := [o12 h x_thrown a_s a_image x_hasImage x_act x_spot x_end x_isWrong x_open a_by a_truths x_turn x_lean x_last x_angle x_asLay x_ticks a_bodies x_ran x_kind x_number x_tellsV, aI G a_s 1394 f_s]) [0, 1] (by decide) rfl
    have hFc := va_free (wc := [o12 h x_thrown a_s a_image x_hasImage x_act x_spot x_end x_isWrong x_open a_by a_truths x_turn x_lean x_last x_angle x_asLay x_ticks a_bodies x_ran x_kind x_number x_tellsV, aI G a_s 1394 f_s]) hD hS hA [0, 1] rfl
    have hM := c_X12_much l G h a_s a_image a_by a_truths a_bodies x_thrown x_hasImage x_act x_spot x_end x_isWrong x_open x_turn x_lean x_last x_angle x_asLay x_ticks x_ran x_kind x_number x_tellsV f_s 9 (by decide) ((-200) : Int32) r12.1 r12.2.1 r12.2.2.1 r12.2.2.2 hc13 H.size
    refine cl_v (w1 := [o12 h x_thrown a_s a_image x_hasImage x_act r12.1 x_end r12.2.1 r12.2.2.1 a_by a_truths x_turn x_lean x_last x_angle x_asLay x_ticks a_bodies x_ran x_kind x_number x_tellsV, aI G a_s 1394 r12.2.2.2]) (ws' := [o12 h x_thrown a_s a_image x_hasImage x_act r12.1 x_end r12.2.1 r12.2.2.1 a_by a_truths x_turn x_lean x_last x_angle x_asLay x_ticks a_bodies x_ran x_kind x_number x_tellsV, aI G a_s 1394 r12.2.2.2]) hP hD hS hFc [0, 1] rfl rfl rfl (va_runV (As := [.int (-200), .ref (G.2.2.1 9)]) (rest := []) ⟨hx, hb, hml, hown, hts⟩ hM (cwV 2 hts gX12_clauseHere_X12_much rfl rfl rfl (by decide +kernel) ⟨Nat.le_of_ble_eq_true rfl, Nat.le_of_ble_eq_true rfl⟩) (cp_V hK hE hS hPc hDc hFc (va_recv hK hPc (ci := 12) (q0 := 0) rfl rfl)) rfl rfl hl.1 rfl (lv_room (Nat.le_of_ble_eq_true rfl)) dX12_clauseHere_65 ⟨Nat.zero_le _, Nat.zero_le _⟩) (fun H locs hP hD hS => ?_)
    refine lv_goto (tgt := 147) hx hb dX12_clauseHere_68 (by decide) ?_
    injection hF with hz
    injection hz with hq0 hz
    injection hz with hq1 hz
    injection hz with hq2 hz
    subst hq0
    subst hq1
    subst hq2
    subst hz
    exact cm_retv hx hb hr hlk hK hP hD hS dX12_clauseHere_147
  rw [if_neg c11] at hF
  by_cases c14 : r1 = 115
  · rw [if_pos c14] at hF
    refine lv_eqi c14 ?_
    refine lv_lookup (tgt := 71) (off := 67) hx hb dX12_clauseHere_4 (by decide) (by decide) (by decide) ?_
    refine lv_aload_n hx hb dX12_clauseHere_71 rfl (lv_at hl 0 rfl) ?_
    refine va_ldcS hx hb hown (hE.ref (i := 10) (by decide)) dX12_clauseHere_72 ?_
    obtain ⟨r15, hc16, hF⟩ := bd_some hF
    have hPc := hP.sub (ws' := [o12 h x_thrown a_s a_image x_hasImage x_act x_spot x_end x_isWrong x_open a_by a_truths x_turn x_lean x_last x_angle x_asLay x_ticks a_bodies x_ran x_kind x_number x_tellsV, aI G a_s 1394 f_s]) [0, 1] rfl
    have hDc := hD.sub (ws' := [o12 h x_thrown a_s a_image x_hasImage x_act x_spot x_end x_isWrong x_open a_by a_truths x_turn x_lean x_last x_angle x_asLay x_ticks a_bodies x_ran x_kind x_number x_tellsV, aI G a_s 1394 f_s]) [0, 1] (by decide) rfl
    have hFc := va_free (wc := [o12 h x_thrown a_s a_image x_hasImage x_act x_spot x_end x_isWrong x_open a_by a_truths x_turn x_lean x_last x_angle x_asLay x_ticks a_bodies x_ran x_kind x_number x_tellsV, aI G a_s 1394 f_s]) hD hS hA [0, 1] rfl
    have hM := c_X12_spells l G h a_s a_image a_by a_truths a_bodies x_thrown x_hasImage x_act x_spot x_end x_isWrong x_open x_turn x_lean x_last x_angle x_asLay x_ticks x_ran x_kind x_number x_tellsV f_s 10 (by decide) r15.1 r15.2 hc16 H.size
    refine cl_v (w1 := [o12 h x_thrown a_s a_image x_hasImage x_act r15.1 x_end r15.2 x_open a_by a_truths x_turn x_lean x_last x_angle x_asLay x_ticks a_bodies x_ran x_kind x_number x_tellsV, aI G a_s 1394 f_s]) (ws' := [o12 h x_thrown a_s a_image x_hasImage x_act r15.1 x_end r15.2 x_open a_by a_truths x_turn x_lean x_last x_angle x_asLay x_ticks a_bodies x_ran x_kind x_number x_tellsV, aI G a_s 1394 f_s]) hP hD hS hFc [0, 1] rfl rfl rfl (va_runV (As := [.ref (G.2.2.1 10)]) (rest := []) ⟨hx, hb, hml, hown, hts⟩ hM (cwV 1 hts gX12_clauseHere_X12_spells rfl rfl rfl (by decide +kernel) ⟨Nat.le_of_ble_eq_true rfl, Nat.le_of_ble_eq_true rfl⟩) (cp_V hK hE hS hPc hDc hFc (va_recv hK hPc (ci := 12) (q0 := 0) rfl rfl)) rfl rfl hl.1 rfl (lv_room (Nat.le_of_ble_eq_true rfl)) dX12_clauseHere_74 ⟨Nat.zero_le _, Nat.zero_le _⟩) (fun H locs hP hD hS => ?_)
    refine lv_aload_n hx hb dX12_clauseHere_77 rfl (lv_at hl 0 rfl) ?_
    obtain ⟨r17, hc18, hF⟩ := bd_some hF
    have hPc := hP.sub (ws' := [o12 h x_thrown a_s a_image x_hasImage x_act r15.1 x_end r15.2 x_open a_by a_truths x_turn x_lean x_last x_angle x_asLay x_ticks a_bodies x_ran x_kind x_number x_tellsV, aI G a_s 1394 f_s]) [0, 1] rfl
    have hDc := hD.sub (ws' := [o12 h x_thrown a_s a_image x_hasImage x_act r15.1 x_end r15.2 x_open a_by a_truths x_turn x_lean x_last x_angle x_asLay x_ticks a_bodies x_ran x_kind x_number x_tellsV, aI G a_s 1394 f_s]) [0, 1] (by decide) rfl
    have hFc := va_free (wc := [o12 h x_thrown a_s a_image x_hasImage x_act r15.1 x_end r15.2 x_open a_by a_truths x_turn x_lean x_last x_angle x_asLay x_ticks a_bodies x_ran x_kind x_number x_tellsV, aI G a_s 1394 f_s]) hD hS hA [0, 1] rfl
    have hM := (c_tM l G 40).2.2 h a_s a_image a_by a_truths a_bodies x_thrown x_hasImage x_act r15.1 x_end r15.2 x_open x_turn x_lean x_last x_angle x_asLay x_ticks x_ran x_kind x_number x_tellsV f_s r17.1 r17.2.1 r17.2.2.1 r17.2.2.2 hc18 H.size
    refine cl_v (w1 := [o12 h x_thrown a_s a_image x_hasImage x_act r17.1 x_end r17.2.1 r17.2.2.1 a_by a_truths x_turn x_lean x_last x_angle x_asLay x_ticks a_bodies x_ran x_kind x_number x_tellsV, aI G a_s 1394 r17.2.2.2]) (ws' := [o12 h x_thrown a_s a_image x_hasImage x_act r17.1 x_end r17.2.1 r17.2.2.1 a_by a_truths x_turn x_lean x_last x_angle x_asLay x_ticks a_bodies x_ran x_kind x_number x_tellsV, aI G a_s 1394 r17.2.2.2]) hP hD hS hFc [0, 1] rfl rfl rfl (va_runV (As := []) (rest := []) ⟨hx, hb, hml, hown, hts⟩ hM (cwV 0 hts gX12_clauseHere_X12_some rfl rfl rfl (by decide +kernel) ⟨Nat.le_of_ble_eq_true rfl, Nat.le_of_ble_eq_true rfl⟩) (cp_V hK hE hS hPc hDc hFc (va_recv hK hPc (ci := 12) (q0 := 0) rfl rfl)) rfl rfl hl.1 rfl (lv_room (Nat.le_of_ble_eq_true rfl)) dX12_clauseHere_78 ⟨Nat.zero_le _, Nat.zero_le _⟩) (fun H locs hP hD hS => ?_)
    refine lv_aload_n hx hb dX12_clauseHere_81 rfl (lv_at hl 0 rfl) ?_
    refine lv_sipush (v := (-400)) hx hb dX12_clauseHere_82 (by decide) ?_
    obtain ⟨r19, hc20, hF⟩ := bd_some hF
    have hPc := hP.sub (ws' := [o12 h x_thrown a_s a_image x_hasImage x_act r17.1 x_end r17.2.1 r17.2.2.1 a_by a_truths x_turn x_lean x_last x_angle x_asLay x_ticks a_bodies x_ran x_kind x_number x_tellsV, aI G a_s 1394 r17.2.2.2]) [0, 1] rfl
    have hDc := hD.sub (ws' := [o12 h x_thrown a_s a_image x_hasImage x_act r17.1 x_end r17.2.1 r17.2.2.1 a_by a_truths x_turn x_lean x_last x_angle x_asLay x_ticks a_bodies x_ran x_kind x_number x_tellsV, aI G a_s 1394 r17.2.2.2]) [0, 1] (by decide) rfl
    have hFc := va_free (wc := [o12 h x_thrown a_s a_image x_hasImage x_act r17.1 x_end r17.2.1 r17.2.2.1 a_by a_truths x_turn x_lean x_last x_angle x_asLay x_ticks a_bodies x_ran x_kind x_number x_tellsV, aI G a_s 1394 r17.2.2.2]) hD hS hA [0, 1] rfl
    have hM := c_X12_emits l G h a_s a_image a_by a_truths a_bodies x_thrown x_hasImage x_act r17.1 x_end r17.2.1 r17.2.2.1 x_turn x_lean x_last x_angle x_asLay x_ticks x_ran x_kind x_number x_tellsV r17.2.2.2 ((-400) : Int32) r19 hc20 H.size
    refine cl_v (w1 := [o12 h x_thrown a_s a_image x_hasImage x_act r17.1 x_end r17.2.1 r17.2.2.1 a_by a_truths x_turn x_lean x_last x_angle x_asLay x_ticks a_bodies x_ran x_kind x_number x_tellsV, aI G a_s 1394 r19]) (ws' := [o12 h x_thrown a_s a_image x_hasImage x_act r17.1 x_end r17.2.1 r17.2.2.1 a_by a_truths x_turn x_lean x_last x_angle x_asLay x_ticks a_bodies x_ran x_kind x_number x_tellsV, aI G a_s 1394 r19]) hP hD hS hFc [0, 1] rfl rfl rfl (va_runV (As := [.int (-400)]) (rest := []) ⟨hx, hb, hml, hown, hts⟩ hM (cwV 1 hts gX12_clauseHere_X12_emits rfl rfl rfl (by decide +kernel) ⟨Nat.le_of_ble_eq_true rfl, Nat.le_of_ble_eq_true rfl⟩) (cp_V hK hE hS hPc hDc hFc (va_recv hK hPc (ci := 12) (q0 := 0) rfl rfl)) rfl rfl hl.1 rfl (lv_room (Nat.le_of_ble_eq_true rfl)) dX12_clauseHere_85 ⟨Nat.zero_le _, Nat.zero_le _⟩) (fun H locs hP hD hS => ?_)
    refine lv_goto (tgt := 147) hx hb dX12_clauseHere_88 (by decide) ?_
    injection hF with hz
    injection hz with hq0 hz
    injection hz with hq1 hz
    injection hz with hq2 hz
    subst hq0
    subst hq1
    subst hq2
    subst hz
    exact cm_retv hx hb hr hlk hK hP hD hS dX12_clauseHere_147
  rw [if_neg c14] at hF
  by_cases c21 : r1 = 116
  · rw [if_pos c21] at hF
    refine lv_eqi c21 ?_
    refine lv_lookup (tgt := 48) (off := 44) hx hb dX12_clauseHere_4 (by decide) (by decide) (by decide) ?_
    refine lv_aload_n hx hb dX12_clauseHere_48 rfl (lv_at hl 0 rfl) ?_
    refine lv_bipush (v := (-10)) hx hb dX12_clauseHere_49 (by decide) ?_
    refine va_ldcS hx hb hown (hE.ref (i := 8) (by decide)) dX12_clauseHere_51 ?_
    obtain ⟨r22, hc23, hF⟩ := bd_some hF
    have hPc := hP.sub (ws' := [o12 h x_thrown a_s a_image x_hasImage x_act x_spot x_end x_isWrong x_open a_by a_truths x_turn x_lean x_last x_angle x_asLay x_ticks a_bodies x_ran x_kind x_number x_tellsV, aI G a_s 1394 f_s]) [0, 1] rfl
    have hDc := hD.sub (ws' := [o12 h x_thrown a_s a_image x_hasImage x_act x_spot x_end x_isWrong x_open a_by a_truths x_turn x_lean x_last x_angle x_asLay x_ticks a_bodies x_ran x_kind x_number x_tellsV, aI G a_s 1394 f_s]) [0, 1] (by decide) rfl
    have hFc := va_free (wc := [o12 h x_thrown a_s a_image x_hasImage x_act x_spot x_end x_isWrong x_open a_by a_truths x_turn x_lean x_last x_angle x_asLay x_ticks a_bodies x_ran x_kind x_number x_tellsV, aI G a_s 1394 f_s]) hD hS hA [0, 1] rfl
    have hM := c_X12_much l G h a_s a_image a_by a_truths a_bodies x_thrown x_hasImage x_act x_spot x_end x_isWrong x_open x_turn x_lean x_last x_angle x_asLay x_ticks x_ran x_kind x_number x_tellsV f_s 8 (by decide) ((-10) : Int32) r22.1 r22.2.1 r22.2.2.1 r22.2.2.2 hc23 H.size
    refine cl_v (w1 := [o12 h x_thrown a_s a_image x_hasImage x_act r22.1 x_end r22.2.1 r22.2.2.1 a_by a_truths x_turn x_lean x_last x_angle x_asLay x_ticks a_bodies x_ran x_kind x_number x_tellsV, aI G a_s 1394 r22.2.2.2]) (ws' := [o12 h x_thrown a_s a_image x_hasImage x_act r22.1 x_end r22.2.1 r22.2.2.1 a_by a_truths x_turn x_lean x_last x_angle x_asLay x_ticks a_bodies x_ran x_kind x_number x_tellsV, aI G a_s 1394 r22.2.2.2]) hP hD hS hFc [0, 1] rfl rfl rfl (va_runV (As := [.int (-10), .ref (G.2.2.1 8)]) (rest := []) ⟨hx, hb, hml, hown, hts⟩ hM (cwV 2 hts gX12_clauseHere_X12_much rfl rfl rfl (by decide +kernel) ⟨Nat.le_of_ble_eq_true rfl, Nat.le_of_ble_eq_true rfl⟩) (cp_V hK hE hS hPc hDc hFc (va_recv hK hPc (ci := 12) (q0 := 0) rfl rfl)) rfl rfl hl.1 rfl (lv_room (Nat.le_of_ble_eq_true rfl)) dX12_clauseHere_53 ⟨Nat.zero_le _, Nat.zero_le _⟩) (fun H locs hP hD hS => ?_)
    refine lv_goto (tgt := 147) hx hb dX12_clauseHere_56 (by decide) ?_
    injection hF with hz
    injection hz with hq0 hz
    injection hz with hq1 hz
    injection hz with hq2 hz
    subst hq0
    subst hq1
    subst hq2
    subst hz
    exact cm_retv hx hb hr hlk hK hP hD hS dX12_clauseHere_147
  rw [if_neg c21] at hF
  refine lv_lookup (tgt := 142) (off := 138) hx hb dX12_clauseHere_4 (by decide) (by refine (lv_osw (k := 99) c3 (by decide)).trans ?_; refine (lv_osw (k := 108) c11 (by decide)).trans ?_; refine (lv_osw (k := 115) c14 (by decide)).trans ?_; refine (lv_osw (k := 116) c21 (by decide)).trans ?_; rfl) (by decide) ?_
  refine lv_aload_n hx hb dX12_clauseHere_142 rfl (lv_at hl 0 rfl) ?_
  refine lv_iconst (v := 1) hx hb dX12_clauseHere_143 (by decide) ?_
  refine va_put (D := G.1) (ci := 12) (v := .int 1) (ty := .boolean) (C := RX12) (T := TX12) (N := 22) hx hb hts hin12 tyX12 tyX12_ok nmX12 hown hK hP hD hS 0 rfl rfl 7 (by decide) lk_62 (fun _ h9 => h9) rfl (tyX12_ok 7 (by decide)) (by decide) (by decide) (Nat.le_of_ble_eq_true rfl) dX12_clauseHere_144 (fun H locs hP hD hS => ?_)
  have hP : va_P G.1 vwCl [o12 h x_thrown a_s a_image x_hasImage x_act x_spot x_end 1 x_open a_by a_truths x_turn x_lean x_last x_angle x_asLay x_ticks a_bodies x_ran x_kind x_number x_tellsV, aI G a_s 1394 f_s] H := hP
  have hD : va_D A [o12 h x_thrown a_s a_image x_hasImage x_act x_spot x_end 1 x_open a_by a_truths x_turn x_lean x_last x_angle x_asLay x_ticks a_bodies x_ran x_kind x_number x_tellsV, aI G a_s 1394 f_s] := hD
  injection hF with hz
  injection hz with hq0 hz
  injection hz with hq1 hz
  injection hz with hq2 hz
  subst hq0
  subst hq1
  subst hq2
  subst hz
  exact cm_retv hx hb hr hlk hK hP hD hS dX12_clauseHere_147

/-! HeadsByHairModel.law(II)I -/
abbrev rm_X12_law : Room := { frames := 53, cells := 0, slots := 0, locals := 2764 }
set_option maxHeartbeats 4000000 in
set_option maxRecDepth 100000 in
theorem c_X12_law (l : Launch) (G : GG) (h a_s a_image a_by a_truths a_bodies : Nat) (x_thrown x_hasImage x_act x_spot x_end x_isWrong x_open x_turn x_lean x_last x_angle x_asLay x_ticks x_ran x_kind x_number x_tellsV : Int32) (f_s : Nat → Int32) (l1 : Int32) (l2 : Int32) (z : Int32) (z_x_act : Int32) (z_x_spot : Int32) (z_x_end : Int32) (z_x_isWrong : Int32) (z_x_open : Int32) (z_f_s : Nat → Int32) (hF : fX12_law x_act x_spot x_end x_isWrong x_open f_s l1 l2 = some (z, z_x_act, z_x_spot, z_x_end, z_x_isWrong, z_x_open, z_f_s)) : CMi l yX12_law wsX12_law rm_X12_law G [o12 h x_thrown a_s a_image x_hasImage x_act x_spot x_end x_isWrong x_open a_by a_truths x_turn x_lean x_last x_angle x_asLay x_ticks a_bodies x_ran x_kind x_number x_tellsV, aI G a_s 1394 f_s] [o12 h x_thrown a_s a_image x_hasImage z_x_act z_x_spot z_x_end z_x_isWrong z_x_open a_by a_truths x_turn x_lean x_last x_angle x_asLay x_ticks a_bodies x_ran x_kind x_number x_tellsV, aI G a_s 1394 z_f_s] [.ref h, .int l1, .int l2] z := by
  refine cm_start (cc := cX12_law) (maxL := 4) (ret := (some .int)) (Qc := fun A => QI G [o12 h x_thrown a_s a_image x_hasImage z_x_act z_x_spot z_x_end z_x_isWrong z_x_open a_by a_truths x_turn x_lean x_last x_angle x_asLay x_ticks a_bodies x_ran x_kind x_number x_tellsV, aI G a_s 1394 z_f_s] z A) (by decide +kernel) rfl (Nat.le_of_ble_eq_true rfl) ?_
  intro p e s m args below meth c A hx hb hr hlk hml hown hnm hts hA H locs hP hK hD hE hS ls hl
  have hown : s.vm.findClass RX12 = some m.cls := hown
  have hl : lv_has ls 4 [(0, .ref h), (1, .int l1), (2, .int l2)] := hl
  have hin12 : ∀ w ∈ wsX120, w ∈ wsX12_law := by decide +kernel
  have lk_9 := hts (.fieldLink RX12 9 "HeadsByHairModel" "s" "[I") (by decide +kernel)
  have lk_83 := hts (.fieldLink RX12 83 "HeadsByHairModel" "act" "I") (by decide +kernel)
  have lk_59 := hts (.fieldLink RX12 59 "HeadsByHairModel" "end" "I") (by decide +kernel)
  have lk_56 := hts (.fieldLink RX12 56 "HeadsByHairModel" "spot" "I") (by decide +kernel)
  have lk_62 := hts (.fieldLink RX12 62 "HeadsByHairModel" "isWrong" "Z") (by decide +kernel)
  have lk_86 := hts (.fieldLink RX12 86 "HeadsByHairModel" "open" "I") (by decide +kernel)
  revert hF
  have LP143 : ∀ (x_act : Int32) (x_end : Int32) (k185 : Int32 → Int32 → Int32 → (Nat → Int32) → Option (Int32 × Int32 × Int32 × Int32 × Int32 × Int32 × (Nat → Int32))) (hk185 : ∀ (x_spot : Int32) (x_isWrong : Int32) (x_open : Int32) (f_s : Nat → Int32) (H : Heap) (locs : List Loc) (ls : Array Slot), va_P G.1 vwCl [o12 h x_thrown a_s a_image x_hasImage x_act x_spot x_end x_isWrong x_open a_by a_truths x_turn x_lean x_last x_angle x_asLay x_ticks a_bodies x_ran x_kind x_number x_tellsV, aI G a_s 1394 f_s] H → va_D A [o12 h x_thrown a_s a_image x_hasImage x_act x_spot x_end x_isWrong x_open a_by a_truths x_turn x_lean x_last x_angle x_asLay x_ticks a_bodies x_ran x_kind x_number x_tellsV, aI G a_s 1394 f_s] → va_S A s.heap H locs → lv_has ls 4 [(0, .ref h)] → k185 x_spot x_isWrong x_open f_s = some (z, z_x_act, z_x_spot, z_x_end, z_x_isWrong, z_x_open, z_f_s) → W p l e (rm_X12_law) s m args below meth c H locs 0 0 (MQ below (QI G [o12 h x_thrown a_s a_image x_hasImage z_x_act z_x_spot z_x_end z_x_isWrong z_x_open a_by a_truths x_turn x_lean x_last x_angle x_asLay x_ticks a_bodies x_ran x_kind x_number x_tellsV, aI G a_s 1394 z_f_s] z A) args s 0 0 A) (F0 m 185 ls [])) (n : Nat) (x_spot : Int32) (x_isWrong : Int32) (x_open : Int32) (f_s : Nat → Int32) (l3 : Int32) (H : Heap) (locs : List Loc) (ls : Array Slot), va_P G.1 vwCl [o12 h x_thrown a_s a_image x_hasImage x_act x_spot x_end x_isWrong x_open a_by a_truths x_turn x_lean x_last x_angle x_asLay x_ticks a_bodies x_ran x_kind x_number x_tellsV, aI G a_s 1394 f_s] H → va_D A [o12 h x_thrown a_s a_image x_hasImage x_act x_spot x_end x_isWrong x_open a_by a_truths x_turn x_lean x_last x_angle x_asLay x_ticks a_bodies x_ran x_kind x_number x_tellsV, aI G a_s 1394 f_s] → va_S A s.heap H locs → lv_has ls 4 [(0, .ref h), (3, .int l3)] → fX12_law_L143 k185 x_act x_end n x_spot x_isWrong x_open f_s l3 = some (z, z_x_act, z_x_spot, z_x_end, z_x_isWrong, z_x_open, z_f_s) → W p l e (rm_X12_law) s m args below meth c H locs 0 0 (MQ below (QI G [o12 h x_thrown a_s a_image x_hasImage z_x_act z_x_spot z_x_end z_x_isWrong z_x_open a_by a_truths x_turn x_lean x_last x_angle x_asLay x_ticks a_bodies x_ran x_kind x_number x_tellsV, aI G a_s 1394 z_f_s] z A) args s 0 0 A) (F0 m 143 ls []) := by
    intro x_act x_end k185 hk185 n
    induction n with
    | zero =>
      intro x_spot x_isWrong x_open f_s l3 H locs ls hP hD hS hl hF
      cases hF
    | succ n ih =>
      intro x_spot x_isWrong x_open f_s l3 H locs ls hP hD hS hl hF
      rw [fX12_law_L143] at hF
      refine lv_aload_n hx hb dX12_law_143 rfl (lv_at hl 0 rfl) ?_
      refine va_get (D := G.1) (ci := 12) (v := .int x_isWrong) (C := RX12) (T := TX12) (N := 22) hx hb hts hin12 hown hK hP 0 rfl rfl 7 (by decide) lk_62 (fun _ h9 => h9) rfl dX12_law_144 ?_
      refine lv_if_ne (tgt := 185) hx hb dX12_law_147 (by decide) (fun c14 => ?_) (fun c14 => ?_)
      · rw [if_neg c14] at hF
        exact hk185 _ _ _ _ H locs ls hP hD hS (lv_sub hl [0] rfl) hF
      rw [if_pos c14] at hF
      refine lv_iload_n hx hb dX12_law_150 rfl (lv_at hl 1 rfl) ?_
      refine lv_bipush (v := 8) hx hb dX12_law_151 (by decide) ?_
      refine lv_icmp_ge (tgt := 185) hx hb dX12_law_153 (by decide) (fun c15 => ?_) (fun c15 => ?_)
      · rw [if_pos c15] at hF
        exact hk185 _ _ _ _ H locs ls hP hD hS (lv_sub hl [0] rfl) hF
      rw [if_neg c15] at hF
      refine lv_aload_n hx hb dX12_law_156 rfl (lv_at hl 0 rfl) ?_
      obtain ⟨r16, hc17, hF⟩ := bd_some hF
      have hPc := hP.sub (ws' := [o12 h x_thrown a_s a_image x_hasImage x_act x_spot x_end x_isWrong x_open a_by a_truths x_turn x_lean x_last x_angle x_asLay x_ticks a_bodies x_ran x_kind x_number x_tellsV, aI G a_s 1394 f_s]) [0, 1] rfl
      have hDc := hD.sub (ws' := [o12 h x_thrown a_s a_image x_hasImage x_act x_spot x_end x_isWrong x_open a_by a_truths x_turn x_lean x_last x_angle x_asLay x_ticks a_bodies x_ran x_kind x_number x_tellsV, aI G a_s 1394 f_s]) [0, 1] (by decide) rfl
      have hFc := va_free (wc := [o12 h x_thrown a_s a_image x_hasImage x_act x_spot x_end x_isWrong x_open a_by a_truths x_turn x_lean x_last x_angle x_asLay x_ticks a_bodies x_ran x_kind x_number x_tellsV, aI G a_s 1394 f_s]) hD hS hA [0, 1] rfl
      have hM := c_X12_here l G h a_s a_image a_by a_truths a_bodies x_thrown x_hasImage x_act x_spot x_end x_isWrong x_open x_turn x_lean x_last x_angle x_asLay x_ticks x_ran x_kind x_number x_tellsV f_s r16 hc17 H.size
      refine cl_i (w1 := [o12 h x_thrown a_s a_image x_hasImage x_act x_spot x_end x_isWrong x_open a_by a_truths x_turn x_lean x_last x_angle x_asLay x_ticks a_bodies x_ran x_kind x_number x_tellsV, aI G a_s 1394 f_s]) (ws' := [o12 h x_thrown a_s a_image x_hasImage x_act x_spot x_end x_isWrong x_open a_by a_truths x_turn x_lean x_last x_angle x_asLay x_ticks a_bodies x_ran x_kind x_number x_tellsV, aI G a_s 1394 f_s]) hP hD hS hFc [0, 1] rfl rfl rfl (va_runV (As := []) (rest := []) ⟨hx, hb, hml, hown, hts⟩ hM (cwV 0 hts gX12_law_X12_here rfl rfl rfl (by decide +kernel) ⟨Nat.le_of_ble_eq_true rfl, Nat.le_of_ble_eq_true rfl⟩) (cp_V hK hE hS hPc hDc hFc (va_recv hK hPc (ci := 12) (q0 := 0) rfl rfl)) rfl rfl hl.1 rfl (lv_room (Nat.le_of_ble_eq_true rfl)) dX12_law_157 ⟨Nat.zero_le _, Nat.zero_le _⟩) (fun H locs hP hD hS => ?_)
      refine lv_bipush (v := 59) hx hb dX12_law_160 (by decide) ?_
      refine lv_icmp_ne (tgt := 185) hx hb dX12_law_162 (by decide) (fun c18 => ?_) (fun c18 => ?_)
      · rw [if_neg c18] at hF
        exact hk185 _ _ _ _ H locs ls hP hD hS (lv_sub hl [0] rfl) hF
      rw [if_pos c18] at hF
      refine lv_aload_n hx hb dX12_law_165 rfl (lv_at hl 0 rfl) ?_
      refine lv_dup hx hb dX12_law_166 rfl ?_
      refine va_get (D := G.1) (ci := 12) (v := .int x_spot) (C := RX12) (T := TX12) (N := 22) hx hb hts hin12 hown hK hP 0 rfl rfl 5 (by decide) lk_56 (fun _ h9 => h9) rfl dX12_law_167 ?_
      refine W.eq (g2 := F0 m 170 ls [.int x_spot, .ref h]) rfl ?_
      refine lv_iconst (v := 1) hx hb dX12_law_170 (by decide) ?_
      refine lv_iadd hx hb dX12_law_171 ?_
      refine va_put (D := G.1) (ci := 12) (v := .int (x_spot + 1)) (ty := .int) (C := RX12) (T := TX12) (N := 22) hx hb hts hin12 tyX12 tyX12_ok nmX12 hown hK hP hD hS 0 rfl rfl 5 (by decide) lk_56 (fun _ h9 => h9) rfl (tyX12_ok 5 (by decide)) rfl rfl (Nat.le_of_ble_eq_true rfl) dX12_law_172 (fun H locs hP hD hS => ?_)
      have hP : va_P G.1 vwCl [o12 h x_thrown a_s a_image x_hasImage x_act (x_spot + 1) x_end x_isWrong x_open a_by a_truths x_turn x_lean x_last x_angle x_asLay x_ticks a_bodies x_ran x_kind x_number x_tellsV, aI G a_s 1394 f_s] H := hP
      have hD : va_D A [o12 h x_thrown a_s a_image x_hasImage x_act (x_spot + 1) x_end x_isWrong x_open a_by a_truths x_turn x_lean x_last x_angle x_asLay x_ticks a_bodies x_ran x_kind x_number x_tellsV, aI G a_s 1394 f_s] := hD
      refine lv_aload_n hx hb dX12_law_175 rfl (lv_at hl 0 rfl) ?_
      obtain ⟨r19, hc20, hF⟩ := bd_some hF
      have hPc := hP.sub (ws' := [o12 h x_thrown a_s a_image x_hasImage x_act (x_spot + 1) x_end x_isWrong x_open a_by a_truths x_turn x_lean x_last x_angle x_asLay x_ticks a_bodies x_ran x_kind x_number x_tellsV, aI G a_s 1394 f_s]) [0, 1] rfl
      have hDc := hD.sub (ws' := [o12 h x_thrown a_s a_image x_hasImage x_act (x_spot + 1) x_end x_isWrong x_open a_by a_truths x_turn x_lean x_last x_angle x_asLay x_ticks a_bodies x_ran x_kind x_number x_tellsV, aI G a_s 1394 f_s]) [0, 1] (by decide) rfl
      have hFc := va_free (wc := [o12 h x_thrown a_s a_image x_hasImage x_act (x_spot + 1) x_end x_isWrong x_open a_by a_truths x_turn x_lean x_last x_angle x_asLay x_ticks a_bodies x_ran x_kind x_number x_tellsV, aI G a_s 1394 f_s]) hD hS hA [0, 1] rfl
      have hM := c_X12_clauseHere l G h a_s a_image a_by a_truths a_bodies x_thrown x_hasImage x_act (x_spot + 1) x_end x_isWrong x_open x_turn x_lean x_last x_angle x_asLay x_ticks x_ran x_kind x_number x_tellsV f_s r19.1 r19.2.1 r19.2.2.1 r19.2.2.2 hc20 H.size
      refine cl_v (w1 := [o12 h x_thrown a_s a_image x_hasImage x_act r19.1 x_end r19.2.1 r19.2.2.1 a_by a_truths x_turn x_lean x_last x_angle x_asLay x_ticks a_bodies x_ran x_kind x_number x_tellsV, aI G a_s 1394 r19.2.2.2]) (ws' := [o12 h x_thrown a_s a_image x_hasImage x_act r19.1 x_end r19.2.1 r19.2.2.1 a_by a_truths x_turn x_lean x_last x_angle x_asLay x_ticks a_bodies x_ran x_kind x_number x_tellsV, aI G a_s 1394 r19.2.2.2]) hP hD hS hFc [0, 1] rfl rfl rfl (va_runV (As := []) (rest := []) ⟨hx, hb, hml, hown, hts⟩ hM (cwV 0 hts gX12_law_X12_clauseHere rfl rfl rfl (by decide +kernel) ⟨Nat.le_of_ble_eq_true rfl, Nat.le_of_ble_eq_true rfl⟩) (cp_V hK hE hS hPc hDc hFc (va_recv hK hPc (ci := 12) (q0 := 0) rfl rfl)) rfl rfl hl.1 rfl (lv_room (Nat.le_of_ble_eq_true rfl)) dX12_law_176 ⟨Nat.zero_le _, Nat.zero_le _⟩) (fun H locs hP hD hS => ?_)
      refine lv_iinc (v := l3 + 1) (lv' := [(3, .int (l3 + 1)), (0, .ref h)]) hx hb dX12_law_179 hl (k := 1) rfl rfl (by decide) rfl (fun ls hl => ?_)
      refine lv_goto (tgt := 143) hx hb dX12_law_182 (by decide) ?_
      exact ih _ _ _ _ _ H locs ls hP hD hS (lv_sub hl [1, 0] rfl) hF
  have B185 : ∀ (x_act : Int32) (x_spot : Int32) (x_end : Int32) (x_isWrong : Int32) (x_open : Int32) (f_s : Nat → Int32) (H : Heap) (locs : List Loc) (ls : Array Slot), va_P G.1 vwCl [o12 h x_thrown a_s a_image x_hasImage x_act x_spot x_end x_isWrong x_open a_by a_truths x_turn x_lean x_last x_angle x_asLay x_ticks a_bodies x_ran x_kind x_number x_tellsV, aI G a_s 1394 f_s] H → va_D A [o12 h x_thrown a_s a_image x_hasImage x_act x_spot x_end x_isWrong x_open a_by a_truths x_turn x_lean x_last x_angle x_asLay x_ticks a_bodies x_ran x_kind x_number x_tellsV, aI G a_s 1394 f_s] → va_S A s.heap H locs → lv_has ls 4 [(0, .ref h)] → fX12_law_b185 x_act x_spot x_end x_isWrong x_open f_s = some (z, z_x_act, z_x_spot, z_x_end, z_x_isWrong, z_x_open, z_f_s) → W p l e (rm_X12_law) s m args below meth c H locs 0 0 (MQ below (QI G [o12 h x_thrown a_s a_image x_hasImage z_x_act z_x_spot z_x_end z_x_isWrong z_x_open a_by a_truths x_turn x_lean x_last x_angle x_asLay x_ticks a_bodies x_ran x_kind x_number x_tellsV, aI G a_s 1394 z_f_s] z A) args s 0 0 A) (F0 m 185 ls []) := by
    intro x_act x_spot x_end x_isWrong x_open f_s H locs ls hP hD hS hl hF
    unfold fX12_law_b185 at hF
    refine lv_aload_n hx hb dX12_law_185 rfl (lv_at hl 0 rfl) ?_
    refine va_get (D := G.1) (ci := 12) (v := .int x_isWrong) (C := RX12) (T := TX12) (N := 22) hx hb hts hin12 hown hK hP 0 rfl rfl 7 (by decide) lk_62 (fun _ h9 => h9) rfl dX12_law_186 ?_
    refine lv_if_ne (tgt := 203) hx hb dX12_law_189 (by decide) (fun c25 => ?_) (fun c25 => ?_)
    · rw [if_neg c25] at hF
      refine lv_bipush (v := (-10)) hx hb dX12_law_203 (by decide) ?_
      refine lv_aload_n hx hb dX12_law_205 rfl (lv_at hl 0 rfl) ?_
      refine va_get (D := G.1) (ci := 12) (v := .int x_spot) (C := RX12) (T := TX12) (N := 22) hx hb hts hin12 hown hK hP 0 rfl rfl 5 (by decide) lk_56 (fun _ h9 => h9) rfl dX12_law_206 ?_
      refine lv_isub hx hb dX12_law_209 ?_
      injection hF with hz
      injection hz with hq0 hz
      injection hz with hq1 hz
      injection hz with hq2 hz
      injection hz with hq3 hz
      injection hz with hq4 hz
      injection hz with hq5 hz
      subst hq0
      subst hq1
      subst hq2
      subst hq3
      subst hq4
      subst hq5
      subst hz
      exact cm_reti hx hb hr rfl hlk hK hP hD hS dX12_law_210
    rw [if_pos c25] at hF
    refine lv_aload_n hx hb dX12_law_192 rfl (lv_at hl 0 rfl) ?_
    refine va_get (D := G.1) (ci := 12) (v := .int x_spot) (C := RX12) (T := TX12) (N := 22) hx hb hts hin12 hown hK hP 0 rfl rfl 5 (by decide) lk_56 (fun _ h9 => h9) rfl dX12_law_193 ?_
    refine lv_aload_n hx hb dX12_law_196 rfl (lv_at hl 0 rfl) ?_
    refine va_get (D := G.1) (ci := 12) (v := .int x_end) (C := RX12) (T := TX12) (N := 22) hx hb hts hin12 hown hK hP 0 rfl rfl 6 (by decide) lk_59 (fun _ h9 => h9) rfl dX12_law_197 ?_
    refine lv_icmp_eq (tgt := 211) hx hb dX12_law_200 (by decide) (fun c26 => ?_) (fun c26 => ?_)
    · rw [if_pos c26] at hF
      refine lv_aload_n hx hb dX12_law_211 rfl (lv_at hl 0 rfl) ?_
      refine va_get (D := G.1) (ci := 12) (v := .ref a_s) (C := RX12) (T := TX12) (N := 22) hx hb hts hin12 hown hK hP 0 rfl rfl 1 (by decide) lk_9 (fun _ h9 => h9) rfl dX12_law_212 ?_
      refine lv_iconst (v := 2) hx hb dX12_law_215 (by decide) ?_
      refine lv_dup2_11 hx hb dX12_law_216 rfl rfl ?_
      refine va_iald (D := G.1) hx hb hK hP 1 0 rfl rfl (by unfold vp_in; decide) dX12_law_217 ?_
      refine lv_eqi (y := f_s 2) rfl ?_
      refine W.eq (g2 := F0 m 218 ls [.int (f_s 2), .int 2, .ref a_s]) rfl ?_
      refine lv_iconst (v := 1) hx hb dX12_law_218 (by decide) ?_
      refine lv_iadd hx hb dX12_law_219 ?_
      refine va_iast (D := G.1) hx hb hK hP hD hS 1 0 rfl rfl (by unfold vp_in; decide) dX12_law_220 (fun H locs hP hD hS => ?_)
      have hP : va_P G.1 vwCl [o12 h x_thrown a_s a_image x_hasImage x_act x_spot x_end x_isWrong x_open a_by a_truths x_turn x_lean x_last x_angle x_asLay x_ticks a_bodies x_ran x_kind x_number x_tellsV, aI G a_s 1394 (upd f_s 2 ((f_s 2) + 1))] H := hP
      have hD : va_D A [o12 h x_thrown a_s a_image x_hasImage x_act x_spot x_end x_isWrong x_open a_by a_truths x_turn x_lean x_last x_angle x_asLay x_ticks a_bodies x_ran x_kind x_number x_tellsV, aI G a_s 1394 (upd f_s 2 ((f_s 2) + 1))] := hD
      refine lv_aload_n hx hb dX12_law_221 rfl (lv_at hl 0 rfl) ?_
      refine va_get (D := G.1) (ci := 12) (v := .int x_act) (C := RX12) (T := TX12) (N := 22) hx hb hts hin12 hown hK hP 0 rfl rfl 4 (by decide) lk_83 (fun _ h9 => h9) rfl dX12_law_222 ?_
      injection hF with hz
      injection hz with hq0 hz
      injection hz with hq1 hz
      injection hz with hq2 hz
      injection hz with hq3 hz
      injection hz with hq4 hz
      injection hz with hq5 hz
      subst hq0
      subst hq1
      subst hq2
      subst hq3
      subst hq4
      subst hq5
      subst hz
      exact cm_reti hx hb hr rfl hlk hK hP hD hS dX12_law_225
    rw [if_neg c26] at hF
    refine lv_bipush (v := (-10)) hx hb dX12_law_203 (by decide) ?_
    refine lv_aload_n hx hb dX12_law_205 rfl (lv_at hl 0 rfl) ?_
    refine va_get (D := G.1) (ci := 12) (v := .int x_spot) (C := RX12) (T := TX12) (N := 22) hx hb hts hin12 hown hK hP 0 rfl rfl 5 (by decide) lk_56 (fun _ h9 => h9) rfl dX12_law_206 ?_
    refine lv_isub hx hb dX12_law_209 ?_
    injection hF with hz
    injection hz with hq0 hz
    injection hz with hq1 hz
    injection hz with hq2 hz
    injection hz with hq3 hz
    injection hz with hq4 hz
    injection hz with hq5 hz
    subst hq0
    subst hq1
    subst hq2
    subst hq3
    subst hq4
    subst hq5
    subst hz
    exact cm_reti hx hb hr rfl hlk hK hP hD hS dX12_law_210
  intro hF
  unfold fX12_law at hF
  refine lv_iload_n hx hb dX12_law_0 rfl (lv_at hl 1 rfl) ?_
  refine lv_iconst (v := 0) hx hb dX12_law_1 (by decide) ?_
  refine lv_bipush (v := 6) hx hb dX12_law_2 (by decide) ?_
  obtain ⟨r1, hc2, hF⟩ := bd_some hF
  have hPc := hP.sub (ws' := []) [] rfl
  have hDc := hD.sub (ws' := []) [] (by decide) rfl
  have hFc := va_free (wc := []) hD hS hA [] rfl
  have hM := c_X12_in l G l1 (0 : Int32) (6 : Int32) r1 hc2 H.size
  refine cl_i (w1 := []) (ws' := [o12 h x_thrown a_s a_image x_hasImage x_act x_spot x_end x_isWrong x_open a_by a_truths x_turn x_lean x_last x_angle x_asLay x_ticks a_bodies x_ran x_kind x_number x_tellsV, aI G a_s 1394 f_s]) hP hD hS hFc [] rfl rfl rfl (va_runS (As := [.int l1, .int 0, .int 6]) (rest := []) ⟨hx, hb, hml, hown, hts⟩ hM (va_cwS 3 hts gX12_law_X12_in rfl rfl rfl (by decide +kernel) ⟨Nat.le_of_ble_eq_true rfl, Nat.le_of_ble_eq_true rfl⟩) (cp_S hK hE hS hPc hDc hFc) rfl rfl hl.1 rfl (lv_room (Nat.le_of_ble_eq_true rfl)) dX12_law_4 ⟨Nat.zero_le _, Nat.zero_le _⟩) (fun H locs hP hD hS => ?_)
  refine lv_if_ne (tgt := 12) hx hb dX12_law_7 (by decide) (fun c3 => ?_) (fun c3 => ?_)
  · rw [if_neg c3] at hF
    refine lv_iload_n hx hb dX12_law_12 rfl (lv_at hl 2 rfl) ?_
    refine lv_iconst (v := 0) hx hb dX12_law_13 (by decide) ?_
    refine lv_bipush (v := 9) hx hb dX12_law_14 (by decide) ?_
    obtain ⟨r4, hc5, hF⟩ := bd_some hF
    have hPc := hP.sub (ws' := []) [] rfl
    have hDc := hD.sub (ws' := []) [] (by decide) rfl
    have hFc := va_free (wc := []) hD hS hA [] rfl
    have hM := c_X12_in l G l2 (0 : Int32) (9 : Int32) r4 hc5 H.size
    refine cl_i (w1 := []) (ws' := [o12 h x_thrown a_s a_image x_hasImage x_act x_spot x_end x_isWrong x_open a_by a_truths x_turn x_lean x_last x_angle x_asLay x_ticks a_bodies x_ran x_kind x_number x_tellsV, aI G a_s 1394 f_s]) hP hD hS hFc [] rfl rfl rfl (va_runS (As := [.int l2, .int 0, .int 9]) (rest := []) ⟨hx, hb, hml, hown, hts⟩ hM (va_cwS 3 hts gX12_law_X12_in rfl rfl rfl (by decide +kernel) ⟨Nat.le_of_ble_eq_true rfl, Nat.le_of_ble_eq_true rfl⟩) (cp_S hK hE hS hPc hDc hFc) rfl rfl hl.1 rfl (lv_room (Nat.le_of_ble_eq_true rfl)) dX12_law_16 ⟨Nat.zero_le _, Nat.zero_le _⟩) (fun H locs hP hD hS => ?_)
    refine lv_if_ne (tgt := 25) hx hb dX12_law_19 (by decide) (fun c6 => ?_) (fun c6 => ?_)
    · rw [if_neg c6] at hF
      refine lv_aload_n hx hb dX12_law_25 rfl (lv_at hl 0 rfl) ?_
      refine va_get (D := G.1) (ci := 12) (v := .ref a_s) (C := RX12) (T := TX12) (N := 22) hx hb hts hin12 hown hK hP 0 rfl rfl 1 (by decide) lk_9 (fun _ h9 => h9) rfl dX12_law_26 ?_
      refine lv_iconst (v := 2) hx hb dX12_law_29 (by decide) ?_
      refine W.eq (g2 := F0 m 30 ls [.int 2, .ref a_s]) rfl ?_
      refine va_iald (D := G.1) hx hb hK hP 1 0 rfl rfl (by unfold vp_in; decide) dX12_law_30 ?_
      refine lv_eqi (y := f_s 2) rfl ?_
      refine lv_bipush (v := 8) hx hb dX12_law_31 (by decide) ?_
      refine lv_icmp_ne (tgt := 39) hx hb dX12_law_33 (by decide) (fun c7 => ?_) (fun c7 => ?_)
      · rw [if_neg c7] at hF
        refine lv_aload_n hx hb dX12_law_39 rfl (lv_at hl 0 rfl) ?_
        refine lv_aload_n hx hb dX12_law_40 rfl (lv_at hl 0 rfl) ?_
        refine va_get (D := G.1) (ci := 12) (v := .ref a_s) (C := RX12) (T := TX12) (N := 22) hx hb hts hin12 hown hK hP 0 rfl rfl 1 (by decide) lk_9 (fun _ h9 => h9) rfl dX12_law_41 ?_
        refine lv_iconst (v := 2) hx hb dX12_law_44 (by decide) ?_
        refine va_iald (D := G.1) hx hb hK hP 1 0 rfl rfl (by unfold vp_in; decide) dX12_law_45 ?_
        refine lv_eqi (y := f_s 2) rfl ?_
        refine va_put (D := G.1) (ci := 12) (v := .int (f_s 2)) (ty := .int) (C := RX12) (T := TX12) (N := 22) hx hb hts hin12 tyX12 tyX12_ok nmX12 hown hK hP hD hS 0 rfl rfl 4 (by decide) lk_83 (fun _ h9 => h9) rfl (tyX12_ok 4 (by decide)) rfl rfl (Nat.le_of_ble_eq_true rfl) dX12_law_46 (fun H locs hP hD hS => ?_)
        have hP : va_P G.1 vwCl [o12 h x_thrown a_s a_image x_hasImage (f_s 2) x_spot x_end x_isWrong x_open a_by a_truths x_turn x_lean x_last x_angle x_asLay x_ticks a_bodies x_ran x_kind x_number x_tellsV, aI G a_s 1394 f_s] H := hP
        have hD : va_D A [o12 h x_thrown a_s a_image x_hasImage (f_s 2) x_spot x_end x_isWrong x_open a_by a_truths x_turn x_lean x_last x_angle x_asLay x_ticks a_bodies x_ran x_kind x_number x_tellsV, aI G a_s 1394 f_s] := hD
        refine lv_aload_n hx hb dX12_law_49 rfl (lv_at hl 0 rfl) ?_
        refine lv_aload_n hx hb dX12_law_50 rfl (lv_at hl 0 rfl) ?_
        refine va_get (D := G.1) (ci := 12) (v := .ref a_s) (C := RX12) (T := TX12) (N := 22) hx hb hts hin12 hown hK hP 0 rfl rfl 1 (by decide) lk_9 (fun _ h9 => h9) rfl dX12_law_51 ?_
        refine lv_iconst (v := 4) hx hb dX12_law_54 (by decide) ?_
        refine va_iald (D := G.1) hx hb hK hP 1 0 rfl rfl (by unfold vp_in; decide) dX12_law_55 ?_
        refine lv_eqi (y := f_s 4) rfl ?_
        refine W.eq (g2 := F0 m 56 ls [.int (f_s 4), .ref h]) rfl ?_
        refine va_put (D := G.1) (ci := 12) (v := .int (f_s 4)) (ty := .int) (C := RX12) (T := TX12) (N := 22) hx hb hts hin12 tyX12 tyX12_ok nmX12 hown hK hP hD hS 0 rfl rfl 6 (by decide) lk_59 (fun _ h9 => h9) rfl (tyX12_ok 6 (by decide)) rfl rfl (Nat.le_of_ble_eq_true rfl) dX12_law_56 (fun H locs hP hD hS => ?_)
        have hP : va_P G.1 vwCl [o12 h x_thrown a_s a_image x_hasImage (f_s 2) x_spot (f_s 4) x_isWrong x_open a_by a_truths x_turn x_lean x_last x_angle x_asLay x_ticks a_bodies x_ran x_kind x_number x_tellsV, aI G a_s 1394 f_s] H := hP
        have hD : va_D A [o12 h x_thrown a_s a_image x_hasImage (f_s 2) x_spot (f_s 4) x_isWrong x_open a_by a_truths x_turn x_lean x_last x_angle x_asLay x_ticks a_bodies x_ran x_kind x_number x_tellsV, aI G a_s 1394 f_s] := hD
        refine lv_aload_n hx hb dX12_law_59 rfl (lv_at hl 0 rfl) ?_
        refine va_get (D := G.1) (ci := 12) (v := .ref a_s) (C := RX12) (T := TX12) (N := 22) hx hb hts hin12 hown hK hP 0 rfl rfl 1 (by decide) lk_9 (fun _ h9 => h9) rfl dX12_law_60 ?_
        refine lv_iconst (v := 4) hx hb dX12_law_63 (by decide) ?_
        refine lv_iconst (v := 0) hx hb dX12_law_64 (by decide) ?_
        refine va_iast (D := G.1) hx hb hK hP hD hS 1 0 rfl rfl (by unfold vp_in; decide) dX12_law_65 (fun H locs hP hD hS => ?_)
        have hP : va_P G.1 vwCl [o12 h x_thrown a_s a_image x_hasImage (f_s 2) x_spot (f_s 4) x_isWrong x_open a_by a_truths x_turn x_lean x_last x_angle x_asLay x_ticks a_bodies x_ran x_kind x_number x_tellsV, aI G a_s 1394 (upd f_s 4 0)] H := hP
        have hD : va_D A [o12 h x_thrown a_s a_image x_hasImage (f_s 2) x_spot (f_s 4) x_isWrong x_open a_by a_truths x_turn x_lean x_last x_angle x_asLay x_ticks a_bodies x_ran x_kind x_number x_tellsV, aI G a_s 1394 (upd f_s 4 0)] := hD
        refine lv_aload_n hx hb dX12_law_66 rfl (lv_at hl 0 rfl) ?_
        refine va_get (D := G.1) (ci := 12) (v := .ref a_s) (C := RX12) (T := TX12) (N := 22) hx hb hts hin12 hown hK hP 0 rfl rfl 1 (by decide) lk_9 (fun _ h9 => h9) rfl dX12_law_67 ?_
        refine lv_sipush (v := 226) hx hb dX12_law_70 (by decide) ?_
        refine lv_aload_n hx hb dX12_law_73 rfl (lv_at hl 0 rfl) ?_
        refine va_get (D := G.1) (ci := 12) (v := .int (f_s 2)) (C := RX12) (T := TX12) (N := 22) hx hb hts hin12 hown hK hP 0 rfl rfl 4 (by decide) lk_83 (fun _ h9 => h9) rfl dX12_law_74 ?_
        refine lv_iadd hx hb dX12_law_77 ?_
        refine lv_iload_n hx hb dX12_law_78 rfl (lv_at hl 1 rfl) ?_
        obtain ⟨hi8, hF⟩ := ck_some hF
        refine va_iast (D := G.1) hx hb hK hP hD hS 1 0 rfl rfl hi8 dX12_law_79 (fun H locs hP hD hS => ?_)
        have hP : va_P G.1 vwCl [o12 h x_thrown a_s a_image x_hasImage (f_s 2) x_spot (f_s 4) x_isWrong x_open a_by a_truths x_turn x_lean x_last x_angle x_asLay x_ticks a_bodies x_ran x_kind x_number x_tellsV, aI G a_s 1394 (upd (upd f_s 4 0) (226 + (f_s 2)).toNatClampNeg l1)] H := hP
        have hD : va_D A [o12 h x_thrown a_s a_image x_hasImage (f_s 2) x_spot (f_s 4) x_isWrong x_open a_by a_truths x_turn x_lean x_last x_angle x_asLay x_ticks a_bodies x_ran x_kind x_number x_tellsV, aI G a_s 1394 (upd (upd f_s 4 0) (226 + (f_s 2)).toNatClampNeg l1)] := hD
        refine W.eq (g2 := F0 m 80 ls []) rfl ?_
        refine lv_aload_n hx hb dX12_law_80 rfl (lv_at hl 0 rfl) ?_
        refine va_get (D := G.1) (ci := 12) (v := .ref a_s) (C := RX12) (T := TX12) (N := 22) hx hb hts hin12 hown hK hP 0 rfl rfl 1 (by decide) lk_9 (fun _ h9 => h9) rfl dX12_law_81 ?_
        refine lv_sipush (v := 234) hx hb dX12_law_84 (by decide) ?_
        refine lv_aload_n hx hb dX12_law_87 rfl (lv_at hl 0 rfl) ?_
        refine va_get (D := G.1) (ci := 12) (v := .int (f_s 2)) (C := RX12) (T := TX12) (N := 22) hx hb hts hin12 hown hK hP 0 rfl rfl 4 (by decide) lk_83 (fun _ h9 => h9) rfl dX12_law_88 ?_
        refine lv_iadd hx hb dX12_law_91 ?_
        refine lv_iload_n hx hb dX12_law_92 rfl (lv_at hl 2 rfl) ?_
        obtain ⟨hi9, hF⟩ := ck_some hF
        refine va_iast (D := G.1) hx hb hK hP hD hS 1 0 rfl rfl hi9 dX12_law_93 (fun H locs hP hD hS => ?_)
        have hP : va_P G.1 vwCl [o12 h x_thrown a_s a_image x_hasImage (f_s 2) x_spot (f_s 4) x_isWrong x_open a_by a_truths x_turn x_lean x_last x_angle x_asLay x_ticks a_bodies x_ran x_kind x_number x_tellsV, aI G a_s 1394 (upd (upd (upd f_s 4 0) (226 + (f_s 2)).toNatClampNeg l1) (234 + (f_s 2)).toNatClampNeg l2)] H := hP
        have hD : va_D A [o12 h x_thrown a_s a_image x_hasImage (f_s 2) x_spot (f_s 4) x_isWrong x_open a_by a_truths x_turn x_lean x_last x_angle x_asLay x_ticks a_bodies x_ran x_kind x_number x_tellsV, aI G a_s 1394 (upd (upd (upd f_s 4 0) (226 + (f_s 2)).toNatClampNeg l1) (234 + (f_s 2)).toNatClampNeg l2)] := hD
        refine lv_aload_n hx hb dX12_law_94 rfl (lv_at hl 0 rfl) ?_
        refine va_get (D := G.1) (ci := 12) (v := .ref a_s) (C := RX12) (T := TX12) (N := 22) hx hb hts hin12 hown hK hP 0 rfl rfl 1 (by decide) lk_9 (fun _ h9 => h9) rfl dX12_law_95 ?_
        refine lv_sipush (v := 242) hx hb dX12_law_98 (by decide) ?_
        refine lv_aload_n hx hb dX12_law_101 rfl (lv_at hl 0 rfl) ?_
        refine va_get (D := G.1) (ci := 12) (v := .int (f_s 2)) (C := RX12) (T := TX12) (N := 22) hx hb hts hin12 hown hK hP 0 rfl rfl 4 (by decide) lk_83 (fun _ h9 => h9) rfl dX12_law_102 ?_
        refine lv_iadd hx hb dX12_law_105 ?_
        refine W.eq (g2 := F0 m 106 ls [.int (242 + (f_s 2)), .ref a_s]) rfl ?_
        refine lv_iconst (v := 0) hx hb dX12_law_106 (by decide) ?_
        obtain ⟨hi10, hF⟩ := ck_some hF
        refine va_iast (D := G.1) hx hb hK hP hD hS 1 0 rfl rfl hi10 dX12_law_107 (fun H locs hP hD hS => ?_)
        have hP : va_P G.1 vwCl [o12 h x_thrown a_s a_image x_hasImage (f_s 2) x_spot (f_s 4) x_isWrong x_open a_by a_truths x_turn x_lean x_last x_angle x_asLay x_ticks a_bodies x_ran x_kind x_number x_tellsV, aI G a_s 1394 (upd (upd (upd (upd f_s 4 0) (226 + (f_s 2)).toNatClampNeg l1) (234 + (f_s 2)).toNatClampNeg l2) (242 + (f_s 2)).toNatClampNeg 0)] H := hP
        have hD : va_D A [o12 h x_thrown a_s a_image x_hasImage (f_s 2) x_spot (f_s 4) x_isWrong x_open a_by a_truths x_turn x_lean x_last x_angle x_asLay x_ticks a_bodies x_ran x_kind x_number x_tellsV, aI G a_s 1394 (upd (upd (upd (upd f_s 4 0) (226 + (f_s 2)).toNatClampNeg l1) (234 + (f_s 2)).toNatClampNeg l2) (242 + (f_s 2)).toNatClampNeg 0)] := hD
        refine lv_aload_n hx hb dX12_law_108 rfl (lv_at hl 0 rfl) ?_
        refine va_get (D := G.1) (ci := 12) (v := .ref a_s) (C := RX12) (T := TX12) (N := 22) hx hb hts hin12 hown hK hP 0 rfl rfl 1 (by decide) lk_9 (fun _ h9 => h9) rfl dX12_law_109 ?_
        refine lv_sipush (v := 250) hx hb dX12_law_112 (by decide) ?_
        refine lv_aload_n hx hb dX12_law_115 rfl (lv_at hl 0 rfl) ?_
        refine va_get (D := G.1) (ci := 12) (v := .int (f_s 2)) (C := RX12) (T := TX12) (N := 22) hx hb hts hin12 hown hK hP 0 rfl rfl 4 (by decide) lk_83 (fun _ h9 => h9) rfl dX12_law_116 ?_
        refine lv_iadd hx hb dX12_law_119 ?_
        refine lv_iconst (v := 0) hx hb dX12_law_120 (by decide) ?_
        obtain ⟨hi11, hF⟩ := ck_some hF
        refine va_iast (D := G.1) hx hb hK hP hD hS 1 0 rfl rfl hi11 dX12_law_121 (fun H locs hP hD hS => ?_)
        have hP : va_P G.1 vwCl [o12 h x_thrown a_s a_image x_hasImage (f_s 2) x_spot (f_s 4) x_isWrong x_open a_by a_truths x_turn x_lean x_last x_angle x_asLay x_ticks a_bodies x_ran x_kind x_number x_tellsV, aI G a_s 1394 (upd (upd (upd (upd (upd f_s 4 0) (226 + (f_s 2)).toNatClampNeg l1) (234 + (f_s 2)).toNatClampNeg l2) (242 + (f_s 2)).toNatClampNeg 0) (250 + (f_s 2)).toNatClampNeg 0)] H := hP
        have hD : va_D A [o12 h x_thrown a_s a_image x_hasImage (f_s 2) x_spot (f_s 4) x_isWrong x_open a_by a_truths x_turn x_lean x_last x_angle x_asLay x_ticks a_bodies x_ran x_kind x_number x_tellsV, aI G a_s 1394 (upd (upd (upd (upd (upd f_s 4 0) (226 + (f_s 2)).toNatClampNeg l1) (234 + (f_s 2)).toNatClampNeg l2) (242 + (f_s 2)).toNatClampNeg 0) (250 + (f_s 2)).toNatClampNeg 0)] := hD
        refine lv_aload_n hx hb dX12_law_122 rfl (lv_at hl 0 rfl) ?_
        refine lv_iconst (v := 0) hx hb dX12_law_123 (by decide) ?_
        refine va_put (D := G.1) (ci := 12) (v := .int 0) (ty := .int) (C := RX12) (T := TX12) (N := 22) hx hb hts hin12 tyX12 tyX12_ok nmX12 hown hK hP hD hS 0 rfl rfl 5 (by decide) lk_56 (fun _ h9 => h9) rfl (tyX12_ok 5 (by decide)) rfl rfl (Nat.le_of_ble_eq_true rfl) dX12_law_124 (fun H locs hP hD hS => ?_)
        have hP : va_P G.1 vwCl [o12 h x_thrown a_s a_image x_hasImage (f_s 2) 0 (f_s 4) x_isWrong x_open a_by a_truths x_turn x_lean x_last x_angle x_asLay x_ticks a_bodies x_ran x_kind x_number x_tellsV, aI G a_s 1394 (upd (upd (upd (upd (upd f_s 4 0) (226 + (f_s 2)).toNatClampNeg l1) (234 + (f_s 2)).toNatClampNeg l2) (242 + (f_s 2)).toNatClampNeg 0) (250 + (f_s 2)).toNatClampNeg 0)] H := hP
        have hD : va_D A [o12 h x_thrown a_s a_image x_hasImage (f_s 2) 0 (f_s 4) x_isWrong x_open a_by a_truths x_turn x_lean x_last x_angle x_asLay x_ticks a_bodies x_ran x_kind x_number x_tellsV, aI G a_s 1394 (upd (upd (upd (upd (upd f_s 4 0) (226 + (f_s 2)).toNatClampNeg l1) (234 + (f_s 2)).toNatClampNeg l2) (242 + (f_s 2)).toNatClampNeg 0) (250 + (f_s 2)).toNatClampNeg 0)] := hD
        refine lv_aload_n hx hb dX12_law_127 rfl (lv_at hl 0 rfl) ?_
        refine W.eq (g2 := F0 m 128 ls [.ref h]) rfl ?_
        refine lv_iconst (v := 0) hx hb dX12_law_128 (by decide) ?_
        refine va_put (D := G.1) (ci := 12) (v := .int 0) (ty := .boolean) (C := RX12) (T := TX12) (N := 22) hx hb hts hin12 tyX12 tyX12_ok nmX12 hown hK hP hD hS 0 rfl rfl 7 (by decide) lk_62 (fun _ h9 => h9) rfl (tyX12_ok 7 (by decide)) (by decide) (by decide) (Nat.le_of_ble_eq_true rfl) dX12_law_129 (fun H locs hP hD hS => ?_)
        have hP : va_P G.1 vwCl [o12 h x_thrown a_s a_image x_hasImage (f_s 2) 0 (f_s 4) 0 x_open a_by a_truths x_turn x_lean x_last x_angle x_asLay x_ticks a_bodies x_ran x_kind x_number x_tellsV, aI G a_s 1394 (upd (upd (upd (upd (upd f_s 4 0) (226 + (f_s 2)).toNatClampNeg l1) (234 + (f_s 2)).toNatClampNeg l2) (242 + (f_s 2)).toNatClampNeg 0) (250 + (f_s 2)).toNatClampNeg 0)] H := hP
        have hD : va_D A [o12 h x_thrown a_s a_image x_hasImage (f_s 2) 0 (f_s 4) 0 x_open a_by a_truths x_turn x_lean x_last x_angle x_asLay x_ticks a_bodies x_ran x_kind x_number x_tellsV, aI G a_s 1394 (upd (upd (upd (upd (upd f_s 4 0) (226 + (f_s 2)).toNatClampNeg l1) (234 + (f_s 2)).toNatClampNeg l2) (242 + (f_s 2)).toNatClampNeg 0) (250 + (f_s 2)).toNatClampNeg 0)] := hD
        refine lv_aload_n hx hb dX12_law_132 rfl (lv_at hl 0 rfl) ?_
        refine lv_iconst (v := 0) hx hb dX12_law_133 (by decide) ?_
        refine va_put (D := G.1) (ci := 12) (v := .int 0) (ty := .int) (C := RX12) (T := TX12) (N := 22) hx hb hts hin12 tyX12 tyX12_ok nmX12 hown hK hP hD hS 0 rfl rfl 8 (by decide) lk_86 (fun _ h9 => h9) rfl (tyX12_ok 8 (by decide)) rfl rfl (Nat.le_of_ble_eq_true rfl) dX12_law_134 (fun H locs hP hD hS => ?_)
        have hP : va_P G.1 vwCl [o12 h x_thrown a_s a_image x_hasImage (f_s 2) 0 (f_s 4) 0 0 a_by a_truths x_turn x_lean x_last x_angle x_asLay x_ticks a_bodies x_ran x_kind x_number x_tellsV, aI G a_s 1394 (upd (upd (upd (upd (upd f_s 4 0) (226 + (f_s 2)).toNatClampNeg l1) (234 + (f_s 2)).toNatClampNeg l2) (242 + (f_s 2)).toNatClampNeg 0) (250 + (f_s 2)).toNatClampNeg 0)] H := hP
        have hD : va_D A [o12 h x_thrown a_s a_image x_hasImage (f_s 2) 0 (f_s 4) 0 0 a_by a_truths x_turn x_lean x_last x_angle x_asLay x_ticks a_bodies x_ran x_kind x_number x_tellsV, aI G a_s 1394 (upd (upd (upd (upd (upd f_s 4 0) (226 + (f_s 2)).toNatClampNeg l1) (234 + (f_s 2)).toNatClampNeg l2) (242 + (f_s 2)).toNatClampNeg 0) (250 + (f_s 2)).toNatClampNeg 0)] := hD
        refine lv_iconst (v := 1) hx hb dX12_law_137 (by decide) ?_
        refine lv_istore_n (lv' := [(3, .int 1), (0, .ref h), (1, .int l1), (2, .int l2)]) hx hb dX12_law_138 rfl hl (by decide) rfl (fun ls hl => ?_)
        refine lv_aload_n hx hb dX12_law_139 rfl (lv_at hl 1 rfl) ?_
        obtain ⟨r12, hc13, hF⟩ := bd_some hF
        have hPc := hP.sub (ws' := [o12 h x_thrown a_s a_image x_hasImage (f_s 2) 0 (f_s 4) 0 0 a_by a_truths x_turn x_lean x_last x_angle x_asLay x_ticks a_bodies x_ran x_kind x_number x_tellsV, aI G a_s 1394 (upd (upd (upd (upd (upd f_s 4 0) (226 + (f_s 2)).toNatClampNeg l1) (234 + (f_s 2)).toNatClampNeg l2) (242 + (f_s 2)).toNatClampNeg 0) (250 + (f_s 2)).toNatClampNeg 0)]) [0, 1] rfl
        have hDc := hD.sub (ws' := [o12 h x_thrown a_s a_image x_hasImage (f_s 2) 0 (f_s 4) 0 0 a_by a_truths x_turn x_lean x_last x_angle x_asLay x_ticks a_bodies x_ran x_kind x_number x_tellsV, aI G a_s 1394 (upd (upd (upd (upd (upd f_s 4 0) (226 + (f_s 2)).toNatClampNeg l1) (234 + (f_s 2)).toNatClampNeg l2) (242 + (f_s 2)).toNatClampNeg 0) (250 + (f_s 2)).toNatClampNeg 0)]) [0, 1] (by decide) rfl
        have hFc := va_free (wc := [o12 h x_thrown a_s a_image x_hasImage (f_s 2) 0 (f_s 4) 0 0 a_by a_truths x_turn x_lean x_last x_angle x_asLay x_ticks a_bodies x_ran x_kind x_number x_tellsV, aI G a_s 1394 (upd (upd (upd (upd (upd f_s 4 0) (226 + (f_s 2)).toNatClampNeg l1) (234 + (f_s 2)).toNatClampNeg l2) (242 + (f_s 2)).toNatClampNeg 0) (250 + (f_s 2)).toNatClampNeg 0)]) hD hS hA [0, 1] rfl
        have hM := c_X12_clauseHere l G h a_s a_image a_by a_truths a_bodies x_thrown x_hasImage (f_s 2) 0 (f_s 4) 0 0 x_turn x_lean x_last x_angle x_asLay x_ticks x_ran x_kind x_number x_tellsV (upd (upd (upd (upd (upd f_s 4 0) (226 + (f_s 2)).toNatClampNeg l1) (234 + (f_s 2)).toNatClampNeg l2) (242 + (f_s 2)).toNatClampNeg 0) (250 + (f_s 2)).toNatClampNeg 0) r12.1 r12.2.1 r12.2.2.1 r12.2.2.2 hc13 H.size
        refine cl_v (w1 := [o12 h x_thrown a_s a_image x_hasImage (f_s 2) r12.1 (f_s 4) r12.2.1 r12.2.2.1 a_by a_truths x_turn x_lean x_last x_angle x_asLay x_ticks a_bodies x_ran x_kind x_number x_tellsV, aI G a_s 1394 r12.2.2.2]) (ws' := [o12 h x_thrown a_s a_image x_hasImage (f_s 2) r12.1 (f_s 4) r12.2.1 r12.2.2.1 a_by a_truths x_turn x_lean x_last x_angle x_asLay x_ticks a_bodies x_ran x_kind x_number x_tellsV, aI G a_s 1394 r12.2.2.2]) hP hD hS hFc [0, 1] rfl rfl rfl (va_runV (As := []) (rest := []) ⟨hx, hb, hml, hown, hts⟩ hM (cwV 0 hts gX12_law_X12_clauseHere rfl rfl rfl (by decide +kernel) ⟨Nat.le_of_ble_eq_true rfl, Nat.le_of_ble_eq_true rfl⟩) (cp_V hK hE hS hPc hDc hFc (va_recv hK hPc (ci := 12) (q0 := 0) rfl rfl)) rfl rfl hl.1 rfl (lv_room (Nat.le_of_ble_eq_true rfl)) dX12_law_140 ⟨Nat.zero_le _, Nat.zero_le _⟩) (fun H locs hP hD hS => ?_)
        refine LP143 _ _ _ (fun x_spot_21 x_isWrong_22 x_open_23 f_s_24 H locs ls hP hD hS hl hF => ?_) _ _ _ _ _ _ H locs ls hP hD hS (lv_sub hl [1, 0] rfl) hF
        exact B185 _ _ _ _ _ _ H locs ls hP hD hS (lv_sub hl [0] rfl) hF
      rw [if_pos c7] at hF
      refine lv_bipush (v := (-4)) hx hb dX12_law_36 (by decide) ?_
      injection hF with hz
      injection hz with hq0 hz
      injection hz with hq1 hz
      injection hz with hq2 hz
      injection hz with hq3 hz
      injection hz with hq4 hz
      injection hz with hq5 hz
      subst hq0
      subst hq1
      subst hq2
      subst hq3
      subst hq4
      subst hq5
      subst hz
      exact cm_reti hx hb hr rfl hlk hK hP hD hS dX12_law_38
    rw [if_pos c6] at hF
    refine lv_bipush (v := (-2)) hx hb dX12_law_22 (by decide) ?_
    injection hF with hz
    injection hz with hq0 hz
    injection hz with hq1 hz
    injection hz with hq2 hz
    injection hz with hq3 hz
    injection hz with hq4 hz
    injection hz with hq5 hz
    subst hq0
    subst hq1
    subst hq2
    subst hq3
    subst hq4
    subst hq5
    subst hz
    exact cm_reti hx hb hr rfl hlk hK hP hD hS dX12_law_24
  rw [if_pos c3] at hF
  refine lv_iconst (v := (-1)) hx hb dX12_law_10 (by decide) ?_
  injection hF with hz
  injection hz with hq0 hz
  injection hz with hq1 hz
  injection hz with hq2 hz
  injection hz with hq3 hz
  injection hz with hq4 hz
  injection hz with hq5 hz
  subst hq0
  subst hq1
  subst hq2
  subst hq3
  subst hq4
  subst hq5
  subst hz
  exact cm_reti hx hb hr rfl hlk hK hP hD hS dX12_law_11
