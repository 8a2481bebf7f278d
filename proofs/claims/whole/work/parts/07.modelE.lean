/-! HeadsByHairModel.spells(Ljava/lang/String;)V -/
abbrev rm_X12_spells : Room := { frames := 4, cells := 0, slots := 0, locals := 111 }
set_option maxHeartbeats 4000000 in
set_option maxRecDepth 100000 in
theorem c_X12_spells (l : Launch) (G : GG) (h a_s a_image a_by a_truths a_bodies : Nat) (x_thrown x_hasImage x_act x_spot x_end x_isWrong x_open x_turn x_lean x_last x_angle x_asLay x_ticks x_ran x_kind x_number x_tellsV : Int32) (f_s : Nat → Int32) (t1 : Nat) (ht1 : t1 < nJS) (z_x_spot : Int32) (z_x_isWrong : Int32) (hF : fX12_spells t1 x_spot x_end x_isWrong f_s = some (z_x_spot, z_x_isWrong)) : CMv l yX12_spells wsX12_spells rm_X12_spells G [o12 h x_thrown a_s a_image x_hasImage x_act x_spot x_end x_isWrong x_open a_by a_truths x_turn x_lean x_last x_angle x_asLay x_ticks a_bodies x_ran x_kind x_number x_tellsV, aI G a_s 1394 f_s] [o12 h x_thrown a_s a_image x_hasImage x_act z_x_spot x_end z_x_isWrong x_open a_by a_truths x_turn x_lean x_last x_angle x_asLay x_ticks a_bodies x_ran x_kind x_number x_tellsV, aI G a_s 1394 f_s] [.ref h, .ref (G.2.2.1 t1)] := by
  refine cm_start (cc := cX12_spells) (maxL := 3) (ret := none) (Qc := fun A => QV G [o12 h x_thrown a_s a_image x_hasImage x_act z_x_spot x_end z_x_isWrong x_open a_by a_truths x_turn x_lean x_last x_angle x_asLay x_ticks a_bodies x_ran x_kind x_number x_tellsV, aI G a_s 1394 f_s] A) (by decide +kernel) rfl (Nat.le_of_ble_eq_true rfl) ?_
  intro p e s m args below meth c A hx hb hr hlk hml hown hnm hts hA H locs hP hK hD hE hS ls hl
  have hown : s.vm.findClass RX12 = some m.cls := hown
  have hl : lv_has ls 3 [(0, .ref h), (1, .ref (G.2.2.1 t1))] := hl
  revert hF
  have LP2 : ∀ (n : Nat) (x_spot : Int32) (x_isWrong : Int32) (l2 : Int32) (H : Heap) (locs : List Loc) (ls : Array Slot), va_P G.1 vwCl [o12 h x_thrown a_s a_image x_hasImage x_act x_spot x_end x_isWrong x_open a_by a_truths x_turn x_lean x_last x_angle x_asLay x_ticks a_bodies x_ran x_kind x_number x_tellsV, aI G a_s 1394 f_s] H → va_D A [o12 h x_thrown a_s a_image x_hasImage x_act x_spot x_end x_isWrong x_open a_by a_truths x_turn x_lean x_last x_angle x_asLay x_ticks a_bodies x_ran x_kind x_number x_tellsV, aI G a_s 1394 f_s] → va_S A s.heap H locs → lv_has ls 3 [(0, .ref h), (1, .ref (G.2.2.1 t1)), (2, .int l2)] → fX12_spells_L2 t1 x_end f_s n x_spot x_isWrong l2 = some (z_x_spot, z_x_isWrong) → W p l e (rm_X12_spells) s m args below meth c H locs 0 0 (MQ below (QV G [o12 h x_thrown a_s a_image x_hasImage x_act z_x_spot x_end z_x_isWrong x_open a_by a_truths x_turn x_lean x_last x_angle x_asLay x_ticks a_bodies x_ran x_kind x_number x_tellsV, aI G a_s 1394 f_s] A) args s 0 0 A) (F0 m 2 ls []) := by
    intro n
    induction n with
    | zero =>
      intro x_spot x_isWrong l2 H locs ls hP hD hS hl hF
      cases hF
    | succ n ih =>
      intro x_spot x_isWrong l2 H locs ls hP hD hS hl hF
      rw [fX12_spells_L2] at hF
      refine lv_iload_n hx hb dX12_spells_2 rfl (lv_at hl 2 rfl) ?_
      refine lv_aload_n hx hb dX12_spells_3 rfl (lv_at hl 1 rfl) ?_
      have hPc := hP.sub (ws' := []) [] rfl
      have hDc := hD.sub (ws' := []) [] (by decide) rfl
      have hFc := va_free (wc := []) hD hS hA [] rfl
      have hM := c_J0_length l G t1 ht1 H.size
      obtain ⟨cell, oa1, oa2, oa3, oa4⟩ := (hE.str (i := t1) ht1).1.kept hS.2.1
      refine cl_i (w1 := []) (ws' := [o12 h x_thrown a_s a_image x_hasImage x_act x_spot x_end x_isWrong x_open a_by a_truths x_turn x_lean x_last x_angle x_asLay x_ticks a_bodies x_ran x_kind x_number x_tellsV, aI G a_s 1394 f_s]) hP hD hS hFc [] rfl rfl rfl (va_runV (As := []) (rest := [.int l2]) ⟨hx, hb, hml, hown, hts⟩ hM (cwV 0 hts gX12_spells_J0_length_8abf5 rfl rfl rfl (by decide +kernel) ⟨Nat.le_of_ble_eq_true rfl, Nat.le_of_ble_eq_true rfl⟩) (cp_V hK hE hS hPc hDc hFc ⟨cell, oa1, oa2, oa3⟩) rfl rfl hl.1 rfl (lv_room (Nat.le_of_ble_eq_true rfl)) dX12_spells_4 ⟨Nat.zero_le _, Nat.zero_le _⟩) (fun H locs hP hD hS => ?_)
      refine lv_icmp_ge (tgt := 25) hx hb dX12_spells_7 (by decide) (fun c1 => ?_) (fun c1 => ?_)
      · rw [if_pos c1] at hF
        injection hF with hz
        injection hz with hq0 hz
        subst hq0
        subst hz
        exact cm_retv hx hb hr hlk hK hP hD hS dX12_spells_25
      rw [if_neg c1] at hF
      refine lv_aload_n hx hb dX12_spells_10 rfl (lv_at hl 0 rfl) ?_
      refine lv_aload_n hx hb dX12_spells_11 rfl (lv_at hl 1 rfl) ?_
      refine lv_iload_n hx hb dX12_spells_12 rfl (lv_at hl 2 rfl) ?_
      obtain ⟨hi2, hF⟩ := ck_some hF
      have hPc := hP.sub (ws' := []) [] rfl
      have hDc := hD.sub (ws' := []) [] (by decide) rfl
      have hFc := va_free (wc := []) hD hS hA [] rfl
      have hM := c_J0_charAt l G t1 ht1 l2 hi2 H.size
      obtain ⟨cell, oa1, oa2, oa3, oa4⟩ := (hE.str (i := t1) ht1).1.kept hS.2.1
      refine cl_i (w1 := []) (ws' := [o12 h x_thrown a_s a_image x_hasImage x_act x_spot x_end x_isWrong x_open a_by a_truths x_turn x_lean x_last x_angle x_asLay x_ticks a_bodies x_ran x_kind x_number x_tellsV, aI G a_s 1394 f_s]) hP hD hS hFc [] rfl rfl rfl (va_runV (As := [.int l2]) (rest := [.ref h]) ⟨hx, hb, hml, hown, hts⟩ hM (cwV 1 hts gX12_spells_J0_charAt_5068e rfl rfl rfl (by decide +kernel) ⟨Nat.le_of_ble_eq_true rfl, Nat.le_of_ble_eq_true rfl⟩) (cp_V hK hE hS hPc hDc hFc ⟨cell, oa1, oa2, oa3⟩) rfl rfl hl.1 rfl (lv_room (Nat.le_of_ble_eq_true rfl)) dX12_spells_13 ⟨Nat.zero_le _, Nat.zero_le _⟩) (fun H locs hP hD hS => ?_)
      obtain ⟨r3, hc4, hF⟩ := bd_some hF
      have hPc := hP.sub (ws' := [o12 h x_thrown a_s a_image x_hasImage x_act x_spot x_end x_isWrong x_open a_by a_truths x_turn x_lean x_last x_angle x_asLay x_ticks a_bodies x_ran x_kind x_number x_tellsV, aI G a_s 1394 f_s]) [0, 1] rfl
      have hDc := hD.sub (ws' := [o12 h x_thrown a_s a_image x_hasImage x_act x_spot x_end x_isWrong x_open a_by a_truths x_turn x_lean x_last x_angle x_asLay x_ticks a_bodies x_ran x_kind x_number x_tellsV, aI G a_s 1394 f_s]) [0, 1] (by decide) rfl
      have hFc := va_free (wc := [o12 h x_thrown a_s a_image x_hasImage x_act x_spot x_end x_isWrong x_open a_by a_truths x_turn x_lean x_last x_angle x_asLay x_ticks a_bodies x_ran x_kind x_number x_tellsV, aI G a_s 1394 f_s]) hD hS hA [0, 1] rfl
      have hM := c_X12_must l G h a_s a_image a_by a_truths a_bodies x_thrown x_hasImage x_act x_spot x_end x_isWrong x_open x_turn x_lean x_last x_angle x_asLay x_ticks x_ran x_kind x_number x_tellsV f_s (js_ch t1 l2.toNatClampNeg) r3.1 r3.2 hc4 H.size
      refine cl_v (w1 := [o12 h x_thrown a_s a_image x_hasImage x_act r3.1 x_end r3.2 x_open a_by a_truths x_turn x_lean x_last x_angle x_asLay x_ticks a_bodies x_ran x_kind x_number x_tellsV, aI G a_s 1394 f_s]) (ws' := [o12 h x_thrown a_s a_image x_hasImage x_act r3.1 x_end r3.2 x_open a_by a_truths x_turn x_lean x_last x_angle x_asLay x_ticks a_bodies x_ran x_kind x_number x_tellsV, aI G a_s 1394 f_s]) hP hD hS hFc [0, 1] rfl rfl rfl (va_runV (As := [.int (js_ch t1 l2.toNatClampNeg)]) (rest := []) ⟨hx, hb, hml, hown, hts⟩ hM (cwV 1 hts gX12_spells_X12_must rfl rfl rfl (by decide +kernel) ⟨Nat.le_of_ble_eq_true rfl, Nat.le_of_ble_eq_true rfl⟩) (cp_V hK hE hS hPc hDc hFc (va_recv hK hPc (ci := 12) (q0 := 0) rfl rfl)) rfl rfl hl.1 rfl (lv_room (Nat.le_of_ble_eq_true rfl)) dX12_spells_16 ⟨Nat.zero_le _, Nat.zero_le _⟩) (fun H locs hP hD hS => ?_)
      refine lv_iinc (v := l2 + 1) (lv' := [(2, .int (l2 + 1)), (0, .ref h), (1, .ref (G.2.2.1 t1))]) hx hb dX12_spells_19 hl (k := 2) rfl rfl (by decide) rfl (fun ls hl => ?_)
      refine lv_goto (tgt := 2) hx hb dX12_spells_22 (by decide) ?_
      exact ih _ _ _ H locs ls hP hD hS (lv_sub hl [1, 2, 0] rfl) hF
  intro hF
  unfold fX12_spells at hF
  refine lv_iconst (v := 0) hx hb dX12_spells_0 (by decide) ?_
  refine lv_istore_n (lv' := [(2, .int 0), (0, .ref h), (1, .ref (G.2.2.1 t1))]) hx hb dX12_spells_1 rfl hl (by decide) rfl (fun ls hl => ?_)
  refine LP2 _ _ _ _ H locs ls hP hD hS (lv_sub hl [1, 2, 0] rfl) hF

/-! HeadsByHairModel.among(Ljava/lang/String;)I -/
abbrev rm_X12_among : Room := { frames := 4, cells := 0, slots := 0, locals := 111 }
set_option maxHeartbeats 4000000 in
set_option maxRecDepth 100000 in
theorem c_X12_among (l : Launch) (G : GG) (h a_s a_image a_by a_truths a_bodies : Nat) (x_thrown x_hasImage x_act x_spot x_end x_isWrong x_open x_turn x_lean x_last x_angle x_asLay x_ticks x_ran x_kind x_number x_tellsV : Int32) (f_s : Nat → Int32) (t1 : Nat) (ht1 : t1 < nJS) (z : Int32) (z_x_spot : Int32) (hF : fX12_among t1 x_spot x_end f_s = some (z, z_x_spot)) : CMi l yX12_among wsX12_among rm_X12_among G [o12 h x_thrown a_s a_image x_hasImage x_act x_spot x_end x_isWrong x_open a_by a_truths x_turn x_lean x_last x_angle x_asLay x_ticks a_bodies x_ran x_kind x_number x_tellsV, aI G a_s 1394 f_s] [o12 h x_thrown a_s a_image x_hasImage x_act z_x_spot x_end x_isWrong x_open a_by a_truths x_turn x_lean x_last x_angle x_asLay x_ticks a_bodies x_ran x_kind x_number x_tellsV, aI G a_s 1394 f_s] [.ref h, .ref (G.2.2.1 t1)] z := by
  refine cm_start (cc := cX12_among) (maxL := 3) (ret := (some .int)) (Qc := fun A => QI G [o12 h x_thrown a_s a_image x_hasImage x_act z_x_spot x_end x_isWrong x_open a_by a_truths x_turn x_lean x_last x_angle x_asLay x_ticks a_bodies x_ran x_kind x_number x_tellsV, aI G a_s 1394 f_s] z A) (by decide +kernel) rfl (Nat.le_of_ble_eq_true rfl) ?_
  intro p e s m args below meth c A hx hb hr hlk hml hown hnm hts hA H locs hP hK hD hE hS ls hl
  have hown : s.vm.findClass RX12 = some m.cls := hown
  have hl : lv_has ls 3 [(0, .ref h), (1, .ref (G.2.2.1 t1))] := hl
  have hin12 : ∀ w ∈ wsX120, w ∈ wsX12_among := by decide +kernel
  have lk_56 := hts (.fieldLink RX12 56 "HeadsByHairModel" "spot" "I") (by decide +kernel)
  revert hF
  have LP2 : ∀ (x_spot : Int32) (k22 : Int32 → Option (Int32 × Int32)) (hk22 : ∀ (l2 : Int32) (H : Heap) (locs : List Loc) (ls : Array Slot), va_P G.1 vwCl [o12 h x_thrown a_s a_image x_hasImage x_act x_spot x_end x_isWrong x_open a_by a_truths x_turn x_lean x_last x_angle x_asLay x_ticks a_bodies x_ran x_kind x_number x_tellsV, aI G a_s 1394 f_s] H → va_D A [o12 h x_thrown a_s a_image x_hasImage x_act x_spot x_end x_isWrong x_open a_by a_truths x_turn x_lean x_last x_angle x_asLay x_ticks a_bodies x_ran x_kind x_number x_tellsV, aI G a_s 1394 f_s] → va_S A s.heap H locs → lv_has ls 3 [(0, .ref h), (2, .int l2)] → k22 l2 = some (z, z_x_spot) → W p l e (rm_X12_among) s m args below meth c H locs 0 0 (MQ below (QI G [o12 h x_thrown a_s a_image x_hasImage x_act z_x_spot x_end x_isWrong x_open a_by a_truths x_turn x_lean x_last x_angle x_asLay x_ticks a_bodies x_ran x_kind x_number x_tellsV, aI G a_s 1394 f_s] z A) args s 0 0 A) (F0 m 22 ls [])) (n : Nat) (l2 : Int32) (H : Heap) (locs : List Loc) (ls : Array Slot), va_P G.1 vwCl [o12 h x_thrown a_s a_image x_hasImage x_act x_spot x_end x_isWrong x_open a_by a_truths x_turn x_lean x_last x_angle x_asLay x_ticks a_bodies x_ran x_kind x_number x_tellsV, aI G a_s 1394 f_s] H → va_D A [o12 h x_thrown a_s a_image x_hasImage x_act x_spot x_end x_isWrong x_open a_by a_truths x_turn x_lean x_last x_angle x_asLay x_ticks a_bodies x_ran x_kind x_number x_tellsV, aI G a_s 1394 f_s] → va_S A s.heap H locs → lv_has ls 3 [(0, .ref h), (1, .ref (G.2.2.1 t1)), (2, .int l2)] → fX12_among_L2 k22 t1 x_spot x_end f_s n l2 = some (z, z_x_spot) → W p l e (rm_X12_among) s m args below meth c H locs 0 0 (MQ below (QI G [o12 h x_thrown a_s a_image x_hasImage x_act z_x_spot x_end x_isWrong x_open a_by a_truths x_turn x_lean x_last x_angle x_asLay x_ticks a_bodies x_ran x_kind x_number x_tellsV, aI G a_s 1394 f_s] z A) args s 0 0 A) (F0 m 2 ls []) := by
    intro x_spot k22 hk22 n
    induction n with
    | zero =>
      intro l2 H locs ls hP hD hS hl hF
      cases hF
    | succ n ih =>
      intro l2 H locs ls hP hD hS hl hF
      rw [fX12_among_L2] at hF
      refine lv_iload_n hx hb dX12_among_2 rfl (lv_at hl 2 rfl) ?_
      refine lv_aload_n hx hb dX12_among_3 rfl (lv_at hl 1 rfl) ?_
      have hPc := hP.sub (ws' := []) [] rfl
      have hDc := hD.sub (ws' := []) [] (by decide) rfl
      have hFc := va_free (wc := []) hD hS hA [] rfl
      have hM := c_J0_length l G t1 ht1 H.size
      obtain ⟨cell, oa1, oa2, oa3, oa4⟩ := (hE.str (i := t1) ht1).1.kept hS.2.1
      refine cl_i (w1 := []) (ws' := [o12 h x_thrown a_s a_image x_hasImage x_act x_spot x_end x_isWrong x_open a_by a_truths x_turn x_lean x_last x_angle x_asLay x_ticks a_bodies x_ran x_kind x_number x_tellsV, aI G a_s 1394 f_s]) hP hD hS hFc [] rfl rfl rfl (va_runV (As := []) (rest := [.int l2]) ⟨hx, hb, hml, hown, hts⟩ hM (cwV 0 hts gX12_among_J0_length_8abf5 rfl rfl rfl (by decide +kernel) ⟨Nat.le_of_ble_eq_true rfl, Nat.le_of_ble_eq_true rfl⟩) (cp_V hK hE hS hPc hDc hFc ⟨cell, oa1, oa2, oa3⟩) rfl rfl hl.1 rfl (lv_room (Nat.le_of_ble_eq_true rfl)) dX12_among_4 ⟨Nat.zero_le _, Nat.zero_le _⟩) (fun H locs hP hD hS => ?_)
      refine lv_icmp_ge (tgt := 40) hx hb dX12_among_7 (by decide) (fun c1 => ?_) (fun c1 => ?_)
      · rw [if_pos c1] at hF
        refine lv_iconst (v := (-1)) hx hb dX12_among_40 (by decide) ?_
        injection hF with hz
        injection hz with hq0 hz
        subst hq0
        subst hz
        exact cm_reti hx hb hr rfl hlk hK hP hD hS dX12_among_41
      rw [if_neg c1] at hF
      refine lv_aload_n hx hb dX12_among_10 rfl (lv_at hl 0 rfl) ?_
      obtain ⟨r2, hc3, hF⟩ := bd_some hF
      have hPc := hP.sub (ws' := [o12 h x_thrown a_s a_image x_hasImage x_act x_spot x_end x_isWrong x_open a_by a_truths x_turn x_lean x_last x_angle x_asLay x_ticks a_bodies x_ran x_kind x_number x_tellsV, aI G a_s 1394 f_s]) [0, 1] rfl
      have hDc := hD.sub (ws' := [o12 h x_thrown a_s a_image x_hasImage x_act x_spot x_end x_isWrong x_open a_by a_truths x_turn x_lean x_last x_angle x_asLay x_ticks a_bodies x_ran x_kind x_number x_tellsV, aI G a_s 1394 f_s]) [0, 1] (by decide) rfl
      have hFc := va_free (wc := [o12 h x_thrown a_s a_image x_hasImage x_act x_spot x_end x_isWrong x_open a_by a_truths x_turn x_lean x_last x_angle x_asLay x_ticks a_bodies x_ran x_kind x_number x_tellsV, aI G a_s 1394 f_s]) hD hS hA [0, 1] rfl
      have hM := c_X12_here l G h a_s a_image a_by a_truths a_bodies x_thrown x_hasImage x_act x_spot x_end x_isWrong x_open x_turn x_lean x_last x_angle x_asLay x_ticks x_ran x_kind x_number x_tellsV f_s r2 hc3 H.size
      refine cl_i (w1 := [o12 h x_thrown a_s a_image x_hasImage x_act x_spot x_end x_isWrong x_open a_by a_truths x_turn x_lean x_last x_angle x_asLay x_ticks a_bodies x_ran x_kind x_number x_tellsV, aI G a_s 1394 f_s]) (ws' := [o12 h x_thrown a_s a_image x_hasImage x_act x_spot x_end x_isWrong x_open a_by a_truths x_turn x_lean x_last x_angle x_asLay x_ticks a_bodies x_ran x_kind x_number x_tellsV, aI G a_s 1394 f_s]) hP hD hS hFc [0, 1] rfl rfl rfl (va_runV (As := []) (rest := []) ⟨hx, hb, hml, hown, hts⟩ hM (cwV 0 hts gX12_among_X12_here rfl rfl rfl (by decide +kernel) ⟨Nat.le_of_ble_eq_true rfl, Nat.le_of_ble_eq_true rfl⟩) (cp_V hK hE hS hPc hDc hFc (va_recv hK hPc (ci := 12) (q0 := 0) rfl rfl)) rfl rfl hl.1 rfl (lv_room (Nat.le_of_ble_eq_true rfl)) dX12_among_11 ⟨Nat.zero_le _, Nat.zero_le _⟩) (fun H locs hP hD hS => ?_)
      refine lv_aload_n hx hb dX12_among_14 rfl (lv_at hl 1 rfl) ?_
      refine lv_iload_n hx hb dX12_among_15 rfl (lv_at hl 2 rfl) ?_
      obtain ⟨hi4, hF⟩ := ck_some hF
      have hPc := hP.sub (ws' := []) [] rfl
      have hDc := hD.sub (ws' := []) [] (by decide) rfl
      have hFc := va_free (wc := []) hD hS hA [] rfl
      have hM := c_J0_charAt l G t1 ht1 l2 hi4 H.size
      obtain ⟨cell, oa1, oa2, oa3, oa4⟩ := (hE.str (i := t1) ht1).1.kept hS.2.1
      refine cl_i (w1 := []) (ws' := [o12 h x_thrown a_s a_image x_hasImage x_act x_spot x_end x_isWrong x_open a_by a_truths x_turn x_lean x_last x_angle x_asLay x_ticks a_bodies x_ran x_kind x_number x_tellsV, aI G a_s 1394 f_s]) hP hD hS hFc [] rfl rfl rfl (va_runV (As := [.int l2]) (rest := [.int r2]) ⟨hx, hb, hml, hown, hts⟩ hM (cwV 1 hts gX12_among_J0_charAt_5068e rfl rfl rfl (by decide +kernel) ⟨Nat.le_of_ble_eq_true rfl, Nat.le_of_ble_eq_true rfl⟩) (cp_V hK hE hS hPc hDc hFc ⟨cell, oa1, oa2, oa3⟩) rfl rfl hl.1 rfl (lv_room (Nat.le_of_ble_eq_true rfl)) dX12_among_16 ⟨Nat.zero_le _, Nat.zero_le _⟩) (fun H locs hP hD hS => ?_)
      refine lv_icmp_ne (tgt := 34) hx hb dX12_among_19 (by decide) (fun c5 => ?_) (fun c5 => ?_)
      · rw [if_neg c5] at hF
        refine lv_iinc (v := l2 + 1) (lv' := [(2, .int (l2 + 1)), (0, .ref h), (1, .ref (G.2.2.1 t1))]) hx hb dX12_among_34 hl (k := 2) rfl rfl (by decide) rfl (fun ls hl => ?_)
        refine lv_goto (tgt := 2) hx hb dX12_among_37 (by decide) ?_
        exact ih _ H locs ls hP hD hS (lv_sub hl [1, 2, 0] rfl) hF
      rw [if_pos c5] at hF
      exact hk22 _ H locs ls hP hD hS (lv_sub hl [0, 2] rfl) hF
  intro hF
  unfold fX12_among at hF
  refine lv_iconst (v := 0) hx hb dX12_among_0 (by decide) ?_
  refine lv_istore_n (lv' := [(2, .int 0), (0, .ref h), (1, .ref (G.2.2.1 t1))]) hx hb dX12_among_1 rfl hl (by decide) rfl (fun ls hl => ?_)
  refine LP2 _ _ (fun l2_6 H locs ls hP hD hS hl hF => ?_) _ _ H locs ls hP hD hS (lv_sub hl [1, 2, 0] rfl) hF
  refine lv_aload_n hx hb dX12_among_22 rfl (lv_at hl 0 rfl) ?_
  refine lv_dup hx hb dX12_among_23 rfl ?_
  refine va_get (D := G.1) (ci := 12) (v := .int x_spot) (C := RX12) (T := TX12) (N := 22) hx hb hts hin12 hown hK hP 0 rfl rfl 5 (by decide) lk_56 (fun _ h9 => h9) rfl dX12_among_24 ?_
  refine lv_iconst (v := 1) hx hb dX12_among_27 (by decide) ?_
  refine lv_iadd hx hb dX12_among_28 ?_
  refine va_put (D := G.1) (ci := 12) (v := .int (x_spot + 1)) (ty := .int) (C := RX12) (T := TX12) (N := 22) hx hb hts hin12 tyX12 tyX12_ok nmX12 hown hK hP hD hS 0 rfl rfl 5 (by decide) lk_56 (fun _ h9 => h9) rfl (tyX12_ok 5 (by decide)) rfl rfl (Nat.le_of_ble_eq_true rfl) dX12_among_29 (fun H locs hP hD hS => ?_)
  have hP : va_P G.1 vwCl [o12 h x_thrown a_s a_image x_hasImage x_act (x_spot + 1) x_end x_isWrong x_open a_by a_truths x_turn x_lean x_last x_angle x_asLay x_ticks a_bodies x_ran x_kind x_number x_tellsV, aI G a_s 1394 f_s] H := hP
  have hD : va_D A [o12 h x_thrown a_s a_image x_hasImage x_act (x_spot + 1) x_end x_isWrong x_open a_by a_truths x_turn x_lean x_last x_angle x_asLay x_ticks a_bodies x_ran x_kind x_number x_tellsV, aI G a_s 1394 f_s] := hD
  refine lv_iload_n hx hb dX12_among_32 rfl (lv_at hl 1 rfl) ?_
  injection hF with hz
  injection hz with hq0 hz
  subst hq0
  subst hz
  exact cm_reti hx hb hr rfl hlk hK hP hD hS dX12_among_33
