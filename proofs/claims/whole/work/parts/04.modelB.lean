/-! HeadsByHairModel.here()I -/
abbrev rm_X12_here : Room := { frames := 0, cells := 0, slots := 0, locals := 0 }
set_option maxHeartbeats 4000000 in
set_option maxRecDepth 100000 in
theorem c_X12_here (l : Launch) (G : GG) (h a_s a_image a_by a_truths a_bodies : Nat) (x_thrown x_hasImage x_act x_spot x_end x_isWrong x_open x_turn x_lean x_last x_angle x_asLay x_ticks x_ran x_kind x_number x_tellsV : Int32) (f_s : Nat → Int32) (z : Int32) (hF : fX12_here x_spot x_end f_s = some (z)) : CMi l yX12_here wsX12_here rm_X12_here G [o12 h x_thrown a_s a_image x_hasImage x_act x_spot x_end x_isWrong x_open a_by a_truths x_turn x_lean x_last x_angle x_asLay x_ticks a_bodies x_ran x_kind x_number x_tellsV, aI G a_s 1394 f_s] [o12 h x_thrown a_s a_image x_hasImage x_act x_spot x_end x_isWrong x_open a_by a_truths x_turn x_lean x_last x_angle x_asLay x_ticks a_bodies x_ran x_kind x_number x_tellsV, aI G a_s 1394 f_s] [.ref h] z := by
  refine cm_start (cc := cX12_here) (maxL := 1) (ret := (some .int)) (Qc := fun A => QI G [o12 h x_thrown a_s a_image x_hasImage x_act x_spot x_end x_isWrong x_open a_by a_truths x_turn x_lean x_last x_angle x_asLay x_ticks a_bodies x_ran x_kind x_number x_tellsV, aI G a_s 1394 f_s] z A) (by decide +kernel) rfl (Nat.le_of_ble_eq_true rfl) ?_
  intro p e s m args below meth c A hx hb hr hlk hml hown hnm hts hA H locs hP hK hD hE hS ls hl
  have hown : s.vm.findClass RX12 = some m.cls := hown
  have hl : lv_has ls 1 [(0, .ref h)] := hl
  have hin12 : ∀ w ∈ wsX120, w ∈ wsX12_here := by decide +kernel
  have lk_56 := hts (.fieldLink RX12 56 "HeadsByHairModel" "spot" "I") (by decide +kernel)
  have lk_59 := hts (.fieldLink RX12 59 "HeadsByHairModel" "end" "I") (by decide +kernel)
  have lk_9 := hts (.fieldLink RX12 9 "HeadsByHairModel" "s" "[I") (by decide +kernel)
  revert hF
  intro hF
  unfold fX12_here at hF
  refine lv_aload_n hx hb dX12_here_0 rfl (lv_at hl 0 rfl) ?_
  refine va_get (D := G.1) (ci := 12) (v := .int x_spot) (C := RX12) (T := TX12) (N := 22) hx hb hts hin12 hown hK hP 0 rfl rfl 5 (by decide) lk_56 (fun _ h9 => h9) rfl dX12_here_1 ?_
  refine lv_aload_n hx hb dX12_here_4 rfl (lv_at hl 0 rfl) ?_
  refine va_get (D := G.1) (ci := 12) (v := .int x_end) (C := RX12) (T := TX12) (N := 22) hx hb hts hin12 hown hK hP 0 rfl rfl 6 (by decide) lk_59 (fun _ h9 => h9) rfl dX12_here_5 ?_
  refine lv_icmp_ge (tgt := 26) hx hb dX12_here_8 (by decide) (fun c1 => ?_) (fun c1 => ?_)
  · rw [if_pos c1] at hF
    refine lv_iconst (v := (-1)) hx hb dX12_here_26 (by decide) ?_
    injection hF with hz
    subst hz
    exact cm_reti hx hb hr rfl hlk hK hP hD hS dX12_here_27
  rw [if_neg c1] at hF
  refine lv_aload_n hx hb dX12_here_11 rfl (lv_at hl 0 rfl) ?_
  refine va_get (D := G.1) (ci := 12) (v := .ref a_s) (C := RX12) (T := TX12) (N := 22) hx hb hts hin12 hown hK hP 0 rfl rfl 1 (by decide) lk_9 (fun _ h9 => h9) rfl dX12_here_12 ?_
  refine lv_bipush (v := 10) hx hb dX12_here_15 (by decide) ?_
  refine lv_aload_n hx hb dX12_here_17 rfl (lv_at hl 0 rfl) ?_
  refine va_get (D := G.1) (ci := 12) (v := .int x_spot) (C := RX12) (T := TX12) (N := 22) hx hb hts hin12 hown hK hP 0 rfl rfl 5 (by decide) lk_56 (fun _ h9 => h9) rfl dX12_here_18 ?_
  refine lv_iadd hx hb dX12_here_21 ?_
  obtain ⟨hi2, hF⟩ := ck_some hF
  refine va_iald (D := G.1) hx hb hK hP 1 0 rfl rfl hi2 dX12_here_22 ?_
  refine lv_goto (tgt := 27) hx hb dX12_here_23 (by decide) ?_
  refine W.eq (g2 := F0 m 27 ls [.int (f_s (10 + x_spot).toNatClampNeg)]) rfl ?_
  injection hF with hz
  subst hz
  exact cm_reti hx hb hr rfl hlk hK hP hD hS dX12_here_27

/-! HeadsByHairModel.must(I)V -/
abbrev rm_X12_must : Room := { frames := 1, cells := 0, slots := 0, locals := 20 }
set_option maxHeartbeats 4000000 in
set_option maxRecDepth 100000 in
theorem c_X12_must (l : Launch) (G : GG) (h a_s a_image a_by a_truths a_bodies : Nat) (x_thrown x_hasImage x_act x_spot x_end x_isWrong x_open x_turn x_lean x_last x_angle x_asLay x_ticks x_ran x_kind x_number x_tellsV : Int32) (f_s : Nat → Int32) (l1 : Int32) (z_x_spot : Int32) (z_x_isWrong : Int32) (hF : fX12_must x_spot x_end x_isWrong f_s l1 = some (z_x_spot, z_x_isWrong)) : CMv l yX12_must wsX12_must rm_X12_must G [o12 h x_thrown a_s a_image x_hasImage x_act x_spot x_end x_isWrong x_open a_by a_truths x_turn x_lean x_last x_angle x_asLay x_ticks a_bodies x_ran x_kind x_number x_tellsV, aI G a_s 1394 f_s] [o12 h x_thrown a_s a_image x_hasImage x_act z_x_spot x_end z_x_isWrong x_open a_by a_truths x_turn x_lean x_last x_angle x_asLay x_ticks a_bodies x_ran x_kind x_number x_tellsV, aI G a_s 1394 f_s] [.ref h, .int l1] := by
  refine cm_start (cc := cX12_must) (maxL := 2) (ret := none) (Qc := fun A => QV G [o12 h x_thrown a_s a_image x_hasImage x_act z_x_spot x_end z_x_isWrong x_open a_by a_truths x_turn x_lean x_last x_angle x_asLay x_ticks a_bodies x_ran x_kind x_number x_tellsV, aI G a_s 1394 f_s] A) (by decide +kernel) rfl (Nat.le_of_ble_eq_true rfl) ?_
  intro p e s m args below meth c A hx hb hr hlk hml hown hnm hts hA H locs hP hK hD hE hS ls hl
  have hown : s.vm.findClass RX12 = some m.cls := hown
  have hl : lv_has ls 2 [(0, .ref h), (1, .int l1)] := hl
  have hin12 : ∀ w ∈ wsX120, w ∈ wsX12_must := by decide +kernel
  have lk_62 := hts (.fieldLink RX12 62 "HeadsByHairModel" "isWrong" "Z") (by decide +kernel)
  have lk_56 := hts (.fieldLink RX12 56 "HeadsByHairModel" "spot" "I") (by decide +kernel)
  revert hF
  have B21 : ∀ (x_spot : Int32) (x_isWrong : Int32) (s1 : Int32) (H : Heap) (locs : List Loc) (ls : Array Slot), va_P G.1 vwCl [o12 h x_thrown a_s a_image x_hasImage x_act x_spot x_end x_isWrong x_open a_by a_truths x_turn x_lean x_last x_angle x_asLay x_ticks a_bodies x_ran x_kind x_number x_tellsV, aI G a_s 1394 f_s] H → va_D A [o12 h x_thrown a_s a_image x_hasImage x_act x_spot x_end x_isWrong x_open a_by a_truths x_turn x_lean x_last x_angle x_asLay x_ticks a_bodies x_ran x_kind x_number x_tellsV, aI G a_s 1394 f_s] → va_S A s.heap H locs → lv_has ls 2 [(0, .ref h)] → fX12_must_b21 x_spot x_end x_isWrong f_s s1 = some (z_x_spot, z_x_isWrong) → W p l e (rm_X12_must) s m args below meth c H locs 0 0 (MQ below (QV G [o12 h x_thrown a_s a_image x_hasImage x_act z_x_spot x_end z_x_isWrong x_open a_by a_truths x_turn x_lean x_last x_angle x_asLay x_ticks a_bodies x_ran x_kind x_number x_tellsV, aI G a_s 1394 f_s] A) args s 0 0 A) (F0 m 21 ls [.int s1, .ref h]) := by
    intro x_spot x_isWrong s1 H locs ls hP hD hS hl hF
    unfold fX12_must_b21 at hF
    obtain ⟨hb2, hF⟩ := ck_some hF
    refine va_put (D := G.1) (ci := 12) (v := .int s1) (ty := .boolean) (C := RX12) (T := TX12) (N := 22) hx hb hts hin12 tyX12 tyX12_ok nmX12 hown hK hP hD hS 0 rfl rfl 7 (by decide) lk_62 (fun _ h9 => h9) rfl (tyX12_ok 7 (by decide)) (nb_ok hb2).1 (nb_ok hb2).2 (Nat.le_of_ble_eq_true rfl) dX12_must_21 (fun H locs hP hD hS => ?_)
    have hP : va_P G.1 vwCl [o12 h x_thrown a_s a_image x_hasImage x_act x_spot x_end s1 x_open a_by a_truths x_turn x_lean x_last x_angle x_asLay x_ticks a_bodies x_ran x_kind x_number x_tellsV, aI G a_s 1394 f_s] H := hP
    have hD : va_D A [o12 h x_thrown a_s a_image x_hasImage x_act x_spot x_end s1 x_open a_by a_truths x_turn x_lean x_last x_angle x_asLay x_ticks a_bodies x_ran x_kind x_number x_tellsV, aI G a_s 1394 f_s] := hD
    refine lv_aload_n hx hb dX12_must_24 rfl (lv_at hl 0 rfl) ?_
    refine lv_dup hx hb dX12_must_25 rfl ?_
    refine va_get (D := G.1) (ci := 12) (v := .int x_spot) (C := RX12) (T := TX12) (N := 22) hx hb hts hin12 hown hK hP 0 rfl rfl 5 (by decide) lk_56 (fun _ h9 => h9) rfl dX12_must_26 ?_
    refine lv_aload_n hx hb dX12_must_29 rfl (lv_at hl 0 rfl) ?_
    refine va_get (D := G.1) (ci := 12) (v := .int s1) (C := RX12) (T := TX12) (N := 22) hx hb hts hin12 hown hK hP 0 rfl rfl 7 (by decide) lk_62 (fun _ h9 => h9) rfl dX12_must_30 ?_
    refine lv_if_eq (tgt := 40) hx hb dX12_must_33 (by decide) (fun c3 => ?_) (fun c3 => ?_)
    · rw [if_pos c3] at hF
      refine lv_iconst (v := 1) hx hb dX12_must_40 (by decide) ?_
      refine lv_iadd hx hb dX12_must_41 ?_
      refine va_put (D := G.1) (ci := 12) (v := .int (x_spot + 1)) (ty := .int) (C := RX12) (T := TX12) (N := 22) hx hb hts hin12 tyX12 tyX12_ok nmX12 hown hK hP hD hS 0 rfl rfl 5 (by decide) lk_56 (fun _ h9 => h9) rfl (tyX12_ok 5 (by decide)) rfl rfl (Nat.le_of_ble_eq_true rfl) dX12_must_42 (fun H locs hP hD hS => ?_)
      have hP : va_P G.1 vwCl [o12 h x_thrown a_s a_image x_hasImage x_act (x_spot + 1) x_end s1 x_open a_by a_truths x_turn x_lean x_last x_angle x_asLay x_ticks a_bodies x_ran x_kind x_number x_tellsV, aI G a_s 1394 f_s] H := hP
      have hD : va_D A [o12 h x_thrown a_s a_image x_hasImage x_act (x_spot + 1) x_end s1 x_open a_by a_truths x_turn x_lean x_last x_angle x_asLay x_ticks a_bodies x_ran x_kind x_number x_tellsV, aI G a_s 1394 f_s] := hD
      injection hF with hz
      injection hz with hq0 hz
      subst hq0
      subst hz
      exact cm_retv hx hb hr hlk hK hP hD hS dX12_must_45
    rw [if_neg c3] at hF
    refine lv_iconst (v := 0) hx hb dX12_must_36 (by decide) ?_
    refine lv_goto (tgt := 41) hx hb dX12_must_37 (by decide) ?_
    refine lv_iadd hx hb dX12_must_41 ?_
    refine va_put (D := G.1) (ci := 12) (v := .int (x_spot + 0)) (ty := .int) (C := RX12) (T := TX12) (N := 22) hx hb hts hin12 tyX12 tyX12_ok nmX12 hown hK hP hD hS 0 rfl rfl 5 (by decide) lk_56 (fun _ h9 => h9) rfl (tyX12_ok 5 (by decide)) rfl rfl (Nat.le_of_ble_eq_true rfl) dX12_must_42 (fun H locs hP hD hS => ?_)
    have hP : va_P G.1 vwCl [o12 h x_thrown a_s a_image x_hasImage x_act (x_spot + 0) x_end s1 x_open a_by a_truths x_turn x_lean x_last x_angle x_asLay x_ticks a_bodies x_ran x_kind x_number x_tellsV, aI G a_s 1394 f_s] H := hP
    have hD : va_D A [o12 h x_thrown a_s a_image x_hasImage x_act (x_spot + 0) x_end s1 x_open a_by a_truths x_turn x_lean x_last x_angle x_asLay x_ticks a_bodies x_ran x_kind x_number x_tellsV, aI G a_s 1394 f_s] := hD
    injection hF with hz
    injection hz with hq0 hz
    subst hq0
    subst hz
    exact cm_retv hx hb hr hlk hK hP hD hS dX12_must_45
  have B16 : ∀ (x_spot : Int32) (x_isWrong : Int32) (H : Heap) (locs : List Loc) (ls : Array Slot), va_P G.1 vwCl [o12 h x_thrown a_s a_image x_hasImage x_act x_spot x_end x_isWrong x_open a_by a_truths x_turn x_lean x_last x_angle x_asLay x_ticks a_bodies x_ran x_kind x_number x_tellsV, aI G a_s 1394 f_s] H → va_D A [o12 h x_thrown a_s a_image x_hasImage x_act x_spot x_end x_isWrong x_open a_by a_truths x_turn x_lean x_last x_angle x_asLay x_ticks a_bodies x_ran x_kind x_number x_tellsV, aI G a_s 1394 f_s] → va_S A s.heap H locs → lv_has ls 2 [(0, .ref h)] → fX12_must_b16 x_spot x_end x_isWrong f_s = some (z_x_spot, z_x_isWrong) → W p l e (rm_X12_must) s m args below meth c H locs 0 0 (MQ below (QV G [o12 h x_thrown a_s a_image x_hasImage x_act z_x_spot x_end z_x_isWrong x_open a_by a_truths x_turn x_lean x_last x_angle x_asLay x_ticks a_bodies x_ran x_kind x_number x_tellsV, aI G a_s 1394 f_s] A) args s 0 0 A) (F0 m 16 ls [.ref h]) := by
    intro x_spot x_isWrong H locs ls hP hD hS hl hF
    unfold fX12_must_b16 at hF
    refine lv_iconst (v := 1) hx hb dX12_must_16 (by decide) ?_
    refine lv_goto (tgt := 21) hx hb dX12_must_17 (by decide) ?_
    exact B21 _ _ _ H locs ls hP hD hS (lv_sub hl [0] rfl) hF
  intro hF
  unfold fX12_must at hF
  refine lv_aload_n hx hb dX12_must_0 rfl (lv_at hl 0 rfl) ?_
  refine lv_aload_n hx hb dX12_must_1 rfl (lv_at hl 0 rfl) ?_
  refine va_get (D := G.1) (ci := 12) (v := .int x_isWrong) (C := RX12) (T := TX12) (N := 22) hx hb hts hin12 hown hK hP 0 rfl rfl 7 (by decide) lk_62 (fun _ h9 => h9) rfl dX12_must_2 ?_
  refine lv_if_ne (tgt := 16) hx hb dX12_must_5 (by decide) (fun c1 => ?_) (fun c1 => ?_)
  · rw [if_neg c1] at hF
    exact B16 _ _ H locs ls hP hD hS (lv_sub hl [0] rfl) hF
  rw [if_pos c1] at hF
  refine lv_aload_n hx hb dX12_must_8 rfl (lv_at hl 0 rfl) ?_
  obtain ⟨r4, hc5, hF⟩ := bd_some hF
  have hPc := hP.sub (ws' := [o12 h x_thrown a_s a_image x_hasImage x_act x_spot x_end x_isWrong x_open a_by a_truths x_turn x_lean x_last x_angle x_asLay x_ticks a_bodies x_ran x_kind x_number x_tellsV, aI G a_s 1394 f_s]) [0, 1] rfl
  have hDc := hD.sub (ws' := [o12 h x_thrown a_s a_image x_hasImage x_act x_spot x_end x_isWrong x_open a_by a_truths x_turn x_lean x_last x_angle x_asLay x_ticks a_bodies x_ran x_kind x_number x_tellsV, aI G a_s 1394 f_s]) [0, 1] (by decide) rfl
  have hFc := va_free (wc := [o12 h x_thrown a_s a_image x_hasImage x_act x_spot x_end x_isWrong x_open a_by a_truths x_turn x_lean x_last x_angle x_asLay x_ticks a_bodies x_ran x_kind x_number x_tellsV, aI G a_s 1394 f_s]) hD hS hA [0, 1] rfl
  have hM := c_X12_here l G h a_s a_image a_by a_truths a_bodies x_thrown x_hasImage x_act x_spot x_end x_isWrong x_open x_turn x_lean x_last x_angle x_asLay x_ticks x_ran x_kind x_number x_tellsV f_s r4 hc5 H.size
  refine cl_i (w1 := [o12 h x_thrown a_s a_image x_hasImage x_act x_spot x_end x_isWrong x_open a_by a_truths x_turn x_lean x_last x_angle x_asLay x_ticks a_bodies x_ran x_kind x_number x_tellsV, aI G a_s 1394 f_s]) (ws' := [o12 h x_thrown a_s a_image x_hasImage x_act x_spot x_end x_isWrong x_open a_by a_truths x_turn x_lean x_last x_angle x_asLay x_ticks a_bodies x_ran x_kind x_number x_tellsV, aI G a_s 1394 f_s]) hP hD hS hFc [0, 1] rfl rfl rfl (va_runV (As := []) (rest := [.ref h]) ⟨hx, hb, hml, hown, hts⟩ hM (cwV 0 hts gX12_must_X12_here rfl rfl rfl (by decide +kernel) ⟨Nat.le_of_ble_eq_true rfl, Nat.le_of_ble_eq_true rfl⟩) (cp_V hK hE hS hPc hDc hFc (va_recv hK hPc (ci := 12) (q0 := 0) rfl rfl)) rfl rfl hl.1 rfl (lv_room (Nat.le_of_ble_eq_true rfl)) dX12_must_9 ⟨Nat.zero_le _, Nat.zero_le _⟩) (fun H locs hP hD hS => ?_)
  refine lv_iload_n hx hb dX12_must_12 rfl (lv_at hl 1 rfl) ?_
  refine lv_icmp_eq (tgt := 20) hx hb dX12_must_13 (by decide) (fun c6 => ?_) (fun c6 => ?_)
  · rw [if_pos c6] at hF
    refine lv_iconst (v := 0) hx hb dX12_must_20 (by decide) ?_
    exact B21 _ _ _ H locs ls hP hD hS (lv_sub hl [0] rfl) hF
  rw [if_neg c6] at hF
  exact B16 _ _ H locs ls hP hD hS (lv_sub hl [0] rfl) hF

/-! HeadsByHairModel.figures()I -/
abbrev rm_X12_figures : Room := { frames := 1, cells := 0, slots := 0, locals := 22 }
set_option maxHeartbeats 4000000 in
set_option maxRecDepth 100000 in
theorem c_X12_figures (l : Launch) (G : GG) (h a_s a_image a_by a_truths a_bodies : Nat) (x_thrown x_hasImage x_act x_spot x_end x_isWrong x_open x_turn x_lean x_last x_angle x_asLay x_ticks x_ran x_kind x_number x_tellsV : Int32) (f_s : Nat → Int32) (z : Int32) (z_x_spot : Int32) (z_x_isWrong : Int32) (hF : fX12_figures x_spot x_end x_isWrong f_s = some (z, z_x_spot, z_x_isWrong)) : CMi l yX12_figures wsX12_figures rm_X12_figures G [o12 h x_thrown a_s a_image x_hasImage x_act x_spot x_end x_isWrong x_open a_by a_truths x_turn x_lean x_last x_angle x_asLay x_ticks a_bodies x_ran x_kind x_number x_tellsV, aI G a_s 1394 f_s] [o12 h x_thrown a_s a_image x_hasImage x_act z_x_spot x_end z_x_isWrong x_open a_by a_truths x_turn x_lean x_last x_angle x_asLay x_ticks a_bodies x_ran x_kind x_number x_tellsV, aI G a_s 1394 f_s] [.ref h] z := by
  refine cm_start (cc := cX12_figures) (maxL := 3) (ret := (some .int)) (Qc := fun A => QI G [o12 h x_thrown a_s a_image x_hasImage x_act z_x_spot x_end z_x_isWrong x_open a_by a_truths x_turn x_lean x_last x_angle x_asLay x_ticks a_bodies x_ran x_kind x_number x_tellsV, aI G a_s 1394 f_s] z A) (by decide +kernel) rfl (Nat.le_of_ble_eq_true rfl) ?_
  intro p e s m args below meth c A hx hb hr hlk hml hown hnm hts hA H locs hP hK hD hE hS ls hl
  have hown : s.vm.findClass RX12 = some m.cls := hown
  have hl : lv_has ls 3 [(0, .ref h)] := hl
  have hin12 : ∀ w ∈ wsX120, w ∈ wsX12_figures := by decide +kernel
  have lk_62 := hts (.fieldLink RX12 62 "HeadsByHairModel" "isWrong" "Z") (by decide +kernel)
  have lk_56 := hts (.fieldLink RX12 56 "HeadsByHairModel" "spot" "I") (by decide +kernel)
  revert hF
  have LP34 : ∀ (x_isWrong : Int32) (n : Nat) (x_spot : Int32) (l1 : Int32) (l2 : Int32) (H : Heap) (locs : List Loc) (ls : Array Slot), va_P G.1 vwCl [o12 h x_thrown a_s a_image x_hasImage x_act x_spot x_end x_isWrong x_open a_by a_truths x_turn x_lean x_last x_angle x_asLay x_ticks a_bodies x_ran x_kind x_number x_tellsV, aI G a_s 1394 f_s] H → va_D A [o12 h x_thrown a_s a_image x_hasImage x_act x_spot x_end x_isWrong x_open a_by a_truths x_turn x_lean x_last x_angle x_asLay x_ticks a_bodies x_ran x_kind x_number x_tellsV, aI G a_s 1394 f_s] → va_S A s.heap H locs → lv_has ls 3 [(0, .ref h), (1, .int l1), (2, .int l2)] → fX12_figures_L34 x_end x_isWrong f_s n x_spot l1 l2 = some (z, z_x_spot, z_x_isWrong) → W p l e (rm_X12_figures) s m args below meth c H locs 0 0 (MQ below (QI G [o12 h x_thrown a_s a_image x_hasImage x_act z_x_spot x_end z_x_isWrong x_open a_by a_truths x_turn x_lean x_last x_angle x_asLay x_ticks a_bodies x_ran x_kind x_number x_tellsV, aI G a_s 1394 f_s] z A) args s 0 0 A) (F0 m 34 ls []) := by
    intro x_isWrong n
    induction n with
    | zero =>
      intro x_spot l1 l2 H locs ls hP hD hS hl hF
      cases hF
    | succ n ih =>
      have B68 : ∀ (x_spot : Int32) (l1 : Int32) (l2 : Int32) (H : Heap) (locs : List Loc) (ls : Array Slot), va_P G.1 vwCl [o12 h x_thrown a_s a_image x_hasImage x_act x_spot x_end x_isWrong x_open a_by a_truths x_turn x_lean x_last x_angle x_asLay x_ticks a_bodies x_ran x_kind x_number x_tellsV, aI G a_s 1394 f_s] H → va_D A [o12 h x_thrown a_s a_image x_hasImage x_act x_spot x_end x_isWrong x_open a_by a_truths x_turn x_lean x_last x_angle x_asLay x_ticks a_bodies x_ran x_kind x_number x_tellsV, aI G a_s 1394 f_s] → va_S A s.heap H locs → lv_has ls 3 [(0, .ref h), (1, .int l1), (2, .int l2)] → fX12_figures_b68 (fX12_figures_L34 x_end x_isWrong f_s n) x_spot x_end x_isWrong f_s l1 l2 = some (z, z_x_spot, z_x_isWrong) → W p l e (rm_X12_figures) s m args below meth c H locs 0 0 (MQ below (QI G [o12 h x_thrown a_s a_image x_hasImage x_act z_x_spot x_end z_x_isWrong x_open a_by a_truths x_turn x_lean x_last x_angle x_asLay x_ticks a_bodies x_ran x_kind x_number x_tellsV, aI G a_s 1394 f_s] z A) args s 0 0 A) (F0 m 68 ls []) := by
        intro x_spot l1 l2 H locs ls hP hD hS hl hF
        unfold fX12_figures_b68 at hF
        refine lv_bipush (v := 10) hx hb dX12_figures_68 (by decide) ?_
        refine lv_iload_n hx hb dX12_figures_70 rfl (lv_at hl 1 rfl) ?_
        refine lv_imul hx hb dX12_figures_71 ?_
        refine lv_aload_n hx hb dX12_figures_72 rfl (lv_at hl 0 rfl) ?_
        obtain ⟨r11, hc12, hF⟩ := bd_some hF
        have hPc := hP.sub (ws' := [o12 h x_thrown a_s a_image x_hasImage x_act x_spot x_end x_isWrong x_open a_by a_truths x_turn x_lean x_last x_angle x_asLay x_ticks a_bodies x_ran x_kind x_number x_tellsV, aI G a_s 1394 f_s]) [0, 1] rfl
        have hDc := hD.sub (ws' := [o12 h x_thrown a_s a_image x_hasImage x_act x_spot x_end x_isWrong x_open a_by a_truths x_turn x_lean x_last x_angle x_asLay x_ticks a_bodies x_ran x_kind x_number x_tellsV, aI G a_s 1394 f_s]) [0, 1] (by decide) rfl
        have hFc := va_free (wc := [o12 h x_thrown a_s a_image x_hasImage x_act x_spot x_end x_isWrong x_open a_by a_truths x_turn x_lean x_last x_angle x_asLay x_ticks a_bodies x_ran x_kind x_number x_tellsV, aI G a_s 1394 f_s]) hD hS hA [0, 1] rfl
        have hM := c_X12_here l G h a_s a_image a_by a_truths a_bodies x_thrown x_hasImage x_act x_spot x_end x_isWrong x_open x_turn x_lean x_last x_angle x_asLay x_ticks x_ran x_kind x_number x_tellsV f_s r11 hc12 H.size
        refine cl_i (w1 := [o12 h x_thrown a_s a_image x_hasImage x_act x_spot x_end x_isWrong x_open a_by a_truths x_turn x_lean x_last x_angle x_asLay x_ticks a_bodies x_ran x_kind x_number x_tellsV, aI G a_s 1394 f_s]) (ws' := [o12 h x_thrown a_s a_image x_hasImage x_act x_spot x_end x_isWrong x_open a_by a_truths x_turn x_lean x_last x_angle x_asLay x_ticks a_bodies x_ran x_kind x_number x_tellsV, aI G a_s 1394 f_s]) hP hD hS hFc [0, 1] rfl rfl rfl (va_runV (As := []) (rest := [.int (10 * l1)]) ⟨hx, hb, hml, hown, hts⟩ hM (cwV 0 hts gX12_figures_X12_here rfl rfl rfl (by decide +kernel) ⟨Nat.le_of_ble_eq_true rfl, Nat.le_of_ble_eq_true rfl⟩) (cp_V hK hE hS hPc hDc hFc (va_recv hK hPc (ci := 12) (q0 := 0) rfl rfl)) rfl rfl hl.1 rfl (lv_room (Nat.le_of_ble_eq_true rfl)) dX12_figures_73 ⟨Nat.zero_le _, Nat.zero_le _⟩) (fun H locs hP hD hS => ?_)
        refine lv_iadd hx hb dX12_figures_76 ?_
        refine lv_bipush (v := 48) hx hb dX12_figures_77 (by decide) ?_
        refine lv_isub hx hb dX12_figures_79 ?_
        refine lv_istore_n (lv' := [(1, .int (((10 * l1) + r11) - 48)), (0, .ref h), (2, .int l2)]) hx hb dX12_figures_80 rfl hl (by decide) rfl (fun ls hl => ?_)
        refine lv_aload_n hx hb dX12_figures_81 rfl (lv_at hl 1 rfl) ?_
        refine lv_dup hx hb dX12_figures_82 rfl ?_
        refine va_get (D := G.1) (ci := 12) (v := .int x_spot) (C := RX12) (T := TX12) (N := 22) hx hb hts hin12 hown hK hP 0 rfl rfl 5 (by decide) lk_56 (fun _ h9 => h9) rfl dX12_figures_83 ?_
        refine lv_iconst (v := 1) hx hb dX12_figures_86 (by decide) ?_
        refine W.eq (g2 := F0 m 87 ls [.int 1, .int x_spot, .ref h]) rfl ?_
        refine lv_iadd hx hb dX12_figures_87 ?_
        refine va_put (D := G.1) (ci := 12) (v := .int (x_spot + 1)) (ty := .int) (C := RX12) (T := TX12) (N := 22) hx hb hts hin12 tyX12 tyX12_ok nmX12 hown hK hP hD hS 0 rfl rfl 5 (by decide) lk_56 (fun _ h9 => h9) rfl (tyX12_ok 5 (by decide)) rfl rfl (Nat.le_of_ble_eq_true rfl) dX12_figures_88 (fun H locs hP hD hS => ?_)
        have hP : va_P G.1 vwCl [o12 h x_thrown a_s a_image x_hasImage x_act (x_spot + 1) x_end x_isWrong x_open a_by a_truths x_turn x_lean x_last x_angle x_asLay x_ticks a_bodies x_ran x_kind x_number x_tellsV, aI G a_s 1394 f_s] H := hP
        have hD : va_D A [o12 h x_thrown a_s a_image x_hasImage x_act (x_spot + 1) x_end x_isWrong x_open a_by a_truths x_turn x_lean x_last x_angle x_asLay x_ticks a_bodies x_ran x_kind x_number x_tellsV, aI G a_s 1394 f_s] := hD
        refine lv_iinc (v := l2 + 1) (lv' := [(2, .int (l2 + 1)), (1, .int (((10 * l1) + r11) - 48)), (0, .ref h)]) hx hb dX12_figures_91 hl (k := 2) rfl rfl (by decide) rfl (fun ls hl => ?_)
        refine lv_goto (tgt := 34) hx hb dX12_figures_94 (by decide) ?_
        exact ih _ _ _ H locs ls hP hD hS (lv_sub hl [2, 1, 0] rfl) hF
      intro x_spot l1 l2 H locs ls hP hD hS hl hF
      rw [fX12_figures_L34] at hF
      refine lv_iload_n hx hb dX12_figures_34 rfl (lv_at hl 2 rfl) ?_
      refine lv_iconst (v := 2) hx hb dX12_figures_35 (by decide) ?_
      refine lv_icmp_ge (tgt := 97) hx hb dX12_figures_36 (by decide) (fun c3 => ?_) (fun c3 => ?_)
      · rw [if_pos c3] at hF
        refine lv_iload_n hx hb dX12_figures_97 rfl (lv_at hl 1 rfl) ?_
        injection hF with hz
        injection hz with hq0 hz
        injection hz with hq1 hz
        subst hq0
        subst hq1
        subst hz
        exact cm_reti hx hb hr rfl hlk hK hP hD hS dX12_figures_98
      rw [if_neg c3] at hF
      refine lv_aload_n hx hb dX12_figures_39 rfl (lv_at hl 0 rfl) ?_
      refine va_get (D := G.1) (ci := 12) (v := .int x_isWrong) (C := RX12) (T := TX12) (N := 22) hx hb hts hin12 hown hK hP 0 rfl rfl 7 (by decide) lk_62 (fun _ h9 => h9) rfl dX12_figures_40 ?_
      refine lv_if_ne (tgt := 97) hx hb dX12_figures_43 (by decide) (fun c4 => ?_) (fun c4 => ?_)
      · rw [if_neg c4] at hF
        refine lv_iload_n hx hb dX12_figures_97 rfl (lv_at hl 1 rfl) ?_
        injection hF with hz
        injection hz with hq0 hz
        injection hz with hq1 hz
        subst hq0
        subst hq1
        subst hz
        exact cm_reti hx hb hr rfl hlk hK hP hD hS dX12_figures_98
      rw [if_pos c4] at hF
      refine lv_aload_n hx hb dX12_figures_46 rfl (lv_at hl 0 rfl) ?_
      obtain ⟨r5, hc6, hF⟩ := bd_some hF
      have hPc := hP.sub (ws' := [o12 h x_thrown a_s a_image x_hasImage x_act x_spot x_end x_isWrong x_open a_by a_truths x_turn x_lean x_last x_angle x_asLay x_ticks a_bodies x_ran x_kind x_number x_tellsV, aI G a_s 1394 f_s]) [0, 1] rfl
      have hDc := hD.sub (ws' := [o12 h x_thrown a_s a_image x_hasImage x_act x_spot x_end x_isWrong x_open a_by a_truths x_turn x_lean x_last x_angle x_asLay x_ticks a_bodies x_ran x_kind x_number x_tellsV, aI G a_s 1394 f_s]) [0, 1] (by decide) rfl
      have hFc := va_free (wc := [o12 h x_thrown a_s a_image x_hasImage x_act x_spot x_end x_isWrong x_open a_by a_truths x_turn x_lean x_last x_angle x_asLay x_ticks a_bodies x_ran x_kind x_number x_tellsV, aI G a_s 1394 f_s]) hD hS hA [0, 1] rfl
      have hM := c_X12_here l G h a_s a_image a_by a_truths a_bodies x_thrown x_hasImage x_act x_spot x_end x_isWrong x_open x_turn x_lean x_last x_angle x_asLay x_ticks x_ran x_kind x_number x_tellsV f_s r5 hc6 H.size
      refine cl_i (w1 := [o12 h x_thrown a_s a_image x_hasImage x_act x_spot x_end x_isWrong x_open a_by a_truths x_turn x_lean x_last x_angle x_asLay x_ticks a_bodies x_ran x_kind x_number x_tellsV, aI G a_s 1394 f_s]) (ws' := [o12 h x_thrown a_s a_image x_hasImage x_act x_spot x_end x_isWrong x_open a_by a_truths x_turn x_lean x_last x_angle x_asLay x_ticks a_bodies x_ran x_kind x_number x_tellsV, aI G a_s 1394 f_s]) hP hD hS hFc [0, 1] rfl rfl rfl (va_runV (As := []) (rest := []) ⟨hx, hb, hml, hown, hts⟩ hM (cwV 0 hts gX12_figures_X12_here rfl rfl rfl (by decide +kernel) ⟨Nat.le_of_ble_eq_true rfl, Nat.le_of_ble_eq_true rfl⟩) (cp_V hK hE hS hPc hDc hFc (va_recv hK hPc (ci := 12) (q0 := 0) rfl rfl)) rfl rfl hl.1 rfl (lv_room (Nat.le_of_ble_eq_true rfl)) dX12_figures_47 ⟨Nat.zero_le _, Nat.zero_le _⟩) (fun H locs hP hD hS => ?_)
      refine lv_bipush (v := 48) hx hb dX12_figures_50 (by decide) ?_
      refine lv_bipush (v := 57) hx hb dX12_figures_52 (by decide) ?_
      obtain ⟨r7, hc8, hF⟩ := bd_some hF
      have hPc := hP.sub (ws' := []) [] rfl
      have hDc := hD.sub (ws' := []) [] (by decide) rfl
      have hFc := va_free (wc := []) hD hS hA [] rfl
      have hM := c_X12_in l G r5 (48 : Int32) (57 : Int32) r7 hc8 H.size
      refine cl_i (w1 := []) (ws' := [o12 h x_thrown a_s a_image x_hasImage x_act x_spot x_end x_isWrong x_open a_by a_truths x_turn x_lean x_last x_angle x_asLay x_ticks a_bodies x_ran x_kind x_number x_tellsV, aI G a_s 1394 f_s]) hP hD hS hFc [] rfl rfl rfl (va_runS (As := [.int r5, .int 48, .int 57]) (rest := []) ⟨hx, hb, hml, hown, hts⟩ hM (va_cwS 3 hts gX12_figures_X12_in rfl rfl rfl (by decide +kernel) ⟨Nat.le_of_ble_eq_true rfl, Nat.le_of_ble_eq_true rfl⟩) (cp_S hK hE hS hPc hDc hFc) rfl rfl hl.1 rfl (lv_room (Nat.le_of_ble_eq_true rfl)) dX12_figures_54 ⟨Nat.zero_le _, Nat.zero_le _⟩) (fun H locs hP hD hS => ?_)
      refine lv_if_eq (tgt := 97) hx hb dX12_figures_57 (by decide) (fun c9 => ?_) (fun c9 => ?_)
      · rw [if_pos c9] at hF
        refine lv_iload_n hx hb dX12_figures_97 rfl (lv_at hl 1 rfl) ?_
        refine W.eq (g2 := F0 m 98 ls [.int l1]) rfl ?_
        injection hF with hz
        injection hz with hq0 hz
        injection hz with hq1 hz
        subst hq0
        subst hq1
        subst hz
        exact cm_reti hx hb hr rfl hlk hK hP hD hS dX12_figures_98
      rw [if_neg c9] at hF
      refine lv_iload_n hx hb dX12_figures_60 rfl (lv_at hl 2 rfl) ?_
      refine W.eq (g2 := F0 m 61 ls [.int l2]) rfl ?_
      refine lv_if_eq (tgt := 68) hx hb dX12_figures_61 (by decide) (fun c10 => ?_) (fun c10 => ?_)
      · rw [if_pos c10] at hF
        exact B68 _ _ _ H locs ls hP hD hS (lv_sub hl [0, 1, 2] rfl) hF
      rw [if_neg c10] at hF
      refine lv_iload_n hx hb dX12_figures_64 rfl (lv_at hl 1 rfl) ?_
      refine lv_if_le (tgt := 97) hx hb dX12_figures_65 (by decide) (fun c13 => ?_) (fun c13 => ?_)
      · rw [if_pos c13] at hF
        refine lv_iload_n hx hb dX12_figures_97 rfl (lv_at hl 1 rfl) ?_
        injection hF with hz
        injection hz with hq0 hz
        injection hz with hq1 hz
        subst hq0
        subst hq1
        subst hz
        exact cm_reti hx hb hr rfl hlk hK hP hD hS dX12_figures_98
      rw [if_neg c13] at hF
      exact B68 _ _ _ H locs ls hP hD hS (lv_sub hl [0, 1, 2] rfl) hF
  have B27 : ∀ (x_spot : Int32) (x_isWrong : Int32) (s1 : Int32) (H : Heap) (locs : List Loc) (ls : Array Slot), va_P G.1 vwCl [o12 h x_thrown a_s a_image x_hasImage x_act x_spot x_end x_isWrong x_open a_by a_truths x_turn x_lean x_last x_angle x_asLay x_ticks a_bodies x_ran x_kind x_number x_tellsV, aI G a_s 1394 f_s] H → va_D A [o12 h x_thrown a_s a_image x_hasImage x_act x_spot x_end x_isWrong x_open a_by a_truths x_turn x_lean x_last x_angle x_asLay x_ticks a_bodies x_ran x_kind x_number x_tellsV, aI G a_s 1394 f_s] → va_S A s.heap H locs → lv_has ls 3 [(0, .ref h)] → fX12_figures_b27 x_spot x_end x_isWrong f_s s1 = some (z, z_x_spot, z_x_isWrong) → W p l e (rm_X12_figures) s m args below meth c H locs 0 0 (MQ below (QI G [o12 h x_thrown a_s a_image x_hasImage x_act z_x_spot x_end z_x_isWrong x_open a_by a_truths x_turn x_lean x_last x_angle x_asLay x_ticks a_bodies x_ran x_kind x_number x_tellsV, aI G a_s 1394 f_s] z A) args s 0 0 A) (F0 m 27 ls [.int s1, .ref h]) := by
    intro x_spot x_isWrong s1 H locs ls hP hD hS hl hF
    unfold fX12_figures_b27 at hF
    obtain ⟨hb2, hF⟩ := ck_some hF
    refine va_put (D := G.1) (ci := 12) (v := .int s1) (ty := .boolean) (C := RX12) (T := TX12) (N := 22) hx hb hts hin12 tyX12 tyX12_ok nmX12 hown hK hP hD hS 0 rfl rfl 7 (by decide) lk_62 (fun _ h9 => h9) rfl (tyX12_ok 7 (by decide)) (nb_ok hb2).1 (nb_ok hb2).2 (Nat.le_of_ble_eq_true rfl) dX12_figures_27 (fun H locs hP hD hS => ?_)
    have hP : va_P G.1 vwCl [o12 h x_thrown a_s a_image x_hasImage x_act x_spot x_end s1 x_open a_by a_truths x_turn x_lean x_last x_angle x_asLay x_ticks a_bodies x_ran x_kind x_number x_tellsV, aI G a_s 1394 f_s] H := hP
    have hD : va_D A [o12 h x_thrown a_s a_image x_hasImage x_act x_spot x_end s1 x_open a_by a_truths x_turn x_lean x_last x_angle x_asLay x_ticks a_bodies x_ran x_kind x_number x_tellsV, aI G a_s 1394 f_s] := hD
    refine lv_iconst (v := 0) hx hb dX12_figures_30 (by decide) ?_
    refine lv_istore_n (lv' := [(1, .int 0), (0, .ref h)]) hx hb dX12_figures_31 rfl hl (by decide) rfl (fun ls hl => ?_)
    refine lv_iconst (v := 0) hx hb dX12_figures_32 (by decide) ?_
    refine lv_istore_n (lv' := [(2, .int 0), (1, .int 0), (0, .ref h)]) hx hb dX12_figures_33 rfl hl (by decide) rfl (fun ls hl => ?_)
    refine LP34 _ _ _ _ _ H locs ls hP hD hS (lv_sub hl [2, 1, 0] rfl) hF
  have B22 : ∀ (x_spot : Int32) (x_isWrong : Int32) (H : Heap) (locs : List Loc) (ls : Array Slot), va_P G.1 vwCl [o12 h x_thrown a_s a_image x_hasImage x_act x_spot x_end x_isWrong x_open a_by a_truths x_turn x_lean x_last x_angle x_asLay x_ticks a_bodies x_ran x_kind x_number x_tellsV, aI G a_s 1394 f_s] H → va_D A [o12 h x_thrown a_s a_image x_hasImage x_act x_spot x_end x_isWrong x_open a_by a_truths x_turn x_lean x_last x_angle x_asLay x_ticks a_bodies x_ran x_kind x_number x_tellsV, aI G a_s 1394 f_s] → va_S A s.heap H locs → lv_has ls 3 [(0, .ref h)] → fX12_figures_b22 x_spot x_end x_isWrong f_s = some (z, z_x_spot, z_x_isWrong) → W p l e (rm_X12_figures) s m args below meth c H locs 0 0 (MQ below (QI G [o12 h x_thrown a_s a_image x_hasImage x_act z_x_spot x_end z_x_isWrong x_open a_by a_truths x_turn x_lean x_last x_angle x_asLay x_ticks a_bodies x_ran x_kind x_number x_tellsV, aI G a_s 1394 f_s] z A) args s 0 0 A) (F0 m 22 ls [.ref h]) := by
    intro x_spot x_isWrong H locs ls hP hD hS hl hF
    unfold fX12_figures_b22 at hF
    refine lv_iconst (v := 1) hx hb dX12_figures_22 (by decide) ?_
    refine lv_goto (tgt := 27) hx hb dX12_figures_23 (by decide) ?_
    exact B27 _ _ _ H locs ls hP hD hS (lv_sub hl [0] rfl) hF
  intro hF
  unfold fX12_figures at hF
  refine lv_aload_n hx hb dX12_figures_0 rfl (lv_at hl 0 rfl) ?_
  refine lv_aload_n hx hb dX12_figures_1 rfl (lv_at hl 0 rfl) ?_
  refine va_get (D := G.1) (ci := 12) (v := .int x_isWrong) (C := RX12) (T := TX12) (N := 22) hx hb hts hin12 hown hK hP 0 rfl rfl 7 (by decide) lk_62 (fun _ h9 => h9) rfl dX12_figures_2 ?_
  refine lv_if_ne (tgt := 22) hx hb dX12_figures_5 (by decide) (fun c1 => ?_) (fun c1 => ?_)
  · rw [if_neg c1] at hF
    exact B22 _ _ H locs ls hP hD hS (lv_sub hl [0] rfl) hF
  rw [if_pos c1] at hF
  refine lv_aload_n hx hb dX12_figures_8 rfl (lv_at hl 0 rfl) ?_
  obtain ⟨r14, hc15, hF⟩ := bd_some hF
  have hPc := hP.sub (ws' := [o12 h x_thrown a_s a_image x_hasImage x_act x_spot x_end x_isWrong x_open a_by a_truths x_turn x_lean x_last x_angle x_asLay x_ticks a_bodies x_ran x_kind x_number x_tellsV, aI G a_s 1394 f_s]) [0, 1] rfl
  have hDc := hD.sub (ws' := [o12 h x_thrown a_s a_image x_hasImage x_act x_spot x_end x_isWrong x_open a_by a_truths x_turn x_lean x_last x_angle x_asLay x_ticks a_bodies x_ran x_kind x_number x_tellsV, aI G a_s 1394 f_s]) [0, 1] (by decide) rfl
  have hFc := va_free (wc := [o12 h x_thrown a_s a_image x_hasImage x_act x_spot x_end x_isWrong x_open a_by a_truths x_turn x_lean x_last x_angle x_asLay x_ticks a_bodies x_ran x_kind x_number x_tellsV, aI G a_s 1394 f_s]) hD hS hA [0, 1] rfl
  have hM := c_X12_here l G h a_s a_image a_by a_truths a_bodies x_thrown x_hasImage x_act x_spot x_end x_isWrong x_open x_turn x_lean x_last x_angle x_asLay x_ticks x_ran x_kind x_number x_tellsV f_s r14 hc15 H.size
  refine cl_i (w1 := [o12 h x_thrown a_s a_image x_hasImage x_act x_spot x_end x_isWrong x_open a_by a_truths x_turn x_lean x_last x_angle x_asLay x_ticks a_bodies x_ran x_kind x_number x_tellsV, aI G a_s 1394 f_s]) (ws' := [o12 h x_thrown a_s a_image x_hasImage x_act x_spot x_end x_isWrong x_open a_by a_truths x_turn x_lean x_last x_angle x_asLay x_ticks a_bodies x_ran x_kind x_number x_tellsV, aI G a_s 1394 f_s]) hP hD hS hFc [0, 1] rfl rfl rfl (va_runV (As := []) (rest := [.ref h]) ⟨hx, hb, hml, hown, hts⟩ hM (cwV 0 hts gX12_figures_X12_here rfl rfl rfl (by decide +kernel) ⟨Nat.le_of_ble_eq_true rfl, Nat.le_of_ble_eq_true rfl⟩) (cp_V hK hE hS hPc hDc hFc (va_recv hK hPc (ci := 12) (q0 := 0) rfl rfl)) rfl rfl hl.1 rfl (lv_room (Nat.le_of_ble_eq_true rfl)) dX12_figures_9 ⟨Nat.zero_le _, Nat.zero_le _⟩) (fun H locs hP hD hS => ?_)
  refine lv_bipush (v := 48) hx hb dX12_figures_12 (by decide) ?_
  refine lv_bipush (v := 57) hx hb dX12_figures_14 (by decide) ?_
  obtain ⟨r16, hc17, hF⟩ := bd_some hF
  have hPc := hP.sub (ws' := []) [] rfl
  have hDc := hD.sub (ws' := []) [] (by decide) rfl
  have hFc := va_free (wc := []) hD hS hA [] rfl
  have hM := c_X12_in l G r14 (48 : Int32) (57 : Int32) r16 hc17 H.size
  refine cl_i (w1 := []) (ws' := [o12 h x_thrown a_s a_image x_hasImage x_act x_spot x_end x_isWrong x_open a_by a_truths x_turn x_lean x_last x_angle x_asLay x_ticks a_bodies x_ran x_kind x_number x_tellsV, aI G a_s 1394 f_s]) hP hD hS hFc [] rfl rfl rfl (va_runS (As := [.int r14, .int 48, .int 57]) (rest := [.ref h]) ⟨hx, hb, hml, hown, hts⟩ hM (va_cwS 3 hts gX12_figures_X12_in rfl rfl rfl (by decide +kernel) ⟨Nat.le_of_ble_eq_true rfl, Nat.le_of_ble_eq_true rfl⟩) (cp_S hK hE hS hPc hDc hFc) rfl rfl hl.1 rfl (lv_room (Nat.le_of_ble_eq_true rfl)) dX12_figures_16 ⟨Nat.zero_le _, Nat.zero_le _⟩) (fun H locs hP hD hS => ?_)
  refine lv_if_ne (tgt := 26) hx hb dX12_figures_19 (by decide) (fun c18 => ?_) (fun c18 => ?_)
  · rw [if_neg c18] at hF
    refine lv_iconst (v := 0) hx hb dX12_figures_26 (by decide) ?_
    exact B27 _ _ _ H locs ls hP hD hS (lv_sub hl [0] rfl) hF
  rw [if_pos c18] at hF
  exact B22 _ _ H locs ls hP hD hS (lv_sub hl [0] rfl) hF

/-! HeadsByHairModel.emits(I)V -/
abbrev rm_X12_emits : Room := { frames := 0, cells := 0, slots := 0, locals := 0 }
set_option maxHeartbeats 4000000 in
set_option maxRecDepth 100000 in
theorem c_X12_emits (l : Launch) (G : GG) (h a_s a_image a_by a_truths a_bodies : Nat) (x_thrown x_hasImage x_act x_spot x_end x_isWrong x_open x_turn x_lean x_last x_angle x_asLay x_ticks x_ran x_kind x_number x_tellsV : Int32) (f_s : Nat → Int32) (l1 : Int32) (z_f_s : Nat → Int32) (hF : fX12_emits x_act x_isWrong f_s l1 = some (z_f_s)) : CMv l yX12_emits wsX12_emits rm_X12_emits G [o12 h x_thrown a_s a_image x_hasImage x_act x_spot x_end x_isWrong x_open a_by a_truths x_turn x_lean x_last x_angle x_asLay x_ticks a_bodies x_ran x_kind x_number x_tellsV, aI G a_s 1394 f_s] [o12 h x_thrown a_s a_image x_hasImage x_act x_spot x_end x_isWrong x_open a_by a_truths x_turn x_lean x_last x_angle x_asLay x_ticks a_bodies x_ran x_kind x_number x_tellsV, aI G a_s 1394 z_f_s] [.ref h, .int l1] := by
  refine cm_start (cc := cX12_emits) (maxL := 2) (ret := none) (Qc := fun A => QV G [o12 h x_thrown a_s a_image x_hasImage x_act x_spot x_end x_isWrong x_open a_by a_truths x_turn x_lean x_last x_angle x_asLay x_ticks a_bodies x_ran x_kind x_number x_tellsV, aI G a_s 1394 z_f_s] A) (by decide +kernel) rfl (Nat.le_of_ble_eq_true rfl) ?_
  intro p e s m args below meth c A hx hb hr hlk hml hown hnm hts hA H locs hP hK hD hE hS ls hl
  have hown : s.vm.findClass RX12 = some m.cls := hown
  have hl : lv_has ls 2 [(0, .ref h), (1, .int l1)] := hl
  have hin12 : ∀ w ∈ wsX120, w ∈ wsX12_emits := by decide +kernel
  have lk_62 := hts (.fieldLink RX12 62 "HeadsByHairModel" "isWrong" "Z") (by decide +kernel)
  have lk_9 := hts (.fieldLink RX12 9 "HeadsByHairModel" "s" "[I") (by decide +kernel)
  have lk_83 := hts (.fieldLink RX12 83 "HeadsByHairModel" "act" "I") (by decide +kernel)
  revert hF
  intro hF
  unfold fX12_emits at hF
  refine lv_aload_n hx hb dX12_emits_0 rfl (lv_at hl 0 rfl) ?_
  refine va_get (D := G.1) (ci := 12) (v := .int x_isWrong) (C := RX12) (T := TX12) (N := 22) hx hb hts hin12 hown hK hP 0 rfl rfl 7 (by decide) lk_62 (fun _ h9 => h9) rfl dX12_emits_1 ?_
  refine lv_if_ne (tgt := 56) hx hb dX12_emits_4 (by decide) (fun c1 => ?_) (fun c1 => ?_)
  · rw [if_neg c1] at hF
    injection hF with hz
    subst hz
    exact cm_retv hx hb hr hlk hK hP hD hS dX12_emits_56
  rw [if_pos c1] at hF
  refine lv_aload_n hx hb dX12_emits_7 rfl (lv_at hl 0 rfl) ?_
  refine va_get (D := G.1) (ci := 12) (v := .ref a_s) (C := RX12) (T := TX12) (N := 22) hx hb hts hin12 hown hK hP 0 rfl rfl 1 (by decide) lk_9 (fun _ h9 => h9) rfl dX12_emits_8 ?_
  refine lv_sipush (v := 258) hx hb dX12_emits_11 (by decide) ?_
  refine lv_sipush (v := 140) hx hb dX12_emits_14 (by decide) ?_
  refine lv_aload_n hx hb dX12_emits_17 rfl (lv_at hl 0 rfl) ?_
  refine va_get (D := G.1) (ci := 12) (v := .int x_act) (C := RX12) (T := TX12) (N := 22) hx hb hts hin12 hown hK hP 0 rfl rfl 4 (by decide) lk_83 (fun _ h9 => h9) rfl dX12_emits_18 ?_
  refine lv_imul hx hb dX12_emits_21 ?_
  refine lv_iadd hx hb dX12_emits_22 ?_
  refine lv_aload_n hx hb dX12_emits_23 rfl (lv_at hl 0 rfl) ?_
  refine va_get (D := G.1) (ci := 12) (v := .ref a_s) (C := RX12) (T := TX12) (N := 22) hx hb hts hin12 hown hK hP 0 rfl rfl 1 (by decide) lk_9 (fun _ h9 => h9) rfl dX12_emits_24 ?_
  refine W.eq (g2 := F0 m 27 ls [.ref a_s, .int (258 + (140 * x_act)), .ref a_s]) rfl ?_
  refine lv_sipush (v := 250) hx hb dX12_emits_27 (by decide) ?_
  refine lv_aload_n hx hb dX12_emits_30 rfl (lv_at hl 0 rfl) ?_
  refine va_get (D := G.1) (ci := 12) (v := .int x_act) (C := RX12) (T := TX12) (N := 22) hx hb hts hin12 hown hK hP 0 rfl rfl 4 (by decide) lk_83 (fun _ h9 => h9) rfl dX12_emits_31 ?_
  refine lv_iadd hx hb dX12_emits_34 ?_
  obtain ⟨hi2, hF⟩ := ck_some hF
  refine va_iald (D := G.1) hx hb hK hP 1 0 rfl rfl hi2 dX12_emits_35 ?_
  refine lv_iadd hx hb dX12_emits_36 ?_
  refine lv_iload_n hx hb dX12_emits_37 rfl (lv_at hl 1 rfl) ?_
  obtain ⟨hi3, hF⟩ := ck_some hF
  refine va_iast (D := G.1) hx hb hK hP hD hS 1 0 rfl rfl hi3 dX12_emits_38 (fun H locs hP hD hS => ?_)
  have hP : va_P G.1 vwCl [o12 h x_thrown a_s a_image x_hasImage x_act x_spot x_end x_isWrong x_open a_by a_truths x_turn x_lean x_last x_angle x_asLay x_ticks a_bodies x_ran x_kind x_number x_tellsV, aI G a_s 1394 (upd f_s ((258 + (140 * x_act)) + (f_s (250 + x_act).toNatClampNeg)).toNatClampNeg l1)] H := hP
  have hD : va_D A [o12 h x_thrown a_s a_image x_hasImage x_act x_spot x_end x_isWrong x_open a_by a_truths x_turn x_lean x_last x_angle x_asLay x_ticks a_bodies x_ran x_kind x_number x_tellsV, aI G a_s 1394 (upd f_s ((258 + (140 * x_act)) + (f_s (250 + x_act).toNatClampNeg)).toNatClampNeg l1)] := hD
  refine lv_aload_n hx hb dX12_emits_39 rfl (lv_at hl 0 rfl) ?_
  refine va_get (D := G.1) (ci := 12) (v := .ref a_s) (C := RX12) (T := TX12) (N := 22) hx hb hts hin12 hown hK hP 0 rfl rfl 1 (by decide) lk_9 (fun _ h9 => h9) rfl dX12_emits_40 ?_
  refine lv_sipush (v := 250) hx hb dX12_emits_43 (by decide) ?_
  refine lv_aload_n hx hb dX12_emits_46 rfl (lv_at hl 0 rfl) ?_
  refine va_get (D := G.1) (ci := 12) (v := .int x_act) (C := RX12) (T := TX12) (N := 22) hx hb hts hin12 hown hK hP 0 rfl rfl 4 (by decide) lk_83 (fun _ h9 => h9) rfl dX12_emits_47 ?_
  refine lv_iadd hx hb dX12_emits_50 ?_
  refine W.eq (g2 := F0 m 51 ls [.int (250 + x_act), .ref a_s]) rfl ?_
  refine lv_dup2_11 hx hb dX12_emits_51 rfl rfl ?_
  refine va_iald (D := G.1) hx hb hK hP 1 0 rfl rfl hi2 dX12_emits_52 ?_
  refine lv_iconst (v := 1) hx hb dX12_emits_53 (by decide) ?_
  refine lv_iadd hx hb dX12_emits_54 ?_
  refine va_iast (D := G.1) hx hb hK hP hD hS 1 0 rfl rfl hi2 dX12_emits_55 (fun H locs hP hD hS => ?_)
  have hP : va_P G.1 vwCl [o12 h x_thrown a_s a_image x_hasImage x_act x_spot x_end x_isWrong x_open a_by a_truths x_turn x_lean x_last x_angle x_asLay x_ticks a_bodies x_ran x_kind x_number x_tellsV, aI G a_s 1394 (upd (upd f_s ((258 + (140 * x_act)) + (f_s (250 + x_act).toNatClampNeg)).toNatClampNeg l1) (250 + x_act).toNatClampNeg (((upd f_s ((258 + (140 * x_act)) + (f_s (250 + x_act).toNatClampNeg)).toNatClampNeg l1) (250 + x_act).toNatClampNeg) + 1))] H := hP
  have hD : va_D A [o12 h x_thrown a_s a_image x_hasImage x_act x_spot x_end x_isWrong x_open a_by a_truths x_turn x_lean x_last x_angle x_asLay x_ticks a_bodies x_ran x_kind x_number x_tellsV, aI G a_s 1394 (upd (upd f_s ((258 + (140 * x_act)) + (f_s (250 + x_act).toNatClampNeg)).toNatClampNeg l1) (250 + x_act).toNatClampNeg (((upd f_s ((258 + (140 * x_act)) + (f_s (250 + x_act).toNatClampNeg)).toNatClampNeg l1) (250 + x_act).toNatClampNeg) + 1))] := hD
  injection hF with hz
  subst hz
  exact cm_retv hx hb hr hlk hK hP hD hS dX12_emits_56

/-! HeadsByHairModel.told(II)I -/
abbrev rm_X12_told : Room := { frames := 2, cells := 0, slots := 0, locals := 43 }
set_option maxHeartbeats 4000000 in
set_option maxRecDepth 100000 in
theorem c_X12_told (l : Launch) (G : GG) (h a_s a_image a_by a_truths a_bodies : Nat) (x_thrown x_hasImage x_act x_spot x_end x_isWrong x_open x_turn x_lean x_last x_angle x_asLay x_ticks x_ran x_kind x_number x_tellsV : Int32) (f_s : Nat → Int32) (l1 : Int32) (l2 : Int32) (z : Int32) (hF : fX12_told f_s l1 l2 = some (z)) : CMi l yX12_told wsX12_told rm_X12_told G [o12 h x_thrown a_s a_image x_hasImage x_act x_spot x_end x_isWrong x_open a_by a_truths x_turn x_lean x_last x_angle x_asLay x_ticks a_bodies x_ran x_kind x_number x_tellsV, aI G a_s 1394 f_s] [o12 h x_thrown a_s a_image x_hasImage x_act x_spot x_end x_isWrong x_open a_by a_truths x_turn x_lean x_last x_angle x_asLay x_ticks a_bodies x_ran x_kind x_number x_tellsV, aI G a_s 1394 f_s] [.ref h, .int l1, .int l2] z := by
  refine cm_start (cc := cX12_told) (maxL := 3) (ret := (some .int)) (Qc := fun A => QI G [o12 h x_thrown a_s a_image x_hasImage x_act x_spot x_end x_isWrong x_open a_by a_truths x_turn x_lean x_last x_angle x_asLay x_ticks a_bodies x_ran x_kind x_number x_tellsV, aI G a_s 1394 f_s] z A) (by decide +kernel) rfl (Nat.le_of_ble_eq_true rfl) ?_
  intro p e s m args below meth c A hx hb hr hlk hml hown hnm hts hA H locs hP hK hD hE hS ls hl
  have hown : s.vm.findClass RX12 = some m.cls := hown
  have hl : lv_has ls 3 [(0, .ref h), (1, .int l1), (2, .int l2)] := hl
  have hin12 : ∀ w ∈ wsX120, w ∈ wsX12_told := by decide +kernel
  have lk_9 := hts (.fieldLink RX12 9 "HeadsByHairModel" "s" "[I") (by decide +kernel)
  revert hF
  intro hF
  unfold fX12_told at hF
  refine lv_aload_n hx hb dX12_told_0 rfl (lv_at hl 0 rfl) ?_
  refine lv_iload_n hx hb dX12_told_1 rfl (lv_at hl 1 rfl) ?_
  obtain ⟨r1, hc2, hF⟩ := bd_some hF
  have hPc := hP.sub (ws' := [o12 h x_thrown a_s a_image x_hasImage x_act x_spot x_end x_isWrong x_open a_by a_truths x_turn x_lean x_last x_angle x_asLay x_ticks a_bodies x_ran x_kind x_number x_tellsV, aI G a_s 1394 f_s]) [0, 1] rfl
  have hDc := hD.sub (ws' := [o12 h x_thrown a_s a_image x_hasImage x_act x_spot x_end x_isWrong x_open a_by a_truths x_turn x_lean x_last x_angle x_asLay x_ticks a_bodies x_ran x_kind x_number x_tellsV, aI G a_s 1394 f_s]) [0, 1] (by decide) rfl
  have hFc := va_free (wc := [o12 h x_thrown a_s a_image x_hasImage x_act x_spot x_end x_isWrong x_open a_by a_truths x_turn x_lean x_last x_angle x_asLay x_ticks a_bodies x_ran x_kind x_number x_tellsV, aI G a_s 1394 f_s]) hD hS hA [0, 1] rfl
  have hM := c_X12_isLaw l G h a_s a_image a_by a_truths a_bodies x_thrown x_hasImage x_act x_spot x_end x_isWrong x_open x_turn x_lean x_last x_angle x_asLay x_ticks x_ran x_kind x_number x_tellsV f_s l1 r1 hc2 H.size
  refine cl_i (w1 := [o12 h x_thrown a_s a_image x_hasImage x_act x_spot x_end x_isWrong x_open a_by a_truths x_turn x_lean x_last x_angle x_asLay x_ticks a_bodies x_ran x_kind x_number x_tellsV, aI G a_s 1394 f_s]) (ws' := [o12 h x_thrown a_s a_image x_hasImage x_act x_spot x_end x_isWrong x_open a_by a_truths x_turn x_lean x_last x_angle x_asLay x_ticks a_bodies x_ran x_kind x_number x_tellsV, aI G a_s 1394 f_s]) hP hD hS hFc [0, 1] rfl rfl rfl (va_runV (As := [.int l1]) (rest := []) ⟨hx, hb, hml, hown, hts⟩ hM (cwV 1 hts gX12_told_X12_isLaw rfl rfl rfl (by decide +kernel) ⟨Nat.le_of_ble_eq_true rfl, Nat.le_of_ble_eq_true rfl⟩) (cp_V hK hE hS hPc hDc hFc (va_recv hK hPc (ci := 12) (q0 := 0) rfl rfl)) rfl rfl hl.1 rfl (lv_room (Nat.le_of_ble_eq_true rfl)) dX12_told_2 ⟨Nat.zero_le _, Nat.zero_le _⟩) (fun H locs hP hD hS => ?_)
  refine lv_if_eq (tgt := 35) hx hb dX12_told_5 (by decide) (fun c3 => ?_) (fun c3 => ?_)
  · rw [if_pos c3] at hF
    refine lv_iconst (v := (-1)) hx hb dX12_told_35 (by decide) ?_
    injection hF with hz
    subst hz
    exact cm_reti hx hb hr rfl hlk hK hP hD hS dX12_told_36
  rw [if_neg c3] at hF
  refine lv_iload_n hx hb dX12_told_8 rfl (lv_at hl 2 rfl) ?_
  refine lv_iconst (v := 0) hx hb dX12_told_9 (by decide) ?_
  refine lv_iconst (v := 2) hx hb dX12_told_10 (by decide) ?_
  obtain ⟨r4, hc5, hF⟩ := bd_some hF
  have hPc := hP.sub (ws' := []) [] rfl
  have hDc := hD.sub (ws' := []) [] (by decide) rfl
  have hFc := va_free (wc := []) hD hS hA [] rfl
  have hM := c_X12_in l G l2 (0 : Int32) (2 : Int32) r4 hc5 H.size
  refine cl_i (w1 := []) (ws' := [o12 h x_thrown a_s a_image x_hasImage x_act x_spot x_end x_isWrong x_open a_by a_truths x_turn x_lean x_last x_angle x_asLay x_ticks a_bodies x_ran x_kind x_number x_tellsV, aI G a_s 1394 f_s]) hP hD hS hFc [] rfl rfl rfl (va_runS (As := [.int l2, .int 0, .int 2]) (rest := []) ⟨hx, hb, hml, hown, hts⟩ hM (va_cwS 3 hts gX12_told_X12_in rfl rfl rfl (by decide +kernel) ⟨Nat.le_of_ble_eq_true rfl, Nat.le_of_ble_eq_true rfl⟩) (cp_S hK hE hS hPc hDc hFc) rfl rfl hl.1 rfl (lv_room (Nat.le_of_ble_eq_true rfl)) dX12_told_11 ⟨Nat.zero_le _, Nat.zero_le _⟩) (fun H locs hP hD hS => ?_)
  refine lv_if_eq (tgt := 35) hx hb dX12_told_14 (by decide) (fun c6 => ?_) (fun c6 => ?_)
  · rw [if_pos c6] at hF
    refine lv_iconst (v := (-1)) hx hb dX12_told_35 (by decide) ?_
    injection hF with hz
    subst hz
    exact cm_reti hx hb hr rfl hlk hK hP hD hS dX12_told_36
  rw [if_neg c6] at hF
  refine lv_aload_n hx hb dX12_told_17 rfl (lv_at hl 0 rfl) ?_
  refine va_get (D := G.1) (ci := 12) (v := .ref a_s) (C := RX12) (T := TX12) (N := 22) hx hb hts hin12 hown hK hP 0 rfl rfl 1 (by decide) lk_9 (fun _ h9 => h9) rfl dX12_told_18 ?_
  refine lv_sipush (v := 226) hx hb dX12_told_21 (by decide) ?_
  refine lv_bipush (v := 8) hx hb dX12_told_24 (by decide) ?_
  refine W.eq (g2 := F0 m 26 ls [.int 8, .int 226, .ref a_s]) rfl ?_
  refine lv_iload_n hx hb dX12_told_26 rfl (lv_at hl 2 rfl) ?_
  refine lv_imul hx hb dX12_told_27 ?_
  refine lv_iadd hx hb dX12_told_28 ?_
  refine lv_iload_n hx hb dX12_told_29 rfl (lv_at hl 1 rfl) ?_
  refine lv_iadd hx hb dX12_told_30 ?_
  obtain ⟨hi7, hF⟩ := ck_some hF
  refine va_iald (D := G.1) hx hb hK hP 1 0 rfl rfl hi7 dX12_told_31 ?_
  refine lv_goto (tgt := 36) hx hb dX12_told_32 (by decide) ?_
  injection hF with hz
  subst hz
  exact cm_reti hx hb hr rfl hlk hK hP hD hS dX12_told_36

/-! HeadsByHairModel.looks(I)V -/
abbrev rm_X12_looks : Room := { frames := 0, cells := 0, slots := 0, locals := 0 }
set_option maxHeartbeats 4000000 in
set_option maxRecDepth 100000 in
theorem c_X12_looks (l : Launch) (G : GG) (h a_s a_image a_by a_truths a_bodies : Nat) (x_thrown x_hasImage x_act x_spot x_end x_isWrong x_open x_turn x_lean x_last x_angle x_asLay x_ticks x_ran x_kind x_number x_tellsV : Int32) (f_by : Nat → Int32) (f_s : Nat → Int32) (f_truths : Nat → Int32) (l1 : Int32) (z_x_turn : Int32) (z_x_lean : Int32) (z_f_truths : Nat → Int32) (hF : fX12_looks x_turn x_lean f_by f_s f_truths l1 = some (z_x_turn, z_x_lean, z_f_truths)) : CMv l yX12_looks wsX12_looks rm_X12_looks G [o12 h x_thrown a_s a_image x_hasImage x_act x_spot x_end x_isWrong x_open a_by a_truths x_turn x_lean x_last x_angle x_asLay x_ticks a_bodies x_ran x_kind x_number x_tellsV, aI G a_by 5 f_by, aI G a_s 1394 f_s, aZ G a_truths 64 f_truths] [o12 h x_thrown a_s a_image x_hasImage x_act x_spot x_end x_isWrong x_open a_by a_truths z_x_turn z_x_lean x_last x_angle x_asLay x_ticks a_bodies x_ran x_kind x_number x_tellsV, aI G a_by 5 f_by, aI G a_s 1394 f_s, aZ G a_truths 64 z_f_truths] [.ref h, .int l1] := by
  refine cm_start (cc := cX12_looks) (maxL := 9) (ret := none) (Qc := fun A => QV G [o12 h x_thrown a_s a_image x_hasImage x_act x_spot x_end x_isWrong x_open a_by a_truths z_x_turn z_x_lean x_last x_angle x_asLay x_ticks a_bodies x_ran x_kind x_number x_tellsV, aI G a_by 5 f_by, aI G a_s 1394 f_s, aZ G a_truths 64 z_f_truths] A) (by decide +kernel) rfl (Nat.le_of_ble_eq_true rfl) ?_
  intro p e s m args below meth c A hx hb hr hlk hml hown hnm hts hA H locs hP hK hD hE hS ls hl
  have hown : s.vm.findClass RX12 = some m.cls := hown
  have hl : lv_has ls 9 [(0, .ref h), (1, .int l1)] := hl
  have hin12 : ∀ w ∈ wsX120, w ∈ wsX12_looks := by decide +kernel
  have lk_131 := hts (.fieldLink RX12 131 "HeadsByHairModel" "turn" "I") (by decide +kernel)
  have lk_134 := hts (.fieldLink RX12 134 "HeadsByHairModel" "lean" "I") (by decide +kernel)
  have lk_9 := hts (.fieldLink RX12 9 "HeadsByHairModel" "s" "[I") (by decide +kernel)
  have lk_21 := hts (.fieldLink RX12 21 "HeadsByHairModel" "truths" "[Z") (by decide +kernel)
  have lk_18 := hts (.fieldLink RX12 18 "HeadsByHairModel" "by" "[I") (by decide +kernel)
  revert hF
  have LP25 : ∀ (l1 : Int32) (k385 : Int32 → Int32 → (Nat → Int32) → Int32 → Option (Int32 × Int32 × (Nat → Int32))) (hk385 : ∀ (x_turn : Int32) (x_lean : Int32) (f_truths : Nat → Int32) (l2 : Int32) (H : Heap) (locs : List Loc) (ls : Array Slot), va_P G.1 vwCl [o12 h x_thrown a_s a_image x_hasImage x_act x_spot x_end x_isWrong x_open a_by a_truths x_turn x_lean x_last x_angle x_asLay x_ticks a_bodies x_ran x_kind x_number x_tellsV, aI G a_by 5 f_by, aI G a_s 1394 f_s, aZ G a_truths 64 f_truths] H → va_D A [o12 h x_thrown a_s a_image x_hasImage x_act x_spot x_end x_isWrong x_open a_by a_truths x_turn x_lean x_last x_angle x_asLay x_ticks a_bodies x_ran x_kind x_number x_tellsV, aI G a_by 5 f_by, aI G a_s 1394 f_s, aZ G a_truths 64 f_truths] → va_S A s.heap H locs → lv_has ls 9 [(0, .ref h), (2, .int l2)] → k385 x_turn x_lean f_truths l2 = some (z_x_turn, z_x_lean, z_f_truths) → W p l e (rm_X12_looks) s m args below meth c H locs 0 0 (MQ below (QV G [o12 h x_thrown a_s a_image x_hasImage x_act x_spot x_end x_isWrong x_open a_by a_truths z_x_turn z_x_lean x_last x_angle x_asLay x_ticks a_bodies x_ran x_kind x_number x_tellsV, aI G a_by 5 f_by, aI G a_s 1394 f_s, aZ G a_truths 64 z_f_truths] A) args s 0 0 A) (F0 m 385 ls [])) (n : Nat) (x_turn : Int32) (x_lean : Int32) (f_truths : Nat → Int32) (l2 : Int32) (l3 : Int32) (l4 : Int32) (H : Heap) (locs : List Loc) (ls : Array Slot), va_P G.1 vwCl [o12 h x_thrown a_s a_image x_hasImage x_act x_spot x_end x_isWrong x_open a_by a_truths x_turn x_lean x_last x_angle x_asLay x_ticks a_bodies x_ran x_kind x_number x_tellsV, aI G a_by 5 f_by, aI G a_s 1394 f_s, aZ G a_truths 64 f_truths] H → va_D A [o12 h x_thrown a_s a_image x_hasImage x_act x_spot x_end x_isWrong x_open a_by a_truths x_turn x_lean x_last x_angle x_asLay x_ticks a_bodies x_ran x_kind x_number x_tellsV, aI G a_by 5 f_by, aI G a_s 1394 f_s, aZ G a_truths 64 f_truths] → va_S A s.heap H locs → lv_has ls 9 [(0, .ref h), (1, .int l1), (2, .int l2), (3, .int l3), (4, .int l4)] → fX12_looks_L25 k385 f_by f_s l1 n x_turn x_lean f_truths l2 l3 l4 = some (z_x_turn, z_x_lean, z_f_truths) → W p l e (rm_X12_looks) s m args below meth c H locs 0 0 (MQ below (QV G [o12 h x_thrown a_s a_image x_hasImage x_act x_spot x_end x_isWrong x_open a_by a_truths z_x_turn z_x_lean x_last x_angle x_asLay x_ticks a_bodies x_ran x_kind x_number x_tellsV, aI G a_by 5 f_by, aI G a_s 1394 f_s, aZ G a_truths 64 z_f_truths] A) args s 0 0 A) (F0 m 25 ls []) := by
    intro l1 k385 hk385 n
    induction n with
    | zero =>
      intro x_turn x_lean f_truths l2 l3 l4 H locs ls hP hD hS hl hF
      cases hF
    | succ n ih =>
      have B374 : ∀ (x_turn : Int32) (x_lean : Int32) (f_truths : Nat → Int32) (l2 : Int32) (l3 : Int32) (l4 : Int32) (s1 : Int32) (H : Heap) (locs : List Loc) (ls : Array Slot), va_P G.1 vwCl [o12 h x_thrown a_s a_image x_hasImage x_act x_spot x_end x_isWrong x_open a_by a_truths x_turn x_lean x_last x_angle x_asLay x_ticks a_bodies x_ran x_kind x_number x_tellsV, aI G a_by 5 f_by, aI G a_s 1394 f_s, aZ G a_truths 64 f_truths] H → va_D A [o12 h x_thrown a_s a_image x_hasImage x_act x_spot x_end x_isWrong x_open a_by a_truths x_turn x_lean x_last x_angle x_asLay x_ticks a_bodies x_ran x_kind x_number x_tellsV, aI G a_by 5 f_by, aI G a_s 1394 f_s, aZ G a_truths 64 f_truths] → va_S A s.heap H locs → lv_has ls 9 [(0, .ref h), (1, .int l1), (2, .int l2), (3, .int l3), (4, .int l4)] → fX12_looks_b374 (fX12_looks_L25 k385 f_by f_s l1 n) k385 x_turn x_lean f_by f_s f_truths l1 l2 l3 l4 s1 = some (z_x_turn, z_x_lean, z_f_truths) → W p l e (rm_X12_looks) s m args below meth c H locs 0 0 (MQ below (QV G [o12 h x_thrown a_s a_image x_hasImage x_act x_spot x_end x_isWrong x_open a_by a_truths z_x_turn z_x_lean x_last x_angle x_asLay x_ticks a_bodies x_ran x_kind x_number x_tellsV, aI G a_by 5 f_by, aI G a_s 1394 f_s, aZ G a_truths 64 z_f_truths] A) args s 0 0 A) (F0 m 374 ls [.int s1, .ref h]) := by
        intro x_turn x_lean f_truths l2 l3 l4 s1 H locs ls hP hD hS hl hF
        unfold fX12_looks_b374 at hF
        refine lv_iconst (v := 0) hx hb dX12_looks_374 (by decide) ?_
        refine lv_iadd hx hb dX12_looks_375 ?_
        refine va_put (D := G.1) (ci := 12) (v := .int (s1 + 0)) (ty := .int) (C := RX12) (T := TX12) (N := 22) hx hb hts hin12 tyX12 tyX12_ok nmX12 hown hK hP hD hS 0 rfl rfl 12 (by decide) lk_134 (fun _ h9 => h9) rfl (tyX12_ok 12 (by decide)) rfl rfl (Nat.le_of_ble_eq_true rfl) dX12_looks_376 (fun H locs hP hD hS => ?_)
        have hP : va_P G.1 vwCl [o12 h x_thrown a_s a_image x_hasImage x_act x_spot x_end x_isWrong x_open a_by a_truths x_turn (s1 + 0) x_last x_angle x_asLay x_ticks a_bodies x_ran x_kind x_number x_tellsV, aI G a_by 5 f_by, aI G a_s 1394 f_s, aZ G a_truths 64 f_truths] H := hP
        have hD : va_D A [o12 h x_thrown a_s a_image x_hasImage x_act x_spot x_end x_isWrong x_open a_by a_truths x_turn (s1 + 0) x_last x_angle x_asLay x_ticks a_bodies x_ran x_kind x_number x_tellsV, aI G a_by 5 f_by, aI G a_s 1394 f_s, aZ G a_truths 64 f_truths] := hD
        refine lv_iinc (v := l4 + 1) (lv' := [(4, .int (l4 + 1)), (0, .ref h), (1, .int l1), (2, .int l2), (3, .int l3)]) hx hb dX12_looks_379 hl (k := 4) rfl rfl (by decide) rfl (fun ls hl => ?_)
        refine lv_goto (tgt := 25) hx hb dX12_looks_382 (by decide) ?_
        exact ih _ _ _ _ _ _ H locs ls hP hD hS (lv_sub hl [1, 2, 3, 4, 0] rfl) hF
      have B331 : ∀ (x_turn : Int32) (x_lean : Int32) (f_truths : Nat → Int32) (l2 : Int32) (l3 : Int32) (l4 : Int32) (l5 : Int32) (s1 : Int32) (s2 : Int32) (H : Heap) (locs : List Loc) (ls : Array Slot), va_P G.1 vwCl [o12 h x_thrown a_s a_image x_hasImage x_act x_spot x_end x_isWrong x_open a_by a_truths x_turn x_lean x_last x_angle x_asLay x_ticks a_bodies x_ran x_kind x_number x_tellsV, aI G a_by 5 f_by, aI G a_s 1394 f_s, aZ G a_truths 64 f_truths] H → va_D A [o12 h x_thrown a_s a_image x_hasImage x_act x_spot x_end x_isWrong x_open a_by a_truths x_turn x_lean x_last x_angle x_asLay x_ticks a_bodies x_ran x_kind x_number x_tellsV, aI G a_by 5 f_by, aI G a_s 1394 f_s, aZ G a_truths 64 f_truths] → va_S A s.heap H locs → lv_has ls 9 [(0, .ref h), (1, .int l1), (2, .int l2), (3, .int l3), (4, .int l4), (5, .int l5)] → fX12_looks_b331 (fX12_looks_L25 k385 f_by f_s l1 n) k385 x_turn x_lean f_by f_s f_truths l1 l2 l3 l4 l5 s1 s2 = some (z_x_turn, z_x_lean, z_f_truths) → W p l e (rm_X12_looks) s m args below meth c H locs 0 0 (MQ below (QV G [o12 h x_thrown a_s a_image x_hasImage x_act x_spot x_end x_isWrong x_open a_by a_truths z_x_turn z_x_lean x_last x_angle x_asLay x_ticks a_bodies x_ran x_kind x_number x_tellsV, aI G a_by 5 f_by, aI G a_s 1394 f_s, aZ G a_truths 64 z_f_truths] A) args s 0 0 A) (F0 m 331 ls [.int s2, .int s1, .ref h]) := by
        intro x_turn x_lean f_truths l2 l3 l4 l5 s1 s2 H locs ls hP hD hS hl hF
        unfold fX12_looks_b331 at hF
        refine lv_iadd hx hb dX12_looks_331 ?_
        refine va_put (D := G.1) (ci := 12) (v := .int (s1 + s2)) (ty := .int) (C := RX12) (T := TX12) (N := 22) hx hb hts hin12 tyX12 tyX12_ok nmX12 hown hK hP hD hS 0 rfl rfl 11 (by decide) lk_131 (fun _ h9 => h9) rfl (tyX12_ok 11 (by decide)) rfl rfl (Nat.le_of_ble_eq_true rfl) dX12_looks_332 (fun H locs hP hD hS => ?_)
        have hP : va_P G.1 vwCl [o12 h x_thrown a_s a_image x_hasImage x_act x_spot x_end x_isWrong x_open a_by a_truths (s1 + s2) x_lean x_last x_angle x_asLay x_ticks a_bodies x_ran x_kind x_number x_tellsV, aI G a_by 5 f_by, aI G a_s 1394 f_s, aZ G a_truths 64 f_truths] H := hP
        have hD : va_D A [o12 h x_thrown a_s a_image x_hasImage x_act x_spot x_end x_isWrong x_open a_by a_truths (s1 + s2) x_lean x_last x_angle x_asLay x_ticks a_bodies x_ran x_kind x_number x_tellsV, aI G a_by 5 f_by, aI G a_s 1394 f_s, aZ G a_truths 64 f_truths] := hD
        refine lv_aload_n hx hb dX12_looks_335 rfl (lv_at hl 0 rfl) ?_
        refine lv_dup hx hb dX12_looks_336 rfl ?_
        refine va_get (D := G.1) (ci := 12) (v := .int x_lean) (C := RX12) (T := TX12) (N := 22) hx hb hts hin12 hown hK hP 0 rfl rfl 12 (by decide) lk_134 (fun _ h9 => h9) rfl dX12_looks_337 ?_
        refine lv_aload_n hx hb dX12_looks_340 rfl (lv_at hl 0 rfl) ?_
        refine va_get (D := G.1) (ci := 12) (v := .ref a_truths) (C := RX12) (T := TX12) (N := 22) hx hb hts hin12 hown hK hP 0 rfl rfl 10 (by decide) lk_21 (fun _ h9 => h9) rfl dX12_looks_341 ?_
        refine lv_iconst (v := 0) hx hb dX12_looks_344 (by decide) ?_
        refine va_zald (D := G.1) hx hb hK hP 3 1 rfl rfl (by unfold vp_in; decide) dX12_looks_345 ?_
        refine lv_eqi (y := f_truths 0) rfl ?_
        refine lv_if_eq (tgt := 374) hx hb dX12_looks_346 (by decide) (fun c9 => ?_) (fun c9 => ?_)
        · rw [if_pos c9] at hF
          exact B374 _ _ _ _ _ _ _ H locs ls hP hD hS (lv_sub hl [0, 1, 2, 3, 4] rfl) hF
        rw [if_neg c9] at hF
        refine lv_iload hx hb dX12_looks_349 (lv_at hl 5 rfl) ?_
        refine lv_sipush (v := (-200)) hx hb dX12_looks_351 (by decide) ?_
        refine lv_icmp_gt (tgt := 374) hx hb dX12_looks_354 (by decide) (fun c10 => ?_) (fun c10 => ?_)
        · rw [if_pos c10] at hF
          exact B374 _ _ _ _ _ _ _ H locs ls hP hD hS (lv_sub hl [0, 1, 2, 3, 4] rfl) hF
        rw [if_neg c10] at hF
        refine W.eq (g2 := F0 m 357 ls [.int x_lean, .ref h]) rfl ?_
        refine lv_iload hx hb dX12_looks_357 (lv_at hl 5 rfl) ?_
        refine lv_sipush (v := (-400)) hx hb dX12_looks_359 (by decide) ?_
        refine lv_icmp_le (tgt := 374) hx hb dX12_looks_362 (by decide) (fun c11 => ?_) (fun c11 => ?_)
        · rw [if_pos c11] at hF
          exact B374 _ _ _ _ _ _ _ H locs ls hP hD hS (lv_sub hl [0, 1, 2, 3, 4] rfl) hF
        rw [if_neg c11] at hF
        refine lv_sipush (v := (-200)) hx hb dX12_looks_365 (by decide) ?_
        refine lv_iload hx hb dX12_looks_368 (lv_at hl 5 rfl) ?_
        refine lv_isub hx hb dX12_looks_370 ?_
        refine lv_goto (tgt := 375) hx hb dX12_looks_371 (by decide) ?_
        refine lv_iadd hx hb dX12_looks_375 ?_
        refine va_put (D := G.1) (ci := 12) (v := .int (x_lean + ((-200) - l5))) (ty := .int) (C := RX12) (T := TX12) (N := 22) hx hb hts hin12 tyX12 tyX12_ok nmX12 hown hK hP hD hS 0 rfl rfl 12 (by decide) lk_134 (fun _ h9 => h9) rfl (tyX12_ok 12 (by decide)) rfl rfl (Nat.le_of_ble_eq_true rfl) dX12_looks_376 (fun H locs hP hD hS => ?_)
        have hP : va_P G.1 vwCl [o12 h x_thrown a_s a_image x_hasImage x_act x_spot x_end x_isWrong x_open a_by a_truths (s1 + s2) (x_lean + ((-200) - l5)) x_last x_angle x_asLay x_ticks a_bodies x_ran x_kind x_number x_tellsV, aI G a_by 5 f_by, aI G a_s 1394 f_s, aZ G a_truths 64 f_truths] H := hP
        have hD : va_D A [o12 h x_thrown a_s a_image x_hasImage x_act x_spot x_end x_isWrong x_open a_by a_truths (s1 + s2) (x_lean + ((-200) - l5)) x_last x_angle x_asLay x_ticks a_bodies x_ran x_kind x_number x_tellsV, aI G a_by 5 f_by, aI G a_s 1394 f_s, aZ G a_truths 64 f_truths] := hD
        refine lv_iinc (v := l4 + 1) (lv' := [(4, .int (l4 + 1)), (0, .ref h), (1, .int l1), (2, .int l2), (3, .int l3), (5, .int l5)]) hx hb dX12_looks_379 hl (k := 4) rfl rfl (by decide) rfl (fun ls hl => ?_)
        refine lv_goto (tgt := 25) hx hb dX12_looks_382 (by decide) ?_
        exact ih _ _ _ _ _ _ H locs ls hP hD hS (lv_sub hl [1, 2, 3, 4, 0] rfl) hF
      have B330 : ∀ (x_turn : Int32) (x_lean : Int32) (f_truths : Nat → Int32) (l2 : Int32) (l3 : Int32) (l4 : Int32) (l5 : Int32) (s1 : Int32) (H : Heap) (locs : List Loc) (ls : Array Slot), va_P G.1 vwCl [o12 h x_thrown a_s a_image x_hasImage x_act x_spot x_end x_isWrong x_open a_by a_truths x_turn x_lean x_last x_angle x_asLay x_ticks a_bodies x_ran x_kind x_number x_tellsV, aI G a_by 5 f_by, aI G a_s 1394 f_s, aZ G a_truths 64 f_truths] H → va_D A [o12 h x_thrown a_s a_image x_hasImage x_act x_spot x_end x_isWrong x_open a_by a_truths x_turn x_lean x_last x_angle x_asLay x_ticks a_bodies x_ran x_kind x_number x_tellsV, aI G a_by 5 f_by, aI G a_s 1394 f_s, aZ G a_truths 64 f_truths] → va_S A s.heap H locs → lv_has ls 9 [(0, .ref h), (1, .int l1), (2, .int l2), (3, .int l3), (4, .int l4), (5, .int l5)] → fX12_looks_b330 (fX12_looks_L25 k385 f_by f_s l1 n) k385 x_turn x_lean f_by f_s f_truths l1 l2 l3 l4 l5 s1 = some (z_x_turn, z_x_lean, z_f_truths) → W p l e (rm_X12_looks) s m args below meth c H locs 0 0 (MQ below (QV G [o12 h x_thrown a_s a_image x_hasImage x_act x_spot x_end x_isWrong x_open a_by a_truths z_x_turn z_x_lean x_last x_angle x_asLay x_ticks a_bodies x_ran x_kind x_number x_tellsV, aI G a_by 5 f_by, aI G a_s 1394 f_s, aZ G a_truths 64 z_f_truths] A) args s 0 0 A) (F0 m 330 ls [.int s1, .ref h]) := by
        intro x_turn x_lean f_truths l2 l3 l4 l5 s1 H locs ls hP hD hS hl hF
        unfold fX12_looks_b330 at hF
        refine lv_iconst (v := 0) hx hb dX12_looks_330 (by decide) ?_
        exact B331 _ _ _ _ _ _ _ _ _ H locs ls hP hD hS (lv_sub hl [0, 1, 2, 3, 4, 5] rfl) hF
      have B299 : ∀ (x_turn : Int32) (x_lean : Int32) (f_truths : Nat → Int32) (l3 : Int32) (l4 : Int32) (l5 : Int32) (s0 : Int32) (H : Heap) (locs : List Loc) (ls : Array Slot), va_P G.1 vwCl [o12 h x_thrown a_s a_image x_hasImage x_act x_spot x_end x_isWrong x_open a_by a_truths x_turn x_lean x_last x_angle x_asLay x_ticks a_bodies x_ran x_kind x_number x_tellsV, aI G a_by 5 f_by, aI G a_s 1394 f_s, aZ G a_truths 64 f_truths] H → va_D A [o12 h x_thrown a_s a_image x_hasImage x_act x_spot x_end x_isWrong x_open a_by a_truths x_turn x_lean x_last x_angle x_asLay x_ticks a_bodies x_ran x_kind x_number x_tellsV, aI G a_by 5 f_by, aI G a_s 1394 f_s, aZ G a_truths 64 f_truths] → va_S A s.heap H locs → lv_has ls 9 [(0, .ref h), (1, .int l1), (3, .int l3), (4, .int l4), (5, .int l5)] → fX12_looks_b299 (fX12_looks_L25 k385 f_by f_s l1 n) k385 x_turn x_lean f_by f_s f_truths l1 l3 l4 l5 s0 = some (z_x_turn, z_x_lean, z_f_truths) → W p l e (rm_X12_looks) s m args below meth c H locs 0 0 (MQ below (QV G [o12 h x_thrown a_s a_image x_hasImage x_act x_spot x_end x_isWrong x_open a_by a_truths z_x_turn z_x_lean x_last x_angle x_asLay x_ticks a_bodies x_ran x_kind x_number x_tellsV, aI G a_by 5 f_by, aI G a_s 1394 f_s, aZ G a_truths 64 z_f_truths] A) args s 0 0 A) (F0 m 299 ls [.int s0]) := by
        intro x_turn x_lean f_truths l3 l4 l5 s0 H locs ls hP hD hS hl hF
        unfold fX12_looks_b299 at hF
        refine lv_istore_n (lv' := [(2, .int s0), (0, .ref h), (1, .int l1), (3, .int l3), (4, .int l4), (5, .int l5)]) hx hb dX12_looks_299 rfl hl (by decide) rfl (fun ls hl => ?_)
        refine lv_aload_n hx hb dX12_looks_300 rfl (lv_at hl 1 rfl) ?_
        refine lv_dup hx hb dX12_looks_301 rfl ?_
        refine va_get (D := G.1) (ci := 12) (v := .int x_turn) (C := RX12) (T := TX12) (N := 22) hx hb hts hin12 hown hK hP 0 rfl rfl 11 (by decide) lk_131 (fun _ h9 => h9) rfl dX12_looks_302 ?_
        refine lv_aload_n hx hb dX12_looks_305 rfl (lv_at hl 1 rfl) ?_
        refine va_get (D := G.1) (ci := 12) (v := .ref a_truths) (C := RX12) (T := TX12) (N := 22) hx hb hts hin12 hown hK hP 0 rfl rfl 10 (by decide) lk_21 (fun _ h9 => h9) rfl dX12_looks_306 ?_
        refine lv_iconst (v := 0) hx hb dX12_looks_309 (by decide) ?_
        refine va_zald (D := G.1) hx hb hK hP 3 1 rfl rfl (by unfold vp_in; decide) dX12_looks_310 ?_
        refine lv_eqi (y := f_truths 0) rfl ?_
        refine lv_if_eq (tgt := 330) hx hb dX12_looks_311 (by decide) (fun c8 => ?_) (fun c8 => ?_)
        · rw [if_pos c8] at hF
          exact B330 _ _ _ _ _ _ _ _ H locs ls hP hD hS (lv_sub hl [1, 2, 0, 3, 4, 5] rfl) hF
        rw [if_neg c8] at hF
        refine lv_iload hx hb dX12_looks_314 (lv_at hl 5 rfl) ?_
        refine lv_sipush (v := (-200)) hx hb dX12_looks_316 (by decide) ?_
        refine lv_icmp_le (tgt := 330) hx hb dX12_looks_319 (by decide) (fun c12 => ?_) (fun c12 => ?_)
        · rw [if_pos c12] at hF
          exact B330 _ _ _ _ _ _ _ _ H locs ls hP hD hS (lv_sub hl [1, 2, 0, 3, 4, 5] rfl) hF
        rw [if_neg c12] at hF
        refine lv_bipush (v := (-10)) hx hb dX12_looks_322 (by decide) ?_
        refine W.eq (g2 := F0 m 324 ls [.int (-10), .int x_turn, .ref h]) rfl ?_
        refine lv_iload hx hb dX12_looks_324 (lv_at hl 5 rfl) ?_
        refine lv_isub hx hb dX12_looks_326 ?_
        refine lv_goto (tgt := 331) hx hb dX12_looks_327 (by decide) ?_
        exact B331 _ _ _ _ _ _ _ _ _ H locs ls hP hD hS (lv_sub hl [1, 2, 0, 3, 4, 5] rfl) hF
      have B294 : ∀ (x_turn : Int32) (x_lean : Int32) (f_truths : Nat → Int32) (l3 : Int32) (l4 : Int32) (l5 : Int32) (H : Heap) (locs : List Loc) (ls : Array Slot), va_P G.1 vwCl [o12 h x_thrown a_s a_image x_hasImage x_act x_spot x_end x_isWrong x_open a_by a_truths x_turn x_lean x_last x_angle x_asLay x_ticks a_bodies x_ran x_kind x_number x_tellsV, aI G a_by 5 f_by, aI G a_s 1394 f_s, aZ G a_truths 64 f_truths] H → va_D A [o12 h x_thrown a_s a_image x_hasImage x_act x_spot x_end x_isWrong x_open a_by a_truths x_turn x_lean x_last x_angle x_asLay x_ticks a_bodies x_ran x_kind x_number x_tellsV, aI G a_by 5 f_by, aI G a_s 1394 f_s, aZ G a_truths 64 f_truths] → va_S A s.heap H locs → lv_has ls 9 [(0, .ref h), (1, .int l1), (3, .int l3), (4, .int l4), (5, .int l5)] → fX12_looks_b294 (fX12_looks_L25 k385 f_by f_s l1 n) k385 x_turn x_lean f_by f_s f_truths l1 l3 l4 l5 = some (z_x_turn, z_x_lean, z_f_truths) → W p l e (rm_X12_looks) s m args below meth c H locs 0 0 (MQ below (QV G [o12 h x_thrown a_s a_image x_hasImage x_act x_spot x_end x_isWrong x_open a_by a_truths z_x_turn z_x_lean x_last x_angle x_asLay x_ticks a_bodies x_ran x_kind x_number x_tellsV, aI G a_by 5 f_by, aI G a_s 1394 f_s, aZ G a_truths 64 z_f_truths] A) args s 0 0 A) (F0 m 294 ls []) := by
        intro x_turn x_lean f_truths l3 l4 l5 H locs ls hP hD hS hl hF
        unfold fX12_looks_b294 at hF
        refine lv_iconst (v := 1) hx hb dX12_looks_294 (by decide) ?_
        refine lv_goto (tgt := 299) hx hb dX12_looks_295 (by decide) ?_
        exact B299 _ _ _ _ _ _ _ H locs ls hP hD hS (lv_sub hl [0, 1, 2, 3, 4] rfl) hF
      have B298 : ∀ (x_turn : Int32) (x_lean : Int32) (f_truths : Nat → Int32) (l3 : Int32) (l4 : Int32) (l5 : Int32) (H : Heap) (locs : List Loc) (ls : Array Slot), va_P G.1 vwCl [o12 h x_thrown a_s a_image x_hasImage x_act x_spot x_end x_isWrong x_open a_by a_truths x_turn x_lean x_last x_angle x_asLay x_ticks a_bodies x_ran x_kind x_number x_tellsV, aI G a_by 5 f_by, aI G a_s 1394 f_s, aZ G a_truths 64 f_truths] H → va_D A [o12 h x_thrown a_s a_image x_hasImage x_act x_spot x_end x_isWrong x_open a_by a_truths x_turn x_lean x_last x_angle x_asLay x_ticks a_bodies x_ran x_kind x_number x_tellsV, aI G a_by 5 f_by, aI G a_s 1394 f_s, aZ G a_truths 64 f_truths] → va_S A s.heap H locs → lv_has ls 9 [(0, .ref h), (1, .int l1), (3, .int l3), (4, .int l4), (5, .int l5)] → fX12_looks_b298 (fX12_looks_L25 k385 f_by f_s l1 n) k385 x_turn x_lean f_by f_s f_truths l1 l3 l4 l5 = some (z_x_turn, z_x_lean, z_f_truths) → W p l e (rm_X12_looks) s m args below meth c H locs 0 0 (MQ below (QV G [o12 h x_thrown a_s a_image x_hasImage x_act x_spot x_end x_isWrong x_open a_by a_truths z_x_turn z_x_lean x_last x_angle x_asLay x_ticks a_bodies x_ran x_kind x_number x_tellsV, aI G a_by 5 f_by, aI G a_s 1394 f_s, aZ G a_truths 64 z_f_truths] A) args s 0 0 A) (F0 m 298 ls []) := by
        intro x_turn x_lean f_truths l3 l4 l5 H locs ls hP hD hS hl hF
        unfold fX12_looks_b298 at hF
        refine lv_iconst (v := 0) hx hb dX12_looks_298 (by decide) ?_
        exact B299 _ _ _ _ _ _ _ H locs ls hP hD hS (lv_sub hl [0, 1, 2, 3, 4] rfl) hF
      have B267 : ∀ (x_turn : Int32) (x_lean : Int32) (f_truths : Nat → Int32) (l2 : Int32) (l3 : Int32) (l4 : Int32) (s1 : Int32) (s2 : Int32) (H : Heap) (locs : List Loc) (ls : Array Slot), va_P G.1 vwCl [o12 h x_thrown a_s a_image x_hasImage x_act x_spot x_end x_isWrong x_open a_by a_truths x_turn x_lean x_last x_angle x_asLay x_ticks a_bodies x_ran x_kind x_number x_tellsV, aI G a_by 5 f_by, aI G a_s 1394 f_s, aZ G a_truths 64 f_truths] H → va_D A [o12 h x_thrown a_s a_image x_hasImage x_act x_spot x_end x_isWrong x_open a_by a_truths x_turn x_lean x_last x_angle x_asLay x_ticks a_bodies x_ran x_kind x_number x_tellsV, aI G a_by 5 f_by, aI G a_s 1394 f_s, aZ G a_truths 64 f_truths] → va_S A s.heap H locs → lv_has ls 9 [(0, .ref h), (1, .int l1), (2, .int l2), (3, .int l3), (4, .int l4)] → fX12_looks_b267 (fX12_looks_L25 k385 f_by f_s l1 n) k385 x_turn x_lean f_by f_s f_truths l1 l2 l3 l4 s1 s2 = some (z_x_turn, z_x_lean, z_f_truths) → W p l e (rm_X12_looks) s m args below meth c H locs 0 0 (MQ below (QV G [o12 h x_thrown a_s a_image x_hasImage x_act x_spot x_end x_isWrong x_open a_by a_truths z_x_turn z_x_lean x_last x_angle x_asLay x_ticks a_bodies x_ran x_kind x_number x_tellsV, aI G a_by 5 f_by, aI G a_s 1394 f_s, aZ G a_truths 64 z_f_truths] A) args s 0 0 A) (F0 m 267 ls [.int s2, .int s1, .ref a_truths]) := by
        intro x_turn x_lean f_truths l2 l3 l4 s1 s2 H locs ls hP hD hS hl hF
        unfold fX12_looks_b267 at hF
        obtain ⟨hi18, hF⟩ := ck_some hF
        refine va_zast (D := G.1) hx hb hK hP hD hS 3 1 rfl rfl hi18 dX12_looks_267 (fun H locs hP hD hS => ?_)
        have hP : va_P G.1 vwCl [o12 h x_thrown a_s a_image x_hasImage x_act x_spot x_end x_isWrong x_open a_by a_truths x_turn x_lean x_last x_angle x_asLay x_ticks a_bodies x_ran x_kind x_number x_tellsV, aI G a_by 5 f_by, aI G a_s 1394 f_s, aZ G a_truths 64 (upd f_truths s1.toNatClampNeg (vp_nar .boolean s2))] H := hP
        have hD : va_D A [o12 h x_thrown a_s a_image x_hasImage x_act x_spot x_end x_isWrong x_open a_by a_truths x_turn x_lean x_last x_angle x_asLay x_ticks a_bodies x_ran x_kind x_number x_tellsV, aI G a_by 5 f_by, aI G a_s 1394 f_s, aZ G a_truths 64 (upd f_truths s1.toNatClampNeg (vp_nar .boolean s2))] := hD
        refine lv_goto (tgt := 379) hx hb dX12_looks_268 (by decide) ?_
        refine lv_iinc (v := l4 + 1) (lv' := [(4, .int (l4 + 1)), (0, .ref h), (1, .int l1), (2, .int l2), (3, .int l3)]) hx hb dX12_looks_379 hl (k := 4) rfl rfl (by decide) rfl (fun ls hl => ?_)
        refine lv_goto (tgt := 25) hx hb dX12_looks_382 (by decide) ?_
        exact ih _ _ _ _ _ _ H locs ls hP hD hS (lv_sub hl [1, 2, 3, 4, 0] rfl) hF
      have B262 : ∀ (x_turn : Int32) (x_lean : Int32) (f_truths : Nat → Int32) (l2 : Int32) (l3 : Int32) (l4 : Int32) (s1 : Int32) (H : Heap) (locs : List Loc) (ls : Array Slot), va_P G.1 vwCl [o12 h x_thrown a_s a_image x_hasImage x_act x_spot x_end x_isWrong x_open a_by a_truths x_turn x_lean x_last x_angle x_asLay x_ticks a_bodies x_ran x_kind x_number x_tellsV, aI G a_by 5 f_by, aI G a_s 1394 f_s, aZ G a_truths 64 f_truths] H → va_D A [o12 h x_thrown a_s a_image x_hasImage x_act x_spot x_end x_isWrong x_open a_by a_truths x_turn x_lean x_last x_angle x_asLay x_ticks a_bodies x_ran x_kind x_number x_tellsV, aI G a_by 5 f_by, aI G a_s 1394 f_s, aZ G a_truths 64 f_truths] → va_S A s.heap H locs → lv_has ls 9 [(0, .ref h), (1, .int l1), (2, .int l2), (3, .int l3), (4, .int l4)] → fX12_looks_b262 (fX12_looks_L25 k385 f_by f_s l1 n) k385 x_turn x_lean f_by f_s f_truths l1 l2 l3 l4 s1 = some (z_x_turn, z_x_lean, z_f_truths) → W p l e (rm_X12_looks) s m args below meth c H locs 0 0 (MQ below (QV G [o12 h x_thrown a_s a_image x_hasImage x_act x_spot x_end x_isWrong x_open a_by a_truths z_x_turn z_x_lean x_last x_angle x_asLay x_ticks a_bodies x_ran x_kind x_number x_tellsV, aI G a_by 5 f_by, aI G a_s 1394 f_s, aZ G a_truths 64 z_f_truths] A) args s 0 0 A) (F0 m 262 ls [.int s1, .ref a_truths]) := by
        intro x_turn x_lean f_truths l2 l3 l4 s1 H locs ls hP hD hS hl hF
        unfold fX12_looks_b262 at hF
        refine lv_iconst (v := 1) hx hb dX12_looks_262 (by decide) ?_
        refine lv_goto (tgt := 267) hx hb dX12_looks_263 (by decide) ?_
        exact B267 _ _ _ _ _ _ _ _ H locs ls hP hD hS (lv_sub hl [0, 1, 2, 3, 4] rfl) hF
      have B238 : ∀ (x_turn : Int32) (x_lean : Int32) (f_truths : Nat → Int32) (l2 : Int32) (l3 : Int32) (l4 : Int32) (s1 : Int32) (H : Heap) (locs : List Loc) (ls : Array Slot), va_P G.1 vwCl [o12 h x_thrown a_s a_image x_hasImage x_act x_spot x_end x_isWrong x_open a_by a_truths x_turn x_lean x_last x_angle x_asLay x_ticks a_bodies x_ran x_kind x_number x_tellsV, aI G a_by 5 f_by, aI G a_s 1394 f_s, aZ G a_truths 64 f_truths] H → va_D A [o12 h x_thrown a_s a_image x_hasImage x_act x_spot x_end x_isWrong x_open a_by a_truths x_turn x_lean x_last x_angle x_asLay x_ticks a_bodies x_ran x_kind x_number x_tellsV, aI G a_by 5 f_by, aI G a_s 1394 f_s, aZ G a_truths 64 f_truths] → va_S A s.heap H locs → lv_has ls 9 [(0, .ref h), (1, .int l1), (2, .int l2), (3, .int l3), (4, .int l4)] → fX12_looks_b238 (fX12_looks_L25 k385 f_by f_s l1 n) k385 x_turn x_lean f_by f_s f_truths l1 l2 l3 l4 s1 = some (z_x_turn, z_x_lean, z_f_truths) → W p l e (rm_X12_looks) s m args below meth c H locs 0 0 (MQ below (QV G [o12 h x_thrown a_s a_image x_hasImage x_act x_spot x_end x_isWrong x_open a_by a_truths z_x_turn z_x_lean x_last x_angle x_asLay x_ticks a_bodies x_ran x_kind x_number x_tellsV, aI G a_by 5 f_by, aI G a_s 1394 f_s, aZ G a_truths 64 z_f_truths] A) args s 0 0 A) (F0 m 238 ls [.int s1, .ref a_truths]) := by
        intro x_turn x_lean f_truths l2 l3 l4 s1 H locs ls hP hD hS hl hF
        unfold fX12_looks_b238 at hF
        refine lv_iconst (v := 0) hx hb dX12_looks_238 (by decide) ?_
        refine lv_goto (tgt := 267) hx hb dX12_looks_239 (by decide) ?_
        exact B267 _ _ _ _ _ _ _ _ H locs ls hP hD hS (lv_sub hl [0, 1, 2, 3, 4] rfl) hF
      have B186 : ∀ (x_turn : Int32) (x_lean : Int32) (f_truths : Nat → Int32) (l2 : Int32) (l3 : Int32) (l4 : Int32) (s1 : Int32) (s2 : Int32) (H : Heap) (locs : List Loc) (ls : Array Slot), va_P G.1 vwCl [o12 h x_thrown a_s a_image x_hasImage x_act x_spot x_end x_isWrong x_open a_by a_truths x_turn x_lean x_last x_angle x_asLay x_ticks a_bodies x_ran x_kind x_number x_tellsV, aI G a_by 5 f_by, aI G a_s 1394 f_s, aZ G a_truths 64 f_truths] H → va_D A [o12 h x_thrown a_s a_image x_hasImage x_act x_spot x_end x_isWrong x_open a_by a_truths x_turn x_lean x_last x_angle x_asLay x_ticks a_bodies x_ran x_kind x_number x_tellsV, aI G a_by 5 f_by, aI G a_s 1394 f_s, aZ G a_truths 64 f_truths] → va_S A s.heap H locs → lv_has ls 9 [(0, .ref h), (1, .int l1), (2, .int l2), (3, .int l3), (4, .int l4)] → fX12_looks_b186 (fX12_looks_L25 k385 f_by f_s l1 n) k385 x_turn x_lean f_by f_s f_truths l1 l2 l3 l4 s1 s2 = some (z_x_turn, z_x_lean, z_f_truths) → W p l e (rm_X12_looks) s m args below meth c H locs 0 0 (MQ below (QV G [o12 h x_thrown a_s a_image x_hasImage x_act x_spot x_end x_isWrong x_open a_by a_truths z_x_turn z_x_lean x_last x_angle x_asLay x_ticks a_bodies x_ran x_kind x_number x_tellsV, aI G a_by 5 f_by, aI G a_s 1394 f_s, aZ G a_truths 64 z_f_truths] A) args s 0 0 A) (F0 m 186 ls [.int s2, .int s1, .ref a_truths]) := by
        intro x_turn x_lean f_truths l2 l3 l4 s1 s2 H locs ls hP hD hS hl hF
        unfold fX12_looks_b186 at hF
        obtain ⟨hi27, hF⟩ := ck_some hF
        refine va_zast (D := G.1) hx hb hK hP hD hS 3 1 rfl rfl hi27 dX12_looks_186 (fun H locs hP hD hS => ?_)
        have hP : va_P G.1 vwCl [o12 h x_thrown a_s a_image x_hasImage x_act x_spot x_end x_isWrong x_open a_by a_truths x_turn x_lean x_last x_angle x_asLay x_ticks a_bodies x_ran x_kind x_number x_tellsV, aI G a_by 5 f_by, aI G a_s 1394 f_s, aZ G a_truths 64 (upd f_truths s1.toNatClampNeg (vp_nar .boolean s2))] H := hP
        have hD : va_D A [o12 h x_thrown a_s a_image x_hasImage x_act x_spot x_end x_isWrong x_open a_by a_truths x_turn x_lean x_last x_angle x_asLay x_ticks a_bodies x_ran x_kind x_number x_tellsV, aI G a_by 5 f_by, aI G a_s 1394 f_s, aZ G a_truths 64 (upd f_truths s1.toNatClampNeg (vp_nar .boolean s2))] := hD
        refine lv_goto (tgt := 379) hx hb dX12_looks_187 (by decide) ?_
        refine lv_iinc (v := l4 + 1) (lv' := [(4, .int (l4 + 1)), (0, .ref h), (1, .int l1), (2, .int l2), (3, .int l3)]) hx hb dX12_looks_379 hl (k := 4) rfl rfl (by decide) rfl (fun ls hl => ?_)
        refine lv_goto (tgt := 25) hx hb dX12_looks_382 (by decide) ?_
        exact ih _ _ _ _ _ _ H locs ls hP hD hS (lv_sub hl [1, 2, 3, 4, 0] rfl) hF
      have B150 : ∀ (x_turn : Int32) (x_lean : Int32) (f_truths : Nat → Int32) (l2 : Int32) (l3 : Int32) (l4 : Int32) (s1 : Int32) (s2 : Int32) (H : Heap) (locs : List Loc) (ls : Array Slot), va_P G.1 vwCl [o12 h x_thrown a_s a_image x_hasImage x_act x_spot x_end x_isWrong x_open a_by a_truths x_turn x_lean x_last x_angle x_asLay x_ticks a_bodies x_ran x_kind x_number x_tellsV, aI G a_by 5 f_by, aI G a_s 1394 f_s, aZ G a_truths 64 f_truths] H → va_D A [o12 h x_thrown a_s a_image x_hasImage x_act x_spot x_end x_isWrong x_open a_by a_truths x_turn x_lean x_last x_angle x_asLay x_ticks a_bodies x_ran x_kind x_number x_tellsV, aI G a_by 5 f_by, aI G a_s 1394 f_s, aZ G a_truths 64 f_truths] → va_S A s.heap H locs → lv_has ls 9 [(0, .ref h), (1, .int l1), (2, .int l2), (3, .int l3), (4, .int l4)] → fX12_looks_b150 (fX12_looks_L25 k385 f_by f_s l1 n) k385 x_turn x_lean f_by f_s f_truths l1 l2 l3 l4 s1 s2 = some (z_x_turn, z_x_lean, z_f_truths) → W p l e (rm_X12_looks) s m args below meth c H locs 0 0 (MQ below (QV G [o12 h x_thrown a_s a_image x_hasImage x_act x_spot x_end x_isWrong x_open a_by a_truths z_x_turn z_x_lean x_last x_angle x_asLay x_ticks a_bodies x_ran x_kind x_number x_tellsV, aI G a_by 5 f_by, aI G a_s 1394 f_s, aZ G a_truths 64 z_f_truths] A) args s 0 0 A) (F0 m 150 ls [.int s2, .int s1, .ref a_truths]) := by
        intro x_turn x_lean f_truths l2 l3 l4 s1 s2 H locs ls hP hD hS hl hF
        unfold fX12_looks_b150 at hF
        obtain ⟨hi32, hF⟩ := ck_some hF
        refine va_zast (D := G.1) hx hb hK hP hD hS 3 1 rfl rfl hi32 dX12_looks_150 (fun H locs hP hD hS => ?_)
        have hP : va_P G.1 vwCl [o12 h x_thrown a_s a_image x_hasImage x_act x_spot x_end x_isWrong x_open a_by a_truths x_turn x_lean x_last x_angle x_asLay x_ticks a_bodies x_ran x_kind x_number x_tellsV, aI G a_by 5 f_by, aI G a_s 1394 f_s, aZ G a_truths 64 (upd f_truths s1.toNatClampNeg (vp_nar .boolean s2))] H := hP
        have hD : va_D A [o12 h x_thrown a_s a_image x_hasImage x_act x_spot x_end x_isWrong x_open a_by a_truths x_turn x_lean x_last x_angle x_asLay x_ticks a_bodies x_ran x_kind x_number x_tellsV, aI G a_by 5 f_by, aI G a_s 1394 f_s, aZ G a_truths 64 (upd f_truths s1.toNatClampNeg (vp_nar .boolean s2))] := hD
        refine lv_iinc (v := l3 + 1) (lv' := [(3, .int (l3 + 1)), (0, .ref h), (1, .int l1), (2, .int l2), (4, .int l4)]) hx hb dX12_looks_151 hl (k := 3) rfl rfl (by decide) rfl (fun ls hl => ?_)
        refine lv_goto (tgt := 379) hx hb dX12_looks_154 (by decide) ?_
        refine lv_iinc (v := l4 + 1) (lv' := [(4, .int (l4 + 1)), (3, .int (l3 + 1)), (0, .ref h), (1, .int l1), (2, .int l2)]) hx hb dX12_looks_379 hl (k := 4) rfl rfl (by decide) rfl (fun ls hl => ?_)
        refine lv_goto (tgt := 25) hx hb dX12_looks_382 (by decide) ?_
        exact ih _ _ _ _ _ _ H locs ls hP hD hS (lv_sub hl [2, 3, 4, 1, 0] rfl) hF
      intro x_turn x_lean f_truths l2 l3 l4 H locs ls hP hD hS hl hF
      rw [fX12_looks_L25] at hF
      refine lv_iload hx hb dX12_looks_25 (lv_at hl 4 rfl) ?_
      refine lv_sipush (v := 258) hx hb dX12_looks_27 (by decide) ?_
      refine lv_sipush (v := 140) hx hb dX12_looks_30 (by decide) ?_
      refine lv_iload_n hx hb dX12_looks_33 rfl (lv_at hl 1 rfl) ?_
      refine lv_imul hx hb dX12_looks_34 ?_
      refine lv_iadd hx hb dX12_looks_35 ?_
      refine lv_aload_n hx hb dX12_looks_36 rfl (lv_at hl 0 rfl) ?_
      refine va_get (D := G.1) (ci := 12) (v := .ref a_s) (C := RX12) (T := TX12) (N := 22) hx hb hts hin12 hown hK hP 0 rfl rfl 1 (by decide) lk_9 (fun _ h9 => h9) rfl dX12_looks_37 ?_
      refine lv_sipush (v := 250) hx hb dX12_looks_40 (by decide) ?_
      refine lv_iload_n hx hb dX12_looks_43 rfl (lv_at hl 1 rfl) ?_
      refine lv_iadd hx hb dX12_looks_44 ?_
      obtain ⟨hi1, hF⟩ := ck_some hF
      refine va_iald (D := G.1) hx hb hK hP 2 0 rfl rfl hi1 dX12_looks_45 ?_
      refine lv_iadd hx hb dX12_looks_46 ?_
      refine W.eq (g2 := F0 m 47 ls [.int ((258 + (140 * l1)) + (f_s (250 + l1).toNatClampNeg)), .int l4]) rfl ?_
      refine lv_icmp_ge (tgt := 385) hx hb dX12_looks_47 (by decide) (fun c2 => ?_) (fun c2 => ?_)
      · rw [if_pos c2] at hF
        exact hk385 _ _ _ _ H locs ls hP hD hS (lv_sub hl [0, 2] rfl) hF
      rw [if_neg c2] at hF
      refine lv_aload_n hx hb dX12_looks_50 rfl (lv_at hl 0 rfl) ?_
      refine va_get (D := G.1) (ci := 12) (v := .ref a_s) (C := RX12) (T := TX12) (N := 22) hx hb hts hin12 hown hK hP 0 rfl rfl 1 (by decide) lk_9 (fun _ h9 => h9) rfl dX12_looks_51 ?_
      refine lv_iload hx hb dX12_looks_54 (lv_at hl 4 rfl) ?_
      obtain ⟨hi3, hF⟩ := ck_some hF
      refine va_iald (D := G.1) hx hb hK hP 2 0 rfl rfl hi3 dX12_looks_56 ?_
      refine lv_istore (lv' := [(5, .int (f_s l4.toNatClampNeg)), (0, .ref h), (1, .int l1), (2, .int l2), (3, .int l3), (4, .int l4)]) hx hb dX12_looks_57 hl (by decide) rfl (fun ls hl => ?_)
      refine lv_iload hx hb dX12_looks_59 (lv_at hl 0 rfl) ?_
      refine lv_if_lt (tgt := 157) hx hb dX12_looks_61 (by decide) (fun c4 => ?_) (fun c4 => ?_)
      · rw [if_pos c4] at hF
        refine lv_iload hx hb dX12_looks_157 (lv_at hl 0 rfl) ?_
        refine lv_iconst (v := (-1)) hx hb dX12_looks_159 (by decide) ?_
        refine lv_icmp_ne (tgt := 190) hx hb dX12_looks_160 (by decide) (fun c5 => ?_) (fun c5 => ?_)
        · rw [if_neg c5] at hF
          refine lv_iload hx hb dX12_looks_190 (lv_at hl 0 rfl) ?_
          refine lv_bipush (v := (-10)) hx hb dX12_looks_192 (by decide) ?_
          refine lv_icmp_le (tgt := 271) hx hb dX12_looks_194 (by decide) (fun c6 => ?_) (fun c6 => ?_)
          · rw [if_pos c6] at hF
            refine W.eq (g2 := F0 m 271 ls []) rfl ?_
            refine lv_iconst (v := 0) hx hb dX12_looks_271 (by decide) ?_
            refine lv_istore_n (lv' := [(3, .int 0), (5, .int (f_s l4.toNatClampNeg)), (0, .ref h), (1, .int l1), (2, .int l2), (4, .int l4)]) hx hb dX12_looks_272 rfl hl (by decide) rfl (fun ls hl => ?_)
            refine lv_iload_n hx hb dX12_looks_273 rfl (lv_at hl 4 rfl) ?_
            refine lv_if_ne (tgt := 294) hx hb dX12_looks_274 (by decide) (fun c7 => ?_) (fun c7 => ?_)
            · rw [if_neg c7] at hF
              exact B294 _ _ _ _ _ _ H locs ls hP hD hS (lv_sub hl [2, 3, 0, 5, 1] rfl) hF
            rw [if_pos c7] at hF
            refine lv_iload hx hb dX12_looks_277 (lv_at hl 1 rfl) ?_
            refine lv_sipush (v := (-400)) hx hb dX12_looks_279 (by decide) ?_
            refine lv_icmp_ne (tgt := 298) hx hb dX12_looks_282 (by decide) (fun c13 => ?_) (fun c13 => ?_)
            · rw [if_neg c13] at hF
              exact B298 _ _ _ _ _ _ H locs ls hP hD hS (lv_sub hl [2, 3, 0, 5, 1] rfl) hF
            rw [if_pos c13] at hF
            refine lv_aload_n hx hb dX12_looks_285 rfl (lv_at hl 2 rfl) ?_
            refine va_get (D := G.1) (ci := 12) (v := .ref a_truths) (C := RX12) (T := TX12) (N := 22) hx hb hts hin12 hown hK hP 0 rfl rfl 10 (by decide) lk_21 (fun _ h9 => h9) rfl dX12_looks_286 ?_
            refine lv_iconst (v := 0) hx hb dX12_looks_289 (by decide) ?_
            refine va_zald (D := G.1) hx hb hK hP 3 1 rfl rfl (by unfold vp_in; decide) dX12_looks_290 ?_
            refine lv_eqi (y := f_truths 0) rfl ?_
            refine lv_if_eq (tgt := 298) hx hb dX12_looks_291 (by decide) (fun c14 => ?_) (fun c14 => ?_)
            · rw [if_pos c14] at hF
              exact B298 _ _ _ _ _ _ H locs ls hP hD hS (lv_sub hl [2, 3, 0, 5, 1] rfl) hF
            rw [if_neg c14] at hF
            exact B294 _ _ _ _ _ _ H locs ls hP hD hS (lv_sub hl [2, 3, 0, 5, 1] rfl) hF
          rw [if_neg c6] at hF
          refine W.eq (g2 := F0 m 197 ls []) rfl ?_
          refine lv_iinc (v := l3 + (-1)) (lv' := [(3, .int (l3 + (-1))), (5, .int (f_s l4.toNatClampNeg)), (0, .ref h), (1, .int l1), (2, .int l2), (4, .int l4)]) hx hb dX12_looks_197 hl (k := 4) rfl rfl (by decide) rfl (fun ls hl => ?_)
          refine lv_aload_n hx hb dX12_looks_200 rfl (lv_at hl 2 rfl) ?_
          refine va_get (D := G.1) (ci := 12) (v := .ref a_truths) (C := RX12) (T := TX12) (N := 22) hx hb hts hin12 hown hK hP 0 rfl rfl 10 (by decide) lk_21 (fun _ h9 => h9) rfl dX12_looks_201 ?_
          refine lv_iload_n hx hb dX12_looks_204 rfl (lv_at hl 0 rfl) ?_
          refine lv_iconst (v := 1) hx hb dX12_looks_205 (by decide) ?_
          refine lv_isub hx hb dX12_looks_206 ?_
          refine lv_iload hx hb dX12_looks_207 (lv_at hl 1 rfl) ?_
          refine lv_bipush (v := (-2)) hx hb dX12_looks_209 (by decide) ?_
          refine lv_icmp_ne (tgt := 242) hx hb dX12_looks_211 (by decide) (fun c15 => ?_) (fun c15 => ?_)
          · rw [if_neg c15] at hF
            refine lv_aload_n hx hb dX12_looks_242 rfl (lv_at hl 2 rfl) ?_
            refine va_get (D := G.1) (ci := 12) (v := .ref a_truths) (C := RX12) (T := TX12) (N := 22) hx hb hts hin12 hown hK hP 0 rfl rfl 10 (by decide) lk_21 (fun _ h9 => h9) rfl dX12_looks_243 ?_
            refine lv_iload_n hx hb dX12_looks_246 rfl (lv_at hl 0 rfl) ?_
            refine lv_iconst (v := 1) hx hb dX12_looks_247 (by decide) ?_
            refine lv_isub hx hb dX12_looks_248 ?_
            refine W.eq (g2 := F0 m 249 ls [.int ((l3 + (-1)) - 1), .ref a_truths, .int ((l3 + (-1)) - 1), .ref a_truths]) rfl ?_
            obtain ⟨hi16, hF⟩ := ck_some hF
            refine va_zald (D := G.1) hx hb hK hP 3 1 rfl rfl hi16 dX12_looks_249 ?_
            refine lv_if_ne (tgt := 262) hx hb dX12_looks_250 (by decide) (fun c17 => ?_) (fun c17 => ?_)
            · rw [if_neg c17] at hF
              exact B262 _ _ _ _ _ _ _ H locs ls hP hD hS (lv_sub hl [2, 3, 4, 0, 5] rfl) hF
            rw [if_pos c17] at hF
            refine lv_aload_n hx hb dX12_looks_253 rfl (lv_at hl 2 rfl) ?_
            refine va_get (D := G.1) (ci := 12) (v := .ref a_truths) (C := RX12) (T := TX12) (N := 22) hx hb hts hin12 hown hK hP 0 rfl rfl 10 (by decide) lk_21 (fun _ h9 => h9) rfl dX12_looks_254 ?_
            refine lv_iload_n hx hb dX12_looks_257 rfl (lv_at hl 0 rfl) ?_
            obtain ⟨hi19, hF⟩ := ck_some hF
            refine va_zald (D := G.1) hx hb hK hP 3 1 rfl rfl hi19 dX12_looks_258 ?_
            refine lv_if_eq (tgt := 266) hx hb dX12_looks_259 (by decide) (fun c20 => ?_) (fun c20 => ?_)
            · rw [if_pos c20] at hF
              refine lv_iconst (v := 0) hx hb dX12_looks_266 (by decide) ?_
              exact B267 _ _ _ _ _ _ _ _ H locs ls hP hD hS (lv_sub hl [2, 3, 4, 0, 5] rfl) hF
            rw [if_neg c20] at hF
            exact B262 _ _ _ _ _ _ _ H locs ls hP hD hS (lv_sub hl [2, 3, 4, 0, 5] rfl) hF
          rw [if_pos c15] at hF
          refine lv_aload_n hx hb dX12_looks_214 rfl (lv_at hl 2 rfl) ?_
          refine va_get (D := G.1) (ci := 12) (v := .ref a_truths) (C := RX12) (T := TX12) (N := 22) hx hb hts hin12 hown hK hP 0 rfl rfl 10 (by decide) lk_21 (fun _ h9 => h9) rfl dX12_looks_215 ?_
          refine lv_iload_n hx hb dX12_looks_218 rfl (lv_at hl 0 rfl) ?_
          refine lv_iconst (v := 1) hx hb dX12_looks_219 (by decide) ?_
          refine lv_isub hx hb dX12_looks_220 ?_
          refine W.eq (g2 := F0 m 221 ls [.int ((l3 + (-1)) - 1), .ref a_truths, .int ((l3 + (-1)) - 1), .ref a_truths]) rfl ?_
          obtain ⟨hi21, hF⟩ := ck_some hF
          refine va_zald (D := G.1) hx hb hK hP 3 1 rfl rfl hi21 dX12_looks_221 ?_
          refine lv_if_eq (tgt := 238) hx hb dX12_looks_222 (by decide) (fun c22 => ?_) (fun c22 => ?_)
          · rw [if_pos c22] at hF
            exact B238 _ _ _ _ _ _ _ H locs ls hP hD hS (lv_sub hl [2, 3, 4, 0, 5] rfl) hF
          rw [if_neg c22] at hF
          refine lv_aload_n hx hb dX12_looks_225 rfl (lv_at hl 2 rfl) ?_
          refine va_get (D := G.1) (ci := 12) (v := .ref a_truths) (C := RX12) (T := TX12) (N := 22) hx hb hts hin12 hown hK hP 0 rfl rfl 10 (by decide) lk_21 (fun _ h9 => h9) rfl dX12_looks_226 ?_
          refine lv_iload_n hx hb dX12_looks_229 rfl (lv_at hl 0 rfl) ?_
          obtain ⟨hi23, hF⟩ := ck_some hF
          refine va_zald (D := G.1) hx hb hK hP 3 1 rfl rfl hi23 dX12_looks_230 ?_
          refine lv_if_eq (tgt := 238) hx hb dX12_looks_231 (by decide) (fun c24 => ?_) (fun c24 => ?_)
          · rw [if_pos c24] at hF
            exact B238 _ _ _ _ _ _ _ H locs ls hP hD hS (lv_sub hl [2, 3, 4, 0, 5] rfl) hF
          rw [if_neg c24] at hF
          refine lv_iconst (v := 1) hx hb dX12_looks_234 (by decide) ?_
          refine lv_goto (tgt := 267) hx hb dX12_looks_235 (by decide) ?_
          exact B267 _ _ _ _ _ _ _ _ H locs ls hP hD hS (lv_sub hl [2, 3, 4, 0, 5] rfl) hF
        rw [if_pos c5] at hF
        refine lv_aload_n hx hb dX12_looks_163 rfl (lv_at hl 1 rfl) ?_
        refine va_get (D := G.1) (ci := 12) (v := .ref a_truths) (C := RX12) (T := TX12) (N := 22) hx hb hts hin12 hown hK hP 0 rfl rfl 10 (by decide) lk_21 (fun _ h9 => h9) rfl dX12_looks_164 ?_
        refine lv_iload_n hx hb dX12_looks_167 rfl (lv_at hl 4 rfl) ?_
        refine W.eq (g2 := F0 m 168 ls [.int l3, .ref a_truths]) rfl ?_
        refine lv_iconst (v := 1) hx hb dX12_looks_168 (by decide) ?_
        refine lv_isub hx hb dX12_looks_169 ?_
        refine lv_aload_n hx hb dX12_looks_170 rfl (lv_at hl 1 rfl) ?_
        refine va_get (D := G.1) (ci := 12) (v := .ref a_truths) (C := RX12) (T := TX12) (N := 22) hx hb hts hin12 hown hK hP 0 rfl rfl 10 (by decide) lk_21 (fun _ h9 => h9) rfl dX12_looks_171 ?_
        refine lv_iload_n hx hb dX12_looks_174 rfl (lv_at hl 4 rfl) ?_
        refine lv_iconst (v := 1) hx hb dX12_looks_175 (by decide) ?_
        refine lv_isub hx hb dX12_looks_176 ?_
        obtain ⟨hi25, hF⟩ := ck_some hF
        refine va_zald (D := G.1) hx hb hK hP 3 1 rfl rfl hi25 dX12_looks_177 ?_
        refine lv_if_ne (tgt := 185) hx hb dX12_looks_178 (by decide) (fun c26 => ?_) (fun c26 => ?_)
        · rw [if_neg c26] at hF
          refine lv_iconst (v := 0) hx hb dX12_looks_185 (by decide) ?_
          exact B186 _ _ _ _ _ _ _ _ H locs ls hP hD hS (lv_sub hl [1, 2, 3, 4, 5] rfl) hF
        rw [if_pos c26] at hF
        refine lv_iconst (v := 1) hx hb dX12_looks_181 (by decide) ?_
        refine lv_goto (tgt := 186) hx hb dX12_looks_182 (by decide) ?_
        exact B186 _ _ _ _ _ _ _ _ H locs ls hP hD hS (lv_sub hl [1, 2, 3, 4, 5] rfl) hF
      rw [if_neg c4] at hF
      refine lv_aload_n hx hb dX12_looks_64 rfl (lv_at hl 1 rfl) ?_
      refine va_get (D := G.1) (ci := 12) (v := .ref a_by) (C := RX12) (T := TX12) (N := 22) hx hb hts hin12 hown hK hP 0 rfl rfl 9 (by decide) lk_18 (fun _ h9 => h9) rfl dX12_looks_65 ?_
      refine lv_iload hx hb dX12_looks_68 (lv_at hl 0 rfl) ?_
      refine lv_bipush (v := 8) hx hb dX12_looks_70 (by decide) ?_
      refine lv_irem hx hb dX12_looks_72 (by decide) ?_
      obtain ⟨hi28, hF⟩ := ck_some hF
      refine va_iald (D := G.1) hx hb hK hP 1 0 rfl rfl hi28 dX12_looks_73 ?_
      refine W.eq (g2 := F0 m 74 ls [.int (f_by ((f_s l4.toNatClampNeg) - (f_s l4.toNatClampNeg) / 8 * 8).toNatClampNeg)]) rfl ?_
      refine lv_istore (lv' := [(6, .int (f_by ((f_s l4.toNatClampNeg) - (f_s l4.toNatClampNeg) / 8 * 8).toNatClampNeg)), (5, .int (f_s l4.toNatClampNeg)), (0, .ref h), (1, .int l1), (2, .int l2), (3, .int l3), (4, .int l4)]) hx hb dX12_looks_74 hl (by decide) rfl (fun ls hl => ?_)
      refine lv_iload hx hb dX12_looks_76 (lv_at hl 1 rfl) ?_
      refine lv_bipush (v := 8) hx hb dX12_looks_78 (by decide) ?_
      refine lv_idiv hx hb dX12_looks_80 (by decide) ?_
      refine lv_iconst (v := 4) hx hb dX12_looks_81 (by decide) ?_
      refine lv_irem hx hb dX12_looks_82 (by decide) ?_
      refine lv_istore (lv' := [(7, .int (((f_s l4.toNatClampNeg) / 8) - ((f_s l4.toNatClampNeg) / 8) / 4 * 4)), (6, .int (f_by ((f_s l4.toNatClampNeg) - (f_s l4.toNatClampNeg) / 8 * 8).toNatClampNeg)), (5, .int (f_s l4.toNatClampNeg)), (0, .ref h), (1, .int l1), (2, .int l2), (3, .int l3), (4, .int l4)]) hx hb dX12_looks_83 hl (by decide) rfl (fun ls hl => ?_)
      refine lv_iload hx hb dX12_looks_85 (lv_at hl 2 rfl) ?_
      refine lv_bipush (v := 32) hx hb dX12_looks_87 (by decide) ?_
      refine lv_idiv hx hb dX12_looks_89 (by decide) ?_
      refine lv_istore (lv' := [(8, .int ((f_s l4.toNatClampNeg) / 32)), (7, .int (((f_s l4.toNatClampNeg) / 8) - ((f_s l4.toNatClampNeg) / 8) / 4 * 4)), (6, .int (f_by ((f_s l4.toNatClampNeg) - (f_s l4.toNatClampNeg) / 8 * 8).toNatClampNeg)), (5, .int (f_s l4.toNatClampNeg)), (0, .ref h), (1, .int l1), (2, .int l2), (3, .int l3), (4, .int l4)]) hx hb dX12_looks_90 hl (by decide) rfl (fun ls hl => ?_)
      refine lv_aload_n hx hb dX12_looks_92 rfl (lv_at hl 4 rfl) ?_
      refine va_get (D := G.1) (ci := 12) (v := .ref a_truths) (C := RX12) (T := TX12) (N := 22) hx hb hts hin12 hown hK hP 0 rfl rfl 10 (by decide) lk_21 (fun _ h9 => h9) rfl dX12_looks_93 ?_
      refine lv_iload_n hx hb dX12_looks_96 rfl (lv_at hl 7 rfl) ?_
      refine W.eq (g2 := F0 m 97 ls [.int l3, .ref a_truths]) rfl ?_
      refine lv_iload hx hb dX12_looks_97 (lv_at hl 1 rfl) ?_
      refine lv_if_ne (tgt := 117) hx hb dX12_looks_99 (by decide) (fun c29 => ?_) (fun c29 => ?_)
      · rw [if_neg c29] at hF
        refine lv_iload hx hb dX12_looks_117 (lv_at hl 1 rfl) ?_
        refine lv_iconst (v := 1) hx hb dX12_looks_119 (by decide) ?_
        refine lv_icmp_ne (tgt := 138) hx hb dX12_looks_120 (by decide) (fun c30 => ?_) (fun c30 => ?_)
        · rw [if_neg c30] at hF
          refine lv_iload hx hb dX12_looks_138 (lv_at hl 2 rfl) ?_
          refine lv_iload hx hb dX12_looks_140 (lv_at hl 0 rfl) ?_
          refine lv_icmp_le (tgt := 149) hx hb dX12_looks_142 (by decide) (fun c31 => ?_) (fun c31 => ?_)
          · rw [if_pos c31] at hF
            refine lv_iconst (v := 0) hx hb dX12_looks_149 (by decide) ?_
            exact B150 _ _ _ _ _ _ _ _ H locs ls hP hD hS (lv_sub hl [4, 5, 6, 7, 8] rfl) hF
          rw [if_neg c31] at hF
          refine lv_iconst (v := 1) hx hb dX12_looks_145 (by decide) ?_
          refine lv_goto (tgt := 150) hx hb dX12_looks_146 (by decide) ?_
          exact B150 _ _ _ _ _ _ _ _ H locs ls hP hD hS (lv_sub hl [4, 5, 6, 7, 8] rfl) hF
        rw [if_pos c30] at hF
        refine lv_iload hx hb dX12_looks_123 (lv_at hl 2 rfl) ?_
        refine lv_iload hx hb dX12_looks_125 (lv_at hl 0 rfl) ?_
        refine lv_icmp_ne (tgt := 134) hx hb dX12_looks_127 (by decide) (fun c33 => ?_) (fun c33 => ?_)
        · rw [if_neg c33] at hF
          refine lv_iconst (v := 0) hx hb dX12_looks_134 (by decide) ?_
          refine lv_goto (tgt := 150) hx hb dX12_looks_135 (by decide) ?_
          exact B150 _ _ _ _ _ _ _ _ H locs ls hP hD hS (lv_sub hl [4, 5, 6, 7, 8] rfl) hF
        rw [if_pos c33] at hF
        refine lv_iconst (v := 1) hx hb dX12_looks_130 (by decide) ?_
        refine lv_goto (tgt := 150) hx hb dX12_looks_131 (by decide) ?_
        exact B150 _ _ _ _ _ _ _ _ H locs ls hP hD hS (lv_sub hl [4, 5, 6, 7, 8] rfl) hF
      rw [if_pos c29] at hF
      refine lv_iload hx hb dX12_looks_102 (lv_at hl 2 rfl) ?_
      refine lv_iload hx hb dX12_looks_104 (lv_at hl 0 rfl) ?_
      refine lv_icmp_ge (tgt := 113) hx hb dX12_looks_106 (by decide) (fun c34 => ?_) (fun c34 => ?_)
      · rw [if_pos c34] at hF
        refine lv_iconst (v := 0) hx hb dX12_looks_113 (by decide) ?_
        refine lv_goto (tgt := 150) hx hb dX12_looks_114 (by decide) ?_
        exact B150 _ _ _ _ _ _ _ _ H locs ls hP hD hS (lv_sub hl [4, 5, 6, 7, 8] rfl) hF
      rw [if_neg c34] at hF
      refine lv_iconst (v := 1) hx hb dX12_looks_109 (by decide) ?_
      refine lv_goto (tgt := 150) hx hb dX12_looks_110 (by decide) ?_
      exact B150 _ _ _ _ _ _ _ _ H locs ls hP hD hS (lv_sub hl [4, 5, 6, 7, 8] rfl) hF
  have B398 : ∀ (x_turn : Int32) (x_lean : Int32) (f_truths : Nat → Int32) (s1 : Int32) (H : Heap) (locs : List Loc) (ls : Array Slot), va_P G.1 vwCl [o12 h x_thrown a_s a_image x_hasImage x_act x_spot x_end x_isWrong x_open a_by a_truths x_turn x_lean x_last x_angle x_asLay x_ticks a_bodies x_ran x_kind x_number x_tellsV, aI G a_by 5 f_by, aI G a_s 1394 f_s, aZ G a_truths 64 f_truths] H → va_D A [o12 h x_thrown a_s a_image x_hasImage x_act x_spot x_end x_isWrong x_open a_by a_truths x_turn x_lean x_last x_angle x_asLay x_ticks a_bodies x_ran x_kind x_number x_tellsV, aI G a_by 5 f_by, aI G a_s 1394 f_s, aZ G a_truths 64 f_truths] → va_S A s.heap H locs → lv_has ls 9 [(0, .ref h)] → fX12_looks_b398 x_turn x_lean f_by f_s f_truths s1 = some (z_x_turn, z_x_lean, z_f_truths) → W p l e (rm_X12_looks) s m args below meth c H locs 0 0 (MQ below (QV G [o12 h x_thrown a_s a_image x_hasImage x_act x_spot x_end x_isWrong x_open a_by a_truths z_x_turn z_x_lean x_last x_angle x_asLay x_ticks a_bodies x_ran x_kind x_number x_tellsV, aI G a_by 5 f_by, aI G a_s 1394 f_s, aZ G a_truths 64 z_f_truths] A) args s 0 0 A) (F0 m 398 ls [.int s1, .ref h]) := by
    intro x_turn x_lean f_truths s1 H locs ls hP hD hS hl hF
    unfold fX12_looks_b398 at hF
    refine va_put (D := G.1) (ci := 12) (v := .int s1) (ty := .int) (C := RX12) (T := TX12) (N := 22) hx hb hts hin12 tyX12 tyX12_ok nmX12 hown hK hP hD hS 0 rfl rfl 11 (by decide) lk_131 (fun _ h9 => h9) rfl (tyX12_ok 11 (by decide)) rfl rfl (Nat.le_of_ble_eq_true rfl) dX12_looks_398 (fun H locs hP hD hS => ?_)
    have hP : va_P G.1 vwCl [o12 h x_thrown a_s a_image x_hasImage x_act x_spot x_end x_isWrong x_open a_by a_truths s1 x_lean x_last x_angle x_asLay x_ticks a_bodies x_ran x_kind x_number x_tellsV, aI G a_by 5 f_by, aI G a_s 1394 f_s, aZ G a_truths 64 f_truths] H := hP
    have hD : va_D A [o12 h x_thrown a_s a_image x_hasImage x_act x_spot x_end x_isWrong x_open a_by a_truths s1 x_lean x_last x_angle x_asLay x_ticks a_bodies x_ran x_kind x_number x_tellsV, aI G a_by 5 f_by, aI G a_s 1394 f_s, aZ G a_truths 64 f_truths] := hD
    refine lv_aload_n hx hb dX12_looks_401 rfl (lv_at hl 0 rfl) ?_
    refine lv_aload_n hx hb dX12_looks_402 rfl (lv_at hl 0 rfl) ?_
    refine va_get (D := G.1) (ci := 12) (v := .int x_lean) (C := RX12) (T := TX12) (N := 22) hx hb hts hin12 hown hK hP 0 rfl rfl 12 (by decide) lk_134 (fun _ h9 => h9) rfl dX12_looks_403 ?_
    refine lv_bipush (v := 49) hx hb dX12_looks_406 (by decide) ?_
    refine lv_icmp_le (tgt := 416) hx hb dX12_looks_408 (by decide) (fun c40 => ?_) (fun c40 => ?_)
    · rw [if_pos c40] at hF
      refine lv_aload_n hx hb dX12_looks_416 rfl (lv_at hl 0 rfl) ?_
      refine va_get (D := G.1) (ci := 12) (v := .int x_lean) (C := RX12) (T := TX12) (N := 22) hx hb hts hin12 hown hK hP 0 rfl rfl 12 (by decide) lk_134 (fun _ h9 => h9) rfl dX12_looks_417 ?_
      refine va_put (D := G.1) (ci := 12) (v := .int x_lean) (ty := .int) (C := RX12) (T := TX12) (N := 22) hx hb hts hin12 tyX12 tyX12_ok nmX12 hown hK hP hD hS 0 rfl rfl 12 (by decide) lk_134 (fun _ h9 => h9) rfl (tyX12_ok 12 (by decide)) rfl rfl (Nat.le_of_ble_eq_true rfl) dX12_looks_420 (fun H locs hP hD hS => ?_)
      have hP : va_P G.1 vwCl [o12 h x_thrown a_s a_image x_hasImage x_act x_spot x_end x_isWrong x_open a_by a_truths s1 x_lean x_last x_angle x_asLay x_ticks a_bodies x_ran x_kind x_number x_tellsV, aI G a_by 5 f_by, aI G a_s 1394 f_s, aZ G a_truths 64 f_truths] H := hP
      have hD : va_D A [o12 h x_thrown a_s a_image x_hasImage x_act x_spot x_end x_isWrong x_open a_by a_truths s1 x_lean x_last x_angle x_asLay x_ticks a_bodies x_ran x_kind x_number x_tellsV, aI G a_by 5 f_by, aI G a_s 1394 f_s, aZ G a_truths 64 f_truths] := hD
      injection hF with hz
      injection hz with hq0 hz
      injection hz with hq1 hz
      subst hq0
      subst hq1
      subst hz
      exact cm_retv hx hb hr hlk hK hP hD hS dX12_looks_423
    rw [if_neg c40] at hF
    refine lv_bipush (v := 49) hx hb dX12_looks_411 (by decide) ?_
    refine lv_goto (tgt := 420) hx hb dX12_looks_413 (by decide) ?_
    refine va_put (D := G.1) (ci := 12) (v := .int 49) (ty := .int) (C := RX12) (T := TX12) (N := 22) hx hb hts hin12 tyX12 tyX12_ok nmX12 hown hK hP hD hS 0 rfl rfl 12 (by decide) lk_134 (fun _ h9 => h9) rfl (tyX12_ok 12 (by decide)) rfl rfl (Nat.le_of_ble_eq_true rfl) dX12_looks_420 (fun H locs hP hD hS => ?_)
    have hP : va_P G.1 vwCl [o12 h x_thrown a_s a_image x_hasImage x_act x_spot x_end x_isWrong x_open a_by a_truths s1 49 x_last x_angle x_asLay x_ticks a_bodies x_ran x_kind x_number x_tellsV, aI G a_by 5 f_by, aI G a_s 1394 f_s, aZ G a_truths 64 f_truths] H := hP
    have hD : va_D A [o12 h x_thrown a_s a_image x_hasImage x_act x_spot x_end x_isWrong x_open a_by a_truths s1 49 x_last x_angle x_asLay x_ticks a_bodies x_ran x_kind x_number x_tellsV, aI G a_by 5 f_by, aI G a_s 1394 f_s, aZ G a_truths 64 f_truths] := hD
    injection hF with hz
    injection hz with hq0 hz
    injection hz with hq1 hz
    subst hq0
    subst hq1
    subst hz
    exact cm_retv hx hb hr hlk hK hP hD hS dX12_looks_423
  intro hF
  unfold fX12_looks at hF
  refine lv_aload_n hx hb dX12_looks_0 rfl (lv_at hl 0 rfl) ?_
  refine lv_iconst (v := 0) hx hb dX12_looks_1 (by decide) ?_
  refine va_put (D := G.1) (ci := 12) (v := .int 0) (ty := .int) (C := RX12) (T := TX12) (N := 22) hx hb hts hin12 tyX12 tyX12_ok nmX12 hown hK hP hD hS 0 rfl rfl 11 (by decide) lk_131 (fun _ h9 => h9) rfl (tyX12_ok 11 (by decide)) rfl rfl (Nat.le_of_ble_eq_true rfl) dX12_looks_2 (fun H locs hP hD hS => ?_)
  have hP : va_P G.1 vwCl [o12 h x_thrown a_s a_image x_hasImage x_act x_spot x_end x_isWrong x_open a_by a_truths 0 x_lean x_last x_angle x_asLay x_ticks a_bodies x_ran x_kind x_number x_tellsV, aI G a_by 5 f_by, aI G a_s 1394 f_s, aZ G a_truths 64 f_truths] H := hP
  have hD : va_D A [o12 h x_thrown a_s a_image x_hasImage x_act x_spot x_end x_isWrong x_open a_by a_truths 0 x_lean x_last x_angle x_asLay x_ticks a_bodies x_ran x_kind x_number x_tellsV, aI G a_by 5 f_by, aI G a_s 1394 f_s, aZ G a_truths 64 f_truths] := hD
  refine lv_aload_n hx hb dX12_looks_5 rfl (lv_at hl 0 rfl) ?_
  refine lv_iconst (v := 0) hx hb dX12_looks_6 (by decide) ?_
  refine va_put (D := G.1) (ci := 12) (v := .int 0) (ty := .int) (C := RX12) (T := TX12) (N := 22) hx hb hts hin12 tyX12 tyX12_ok nmX12 hown hK hP hD hS 0 rfl rfl 12 (by decide) lk_134 (fun _ h9 => h9) rfl (tyX12_ok 12 (by decide)) rfl rfl (Nat.le_of_ble_eq_true rfl) dX12_looks_7 (fun H locs hP hD hS => ?_)
  have hP : va_P G.1 vwCl [o12 h x_thrown a_s a_image x_hasImage x_act x_spot x_end x_isWrong x_open a_by a_truths 0 0 x_last x_angle x_asLay x_ticks a_bodies x_ran x_kind x_number x_tellsV, aI G a_by 5 f_by, aI G a_s 1394 f_s, aZ G a_truths 64 f_truths] H := hP
  have hD : va_D A [o12 h x_thrown a_s a_image x_hasImage x_act x_spot x_end x_isWrong x_open a_by a_truths 0 0 x_last x_angle x_asLay x_ticks a_bodies x_ran x_kind x_number x_tellsV, aI G a_by 5 f_by, aI G a_s 1394 f_s, aZ G a_truths 64 f_truths] := hD
  refine lv_iconst (v := 0) hx hb dX12_looks_10 (by decide) ?_
  refine lv_istore_n (lv' := [(2, .int 0), (0, .ref h), (1, .int l1)]) hx hb dX12_looks_11 rfl hl (by decide) rfl (fun ls hl => ?_)
  refine lv_iconst (v := 0) hx hb dX12_looks_12 (by decide) ?_
  refine lv_istore_n (lv' := [(3, .int 0), (2, .int 0), (0, .ref h), (1, .int l1)]) hx hb dX12_looks_13 rfl hl (by decide) rfl (fun ls hl => ?_)
  refine lv_sipush (v := 258) hx hb dX12_looks_14 (by decide) ?_
  refine lv_sipush (v := 140) hx hb dX12_looks_17 (by decide) ?_
  refine lv_iload_n hx hb dX12_looks_20 rfl (lv_at hl 3 rfl) ?_
  refine W.eq (g2 := F0 m 21 ls [.int l1, .int 140, .int 258]) rfl ?_
  refine lv_imul hx hb dX12_looks_21 ?_
  refine lv_iadd hx hb dX12_looks_22 ?_
  refine lv_istore (lv' := [(4, .int (258 + (140 * l1))), (3, .int 0), (2, .int 0), (0, .ref h), (1, .int l1)]) hx hb dX12_looks_23 hl (by decide) rfl (fun ls hl => ?_)
  refine LP25 _ _ (fun x_turn_35 x_lean_36 f_truths_37 l2_38 H locs ls hP hD hS hl hF => ?_) _ _ _ _ _ _ _ H locs ls hP hD hS (lv_sub hl [3, 4, 2, 1, 0] rfl) hF
  refine lv_aload_n hx hb dX12_looks_385 rfl (lv_at hl 0 rfl) ?_
  refine lv_iload_n hx hb dX12_looks_386 rfl (lv_at hl 1 rfl) ?_
  refine lv_if_eq (tgt := 394) hx hb dX12_looks_387 (by decide) (fun c39 => ?_) (fun c39 => ?_)
  · rw [if_pos c39] at hF
    refine lv_aload_n hx hb dX12_looks_394 rfl (lv_at hl 0 rfl) ?_
    refine va_get (D := G.1) (ci := 12) (v := .int x_turn_35) (C := RX12) (T := TX12) (N := 22) hx hb hts hin12 hown hK hP 0 rfl rfl 11 (by decide) lk_131 (fun _ h9 => h9) rfl dX12_looks_395 ?_
    exact B398 _ _ _ _ H locs ls hP hD hS (lv_sub hl [0] rfl) hF
  rw [if_neg c39] at hF
  refine lv_iconst (v := 0) hx hb dX12_looks_390 (by decide) ?_
  refine lv_goto (tgt := 398) hx hb dX12_looks_391 (by decide) ?_
  exact B398 _ _ _ _ H locs ls hP hD hS (lv_sub hl [0] rfl) hF

/-! HeadsByHairModel.sideAt(IIIZ)I -/
abbrev rm_X12_sideAt : Room := { frames := 0, cells := 0, slots := 0, locals := 0 }
set_option maxHeartbeats 4000000 in
set_option maxRecDepth 100000 in
theorem c_X12_sideAt (l : Launch) (G : GG) (h a_s a_image a_by a_truths a_bodies : Nat) (x_thrown x_hasImage x_act x_spot x_end x_isWrong x_open x_turn x_lean x_last x_angle x_asLay x_ticks x_ran x_kind x_number x_tellsV : Int32) (f_s : Nat → Int32) (l1 : Int32) (l2 : Int32) (l3 : Int32) (l4 : Int32) (z : Int32) (hF : fX12_sideAt x_lean x_angle f_s l1 l2 l3 l4 = some (z)) : CMi l yX12_sideAt wsX12_sideAt rm_X12_sideAt G [o12 h x_thrown a_s a_image x_hasImage x_act x_spot x_end x_isWrong x_open a_by a_truths x_turn x_lean x_last x_angle x_asLay x_ticks a_bodies x_ran x_kind x_number x_tellsV, aI G a_s 1394 f_s] [o12 h x_thrown a_s a_image x_hasImage x_act x_spot x_end x_isWrong x_open a_by a_truths x_turn x_lean x_last x_angle x_asLay x_ticks a_bodies x_ran x_kind x_number x_tellsV, aI G a_s 1394 f_s] [.ref h, .int l1, .int l2, .int l3, .int l4] z := by
  refine cm_start (cc := cX12_sideAt) (maxL := 9) (ret := (some .int)) (Qc := fun A => QI G [o12 h x_thrown a_s a_image x_hasImage x_act x_spot x_end x_isWrong x_open a_by a_truths x_turn x_lean x_last x_angle x_asLay x_ticks a_bodies x_ran x_kind x_number x_tellsV, aI G a_s 1394 f_s] z A) (by decide +kernel) rfl (Nat.le_of_ble_eq_true rfl) ?_
  intro p e s m args below meth c A hx hb hr hlk hml hown hnm hts hA H locs hP hK hD hE hS ls hl
  have hown : s.vm.findClass RX12 = some m.cls := hown
  have hl : lv_has ls 9 [(0, .ref h), (1, .int l1), (2, .int l2), (3, .int l3), (4, .int l4)] := hl
  have hin12 : ∀ w ∈ wsX120, w ∈ wsX12_sideAt := by decide +kernel
  have lk_9 := hts (.fieldLink RX12 9 "HeadsByHairModel" "s" "[I") (by decide +kernel)
  have lk_137 := hts (.fieldLink RX12 137 "HeadsByHairModel" "angle" "I") (by decide +kernel)
  have lk_134 := hts (.fieldLink RX12 134 "HeadsByHairModel" "lean" "I") (by decide +kernel)
  revert hF
  have B181 : ∀ (l6 : Int32) (s0 : Int32) (H : Heap) (locs : List Loc) (ls : Array Slot), va_P G.1 vwCl [o12 h x_thrown a_s a_image x_hasImage x_act x_spot x_end x_isWrong x_open a_by a_truths x_turn x_lean x_last x_angle x_asLay x_ticks a_bodies x_ran x_kind x_number x_tellsV, aI G a_s 1394 f_s] H → va_D A [o12 h x_thrown a_s a_image x_hasImage x_act x_spot x_end x_isWrong x_open a_by a_truths x_turn x_lean x_last x_angle x_asLay x_ticks a_bodies x_ran x_kind x_number x_tellsV, aI G a_s 1394 f_s] → va_S A s.heap H locs → lv_has ls 9 [(6, .int l6)] → fX12_sideAt_b181 x_lean x_angle f_s l6 s0 = some (z) → W p l e (rm_X12_sideAt) s m args below meth c H locs 0 0 (MQ below (QI G [o12 h x_thrown a_s a_image x_hasImage x_act x_spot x_end x_isWrong x_open a_by a_truths x_turn x_lean x_last x_angle x_asLay x_ticks a_bodies x_ran x_kind x_number x_tellsV, aI G a_s 1394 f_s] z A) args s 0 0 A) (F0 m 181 ls [.int s0]) := by
    intro l6 s0 H locs ls hP hD hS hl hF
    unfold fX12_sideAt_b181 at hF
    refine lv_istore (lv' := [(8, .int s0), (6, .int l6)]) hx hb dX12_sideAt_181 hl (by decide) rfl (fun ls hl => ?_)
    refine lv_iload hx hb dX12_sideAt_183 (lv_at hl 0 rfl) ?_
    refine lv_iconst (v := 2) hx hb dX12_sideAt_185 (by decide) ?_
    refine lv_irem hx hb dX12_sideAt_186 (by decide) ?_
    refine lv_iconst (v := 1) hx hb dX12_sideAt_187 (by decide) ?_
    refine lv_icmp_ne (tgt := 198) hx hb dX12_sideAt_188 (by decide) (fun c12 => ?_) (fun c12 => ?_)
    · rw [if_neg c12] at hF
      refine lv_iload hx hb dX12_sideAt_198 (lv_at hl 1 rfl) ?_
      injection hF with hz
      subst hz
      exact cm_reti hx hb hr rfl hlk hK hP hD hS dX12_sideAt_200
    rw [if_pos c12] at hF
    refine lv_iconst (v := 1) hx hb dX12_sideAt_191 (by decide) ?_
    refine lv_iload hx hb dX12_sideAt_192 (lv_at hl 1 rfl) ?_
    refine lv_isub hx hb dX12_sideAt_194 ?_
    refine lv_goto (tgt := 200) hx hb dX12_sideAt_195 (by decide) ?_
    injection hF with hz
    subst hz
    exact cm_reti hx hb hr rfl hlk hK hP hD hS dX12_sideAt_200
  have B176 : ∀ (l6 : Int32) (s0 : Int32) (s1 : Int32) (H : Heap) (locs : List Loc) (ls : Array Slot), va_P G.1 vwCl [o12 h x_thrown a_s a_image x_hasImage x_act x_spot x_end x_isWrong x_open a_by a_truths x_turn x_lean x_last x_angle x_asLay x_ticks a_bodies x_ran x_kind x_number x_tellsV, aI G a_s 1394 f_s] H → va_D A [o12 h x_thrown a_s a_image x_hasImage x_act x_spot x_end x_isWrong x_open a_by a_truths x_turn x_lean x_last x_angle x_asLay x_ticks a_bodies x_ran x_kind x_number x_tellsV, aI G a_s 1394 f_s] → va_S A s.heap H locs → lv_has ls 9 [(6, .int l6)] → fX12_sideAt_b176 x_lean x_angle f_s l6 s0 s1 = some (z) → W p l e (rm_X12_sideAt) s m args below meth c H locs 0 0 (MQ below (QI G [o12 h x_thrown a_s a_image x_hasImage x_act x_spot x_end x_isWrong x_open a_by a_truths x_turn x_lean x_last x_angle x_asLay x_ticks a_bodies x_ran x_kind x_number x_tellsV, aI G a_s 1394 f_s] z A) args s 0 0 A) (F0 m 176 ls [.int s1, .int s0]) := by
    intro l6 s0 s1 H locs ls hP hD hS hl hF
    unfold fX12_sideAt_b176 at hF
    refine lv_iadd hx hb dX12_sideAt_176 ?_
    refine lv_goto (tgt := 181) hx hb dX12_sideAt_177 (by decide) ?_
    exact B181 _ _ H locs ls hP hD hS (lv_sub hl [0] rfl) hF
  have B51 : ∀ (l1 : Int32) (l2 : Int32) (l3 : Int32) (l4 : Int32) (l5 : Int32) (l6 : Int32) (s0 : Int32) (H : Heap) (locs : List Loc) (ls : Array Slot), va_P G.1 vwCl [o12 h x_thrown a_s a_image x_hasImage x_act x_spot x_end x_isWrong x_open a_by a_truths x_turn x_lean x_last x_angle x_asLay x_ticks a_bodies x_ran x_kind x_number x_tellsV, aI G a_s 1394 f_s] H → va_D A [o12 h x_thrown a_s a_image x_hasImage x_act x_spot x_end x_isWrong x_open a_by a_truths x_turn x_lean x_last x_angle x_asLay x_ticks a_bodies x_ran x_kind x_number x_tellsV, aI G a_s 1394 f_s] → va_S A s.heap H locs → lv_has ls 9 [(0, .ref h), (1, .int l1), (2, .int l2), (3, .int l3), (4, .int l4), (5, .int l5), (6, .int l6)] → fX12_sideAt_b51 x_lean x_angle f_s l1 l2 l3 l4 l5 l6 s0 = some (z) → W p l e (rm_X12_sideAt) s m args below meth c H locs 0 0 (MQ below (QI G [o12 h x_thrown a_s a_image x_hasImage x_act x_spot x_end x_isWrong x_open a_by a_truths x_turn x_lean x_last x_angle x_asLay x_ticks a_bodies x_ran x_kind x_number x_tellsV, aI G a_s 1394 f_s] z A) args s 0 0 A) (F0 m 51 ls [.int s0]) := by
    intro l1 l2 l3 l4 l5 l6 s0 H locs ls hP hD hS hl hF
    unfold fX12_sideAt_b51 at hF
    refine lv_istore (lv' := [(7, .int s0), (0, .ref h), (1, .int l1), (2, .int l2), (3, .int l3), (4, .int l4), (5, .int l5), (6, .int l6)]) hx hb dX12_sideAt_51 hl (by decide) rfl (fun ls hl => ?_)
    refine lv_aload_n hx hb dX12_sideAt_53 rfl (lv_at hl 1 rfl) ?_
    refine va_get (D := G.1) (ci := 12) (v := .ref a_s) (C := RX12) (T := TX12) (N := 22) hx hb hts hin12 hown hK hP 0 rfl rfl 1 (by decide) lk_9 (fun _ h9 => h9) rfl dX12_sideAt_54 ?_
    refine lv_sipush (v := 226) hx hb dX12_sideAt_57 (by decide) ?_
    refine lv_iload_n hx hb dX12_sideAt_60 rfl (lv_at hl 2 rfl) ?_
    refine lv_iadd hx hb dX12_sideAt_61 ?_
    obtain ⟨hi4, hF⟩ := ck_some hF
    refine va_iald (D := G.1) hx hb hK hP 1 0 rfl rfl hi4 dX12_sideAt_62 ?_
    by_cases c5 : (f_s (226 + l1).toNatClampNeg) = 1
    · rw [if_pos c5] at hF
      refine lv_eqi c5 ?_
      refine lv_tableIn (tgt := 100) (off := 37) hx hb dX12_sideAt_63 (by decide) (by decide) (by decide) (by decide) ?_
      refine lv_iload hx hb dX12_sideAt_100 (lv_at hl 7 rfl) ?_
      injection hF with hz
      subst hz
      exact cm_reti hx hb hr rfl hlk hK hP hD hS dX12_sideAt_102
    rw [if_neg c5] at hF
    by_cases c6 : (f_s (226 + l1).toNatClampNeg) = 2
    · rw [if_pos c6] at hF
      refine lv_eqi c6 ?_
      refine lv_tableIn (tgt := 103) (off := 40) hx hb dX12_sideAt_63 (by decide) (by decide) (by decide) (by decide) ?_
      refine lv_iload hx hb dX12_sideAt_103 (lv_at hl 0 rfl) ?_
      injection hF with hz
      subst hz
      exact cm_reti hx hb hr rfl hlk hK hP hD hS dX12_sideAt_105
    rw [if_neg c6] at hF
    by_cases c7 : (f_s (226 + l1).toNatClampNeg) = 3
    · rw [if_pos c7] at hF
      refine lv_eqi c7 ?_
      refine lv_tableIn (tgt := 122) (off := 59) hx hb dX12_sideAt_63 (by decide) (by decide) (by decide) (by decide) ?_
      refine lv_iload hx hb dX12_sideAt_122 (lv_at hl 5 rfl) ?_
      refine lv_if_eq (tgt := 142) hx hb dX12_sideAt_124 (by decide) (fun c8 => ?_) (fun c8 => ?_)
      · rw [if_pos c8] at hF
        refine lv_iload hx hb dX12_sideAt_142 (lv_at hl 7 rfl) ?_
        injection hF with hz
        subst hz
        exact cm_reti hx hb hr rfl hlk hK hP hD hS dX12_sideAt_144
      rw [if_neg c8] at hF
      refine lv_iload hx hb dX12_sideAt_127 (lv_at hl 6 rfl) ?_
      refine lv_iconst (v := 2) hx hb dX12_sideAt_129 (by decide) ?_
      refine lv_irem hx hb dX12_sideAt_130 (by decide) ?_
      refine W.eq (g2 := F0 m 131 ls [.int (l5 - l5 / 2 * 2)]) rfl ?_
      refine lv_iconst (v := 1) hx hb dX12_sideAt_131 (by decide) ?_
      refine lv_icmp_ne (tgt := 142) hx hb dX12_sideAt_132 (by decide) (fun c9 => ?_) (fun c9 => ?_)
      · rw [if_neg c9] at hF
        refine lv_iload hx hb dX12_sideAt_142 (lv_at hl 7 rfl) ?_
        injection hF with hz
        subst hz
        exact cm_reti hx hb hr rfl hlk hK hP hD hS dX12_sideAt_144
      rw [if_pos c9] at hF
      refine lv_iconst (v := 1) hx hb dX12_sideAt_135 (by decide) ?_
      refine lv_iload hx hb dX12_sideAt_136 (lv_at hl 7 rfl) ?_
      refine lv_isub hx hb dX12_sideAt_138 ?_
      refine lv_goto (tgt := 144) hx hb dX12_sideAt_139 (by decide) ?_
      injection hF with hz
      subst hz
      exact cm_reti hx hb hr rfl hlk hK hP hD hS dX12_sideAt_144
    rw [if_neg c7] at hF
    by_cases c10 : (f_s (226 + l1).toNatClampNeg) = 4
    · rw [if_pos c10] at hF
      refine lv_eqi c10 ?_
      refine lv_tableIn (tgt := 145) (off := 82) hx hb dX12_sideAt_63 (by decide) (by decide) (by decide) (by decide) ?_
      refine lv_iload hx hb dX12_sideAt_145 (lv_at hl 5 rfl) ?_
      refine lv_if_eq (tgt := 180) hx hb dX12_sideAt_147 (by decide) (fun c11 => ?_) (fun c11 => ?_)
      · rw [if_pos c11] at hF
        refine lv_iconst (v := 0) hx hb dX12_sideAt_180 (by decide) ?_
        exact B181 _ _ H locs ls hP hD hS (lv_sub hl [7] rfl) hF
      rw [if_neg c11] at hF
      refine lv_iload hx hb dX12_sideAt_150 (lv_at hl 6 rfl) ?_
      refine lv_iconst (v := 2) hx hb dX12_sideAt_152 (by decide) ?_
      refine lv_irem hx hb dX12_sideAt_153 (by decide) ?_
      refine W.eq (g2 := F0 m 154 ls [.int (l5 - l5 / 2 * 2)]) rfl ?_
      refine lv_iload hx hb dX12_sideAt_154 (lv_at hl 6 rfl) ?_
      refine lv_if_ne (tgt := 163) hx hb dX12_sideAt_156 (by decide) (fun c13 => ?_) (fun c13 => ?_)
      · rw [if_neg c13] at hF
        refine lv_aload_n hx hb dX12_sideAt_163 rfl (lv_at hl 1 rfl) ?_
        refine va_get (D := G.1) (ci := 12) (v := .ref a_s) (C := RX12) (T := TX12) (N := 22) hx hb hts hin12 hown hK hP 0 rfl rfl 1 (by decide) lk_9 (fun _ h9 => h9) rfl dX12_sideAt_164 ?_
        refine lv_sipush (v := 136) hx hb dX12_sideAt_167 (by decide) ?_
        refine lv_iload_n hx hb dX12_sideAt_170 rfl (lv_at hl 3 rfl) ?_
        refine lv_iadd hx hb dX12_sideAt_171 ?_
        obtain ⟨hi14, hF⟩ := ck_some hF
        refine va_iald (D := G.1) hx hb hK hP 1 0 rfl rfl hi14 dX12_sideAt_172 ?_
        refine lv_iload hx hb dX12_sideAt_173 (lv_at hl 6 rfl) ?_
        obtain ⟨hz15, hF⟩ := ck_some hF
        refine lv_idiv hx hb dX12_sideAt_175 hz15 ?_
        exact B176 _ _ _ H locs ls hP hD hS (lv_sub hl [7] rfl) hF
      rw [if_pos c13] at hF
      refine lv_iconst (v := 0) hx hb dX12_sideAt_159 (by decide) ?_
      refine lv_goto (tgt := 176) hx hb dX12_sideAt_160 (by decide) ?_
      exact B176 _ _ _ H locs ls hP hD hS (lv_sub hl [7] rfl) hF
    rw [if_neg c10] at hF
    by_cases c16 : (f_s (226 + l1).toNatClampNeg) = 5
    · rw [if_pos c16] at hF
      refine lv_eqi c16 ?_
      refine lv_tableIn (tgt := 201) (off := 138) hx hb dX12_sideAt_63 (by decide) (by decide) (by decide) (by decide) ?_
      refine lv_aload_n hx hb dX12_sideAt_201 rfl (lv_at hl 1 rfl) ?_
      refine va_get (D := G.1) (ci := 12) (v := .ref a_s) (C := RX12) (T := TX12) (N := 22) hx hb hts hin12 hown hK hP 0 rfl rfl 1 (by decide) lk_9 (fun _ h9 => h9) rfl dX12_sideAt_202 ?_
      refine lv_sipush (v := 130) hx hb dX12_sideAt_205 (by decide) ?_
      refine lv_iload_n hx hb dX12_sideAt_208 rfl (lv_at hl 3 rfl) ?_
      refine lv_iadd hx hb dX12_sideAt_209 ?_
      refine W.eq (g2 := F0 m 210 ls [.int (130 + l2), .ref a_s]) rfl ?_
      obtain ⟨hi17, hF⟩ := ck_some hF
      refine va_iald (D := G.1) hx hb hK hP 1 0 rfl rfl hi17 dX12_sideAt_210 ?_
      refine lv_iload hx hb dX12_sideAt_211 (lv_at hl 6 rfl) ?_
      refine lv_icmp_lt (tgt := 220) hx hb dX12_sideAt_213 (by decide) (fun c18 => ?_) (fun c18 => ?_)
      · rw [if_pos c18] at hF
        refine lv_iconst (v := 1) hx hb dX12_sideAt_220 (by decide) ?_
        injection hF with hz
        subst hz
        exact cm_reti hx hb hr rfl hlk hK hP hD hS dX12_sideAt_221
      rw [if_neg c18] at hF
      refine lv_iconst (v := 0) hx hb dX12_sideAt_216 (by decide) ?_
      refine lv_goto (tgt := 221) hx hb dX12_sideAt_217 (by decide) ?_
      injection hF with hz
      subst hz
      exact cm_reti hx hb hr rfl hlk hK hP hD hS dX12_sideAt_221
    rw [if_neg c16] at hF
    by_cases c19 : (f_s (226 + l1).toNatClampNeg) = 6
    · rw [if_pos c19] at hF
      refine lv_eqi c19 ?_
      refine lv_tableIn (tgt := 106) (off := 43) hx hb dX12_sideAt_63 (by decide) (by decide) (by decide) (by decide) ?_
      refine lv_aload_n hx hb dX12_sideAt_106 rfl (lv_at hl 1 rfl) ?_
      refine va_get (D := G.1) (ci := 12) (v := .int x_lean) (C := RX12) (T := TX12) (N := 22) hx hb hts hin12 hown hK hP 0 rfl rfl 12 (by decide) lk_134 (fun _ h9 => h9) rfl dX12_sideAt_107 ?_
      refine lv_iload hx hb dX12_sideAt_110 (lv_at hl 6 rfl) ?_
      refine lv_icmp_lt (tgt := 119) hx hb dX12_sideAt_112 (by decide) (fun c20 => ?_) (fun c20 => ?_)
      · rw [if_pos c20] at hF
        refine lv_iload hx hb dX12_sideAt_119 (lv_at hl 0 rfl) ?_
        refine W.eq (g2 := F0 m 121 ls [.int s0]) rfl ?_
        injection hF with hz
        subst hz
        exact cm_reti hx hb hr rfl hlk hK hP hD hS dX12_sideAt_121
      rw [if_neg c20] at hF
      refine lv_iload_n hx hb dX12_sideAt_115 rfl (lv_at hl 4 rfl) ?_
      refine W.eq (g2 := F0 m 116 ls [.int l3]) rfl ?_
      refine lv_goto (tgt := 121) hx hb dX12_sideAt_116 (by decide) ?_
      injection hF with hz
      subst hz
      exact cm_reti hx hb hr rfl hlk hK hP hD hS dX12_sideAt_121
    rw [if_neg c19] at hF
    refine lv_tableOut (tgt := 222) hx hb dX12_sideAt_63 (by have a0 := lv_neT (k := 1) (a := 1) c5 (by decide); have a1 := lv_neT (k := 2) (a := 2) c6 (by decide); have a2 := lv_neT (k := 3) (a := 3) c7 (by decide); have a3 := lv_neT (k := 4) (a := 4) c10 (by decide); have a4 := lv_neT (k := 5) (a := 5) c16 (by decide); have a5 := lv_neT (k := 6) (a := 6) c19 (by decide); omega) (by decide) ?_
    refine lv_iload_n hx hb dX12_sideAt_222 rfl (lv_at hl 4 rfl) ?_
    injection hF with hz
    subst hz
    exact cm_reti hx hb hr rfl hlk hK hP hD hS dX12_sideAt_223
  have B28 : ∀ (l1 : Int32) (l2 : Int32) (l3 : Int32) (l4 : Int32) (l5 : Int32) (s0 : Int32) (H : Heap) (locs : List Loc) (ls : Array Slot), va_P G.1 vwCl [o12 h x_thrown a_s a_image x_hasImage x_act x_spot x_end x_isWrong x_open a_by a_truths x_turn x_lean x_last x_angle x_asLay x_ticks a_bodies x_ran x_kind x_number x_tellsV, aI G a_s 1394 f_s] H → va_D A [o12 h x_thrown a_s a_image x_hasImage x_act x_spot x_end x_isWrong x_open a_by a_truths x_turn x_lean x_last x_angle x_asLay x_ticks a_bodies x_ran x_kind x_number x_tellsV, aI G a_s 1394 f_s] → va_S A s.heap H locs → lv_has ls 9 [(0, .ref h), (1, .int l1), (2, .int l2), (3, .int l3), (4, .int l4), (5, .int l5)] → fX12_sideAt_b28 x_lean x_angle f_s l1 l2 l3 l4 l5 s0 = some (z) → W p l e (rm_X12_sideAt) s m args below meth c H locs 0 0 (MQ below (QI G [o12 h x_thrown a_s a_image x_hasImage x_act x_spot x_end x_isWrong x_open a_by a_truths x_turn x_lean x_last x_angle x_asLay x_ticks a_bodies x_ran x_kind x_number x_tellsV, aI G a_s 1394 f_s] z A) args s 0 0 A) (F0 m 28 ls [.int s0]) := by
    intro l1 l2 l3 l4 l5 s0 H locs ls hP hD hS hl hF
    unfold fX12_sideAt_b28 at hF
    refine lv_istore (lv' := [(6, .int s0), (0, .ref h), (1, .int l1), (2, .int l2), (3, .int l3), (4, .int l4), (5, .int l5)]) hx hb dX12_sideAt_28 hl (by decide) rfl (fun ls hl => ?_)
    refine lv_aload_n hx hb dX12_sideAt_30 rfl (lv_at hl 1 rfl) ?_
    refine va_get (D := G.1) (ci := 12) (v := .int x_angle) (C := RX12) (T := TX12) (N := 22) hx hb hts hin12 hown hK hP 0 rfl rfl 14 (by decide) lk_137 (fun _ h9 => h9) rfl dX12_sideAt_31 ?_
    refine lv_bipush (v := 50) hx hb dX12_sideAt_34 (by decide) ?_
    refine lv_aload_n hx hb dX12_sideAt_36 rfl (lv_at hl 1 rfl) ?_
    refine va_get (D := G.1) (ci := 12) (v := .int x_lean) (C := RX12) (T := TX12) (N := 22) hx hb hts hin12 hown hK hP 0 rfl rfl 12 (by decide) lk_134 (fun _ h9 => h9) rfl dX12_sideAt_37 ?_
    refine lv_iadd hx hb dX12_sideAt_40 ?_
    refine lv_icmp_ge (tgt := 48) hx hb dX12_sideAt_41 (by decide) (fun c3 => ?_) (fun c3 => ?_)
    · rw [if_pos c3] at hF
      refine lv_iconst (v := 1) hx hb dX12_sideAt_48 (by decide) ?_
      refine lv_iload_n hx hb dX12_sideAt_49 rfl (lv_at hl 4 rfl) ?_
      refine lv_isub hx hb dX12_sideAt_50 ?_
      exact B51 _ _ _ _ _ _ _ H locs ls hP hD hS (lv_sub hl [1, 2, 3, 4, 5, 6, 0] rfl) hF
    rw [if_neg c3] at hF
    refine lv_iload_n hx hb dX12_sideAt_44 rfl (lv_at hl 4 rfl) ?_
    refine lv_goto (tgt := 51) hx hb dX12_sideAt_45 (by decide) ?_
    exact B51 _ _ _ _ _ _ _ H locs ls hP hD hS (lv_sub hl [1, 2, 3, 4, 5, 6, 0] rfl) hF
  intro hF
  unfold fX12_sideAt at hF
  refine lv_aload_n hx hb dX12_sideAt_0 rfl (lv_at hl 0 rfl) ?_
  refine va_get (D := G.1) (ci := 12) (v := .ref a_s) (C := RX12) (T := TX12) (N := 22) hx hb hts hin12 hown hK hP 0 rfl rfl 1 (by decide) lk_9 (fun _ h9 => h9) rfl dX12_sideAt_1 ?_
  refine lv_sipush (v := 234) hx hb dX12_sideAt_4 (by decide) ?_
  refine lv_iload_n hx hb dX12_sideAt_7 rfl (lv_at hl 1 rfl) ?_
  refine lv_iadd hx hb dX12_sideAt_8 ?_
  obtain ⟨hi1, hF⟩ := ck_some hF
  refine va_iald (D := G.1) hx hb hK hP 1 0 rfl rfl hi1 dX12_sideAt_9 ?_
  refine lv_istore (lv' := [(5, .int (f_s (234 + l1).toNatClampNeg)), (0, .ref h), (1, .int l1), (2, .int l2), (3, .int l3), (4, .int l4)]) hx hb dX12_sideAt_10 hl (by decide) rfl (fun ls hl => ?_)
  refine lv_aload_n hx hb dX12_sideAt_12 rfl (lv_at hl 1 rfl) ?_
  refine va_get (D := G.1) (ci := 12) (v := .int x_angle) (C := RX12) (T := TX12) (N := 22) hx hb hts hin12 hown hK hP 0 rfl rfl 14 (by decide) lk_137 (fun _ h9 => h9) rfl dX12_sideAt_13 ?_
  refine lv_bipush (v := 50) hx hb dX12_sideAt_16 (by decide) ?_
  refine lv_icmp_ge (tgt := 25) hx hb dX12_sideAt_18 (by decide) (fun c2 => ?_) (fun c2 => ?_)
  · rw [if_pos c2] at hF
    refine lv_iconst (v := 1) hx hb dX12_sideAt_25 (by decide) ?_
    refine lv_iload_n hx hb dX12_sideAt_26 rfl (lv_at hl 4 rfl) ?_
    refine W.eq (g2 := F0 m 27 ls [.int l3, .int 1]) rfl ?_
    refine lv_isub hx hb dX12_sideAt_27 ?_
    exact B28 _ _ _ _ _ _ H locs ls hP hD hS (lv_sub hl [1, 2, 3, 4, 5, 0] rfl) hF
  rw [if_neg c2] at hF
  refine lv_iload_n hx hb dX12_sideAt_21 rfl (lv_at hl 4 rfl) ?_
  refine lv_goto (tgt := 28) hx hb dX12_sideAt_22 (by decide) ?_
  exact B28 _ _ _ _ _ _ H locs ls hP hD hS (lv_sub hl [1, 2, 3, 4, 5, 0] rfl) hF

/-! HeadsByHairModel.goes(IIIIII)V -/
abbrev rm_X12_goes : Room := { frames := 1, cells := 0, slots := 0, locals := 28 }
set_option maxHeartbeats 4000000 in
set_option maxRecDepth 100000 in
theorem c_X12_goes (l : Launch) (G : GG) (h a_s a_image a_by a_truths a_bodies : Nat) (x_thrown x_hasImage x_act x_spot x_end x_isWrong x_open x_turn x_lean x_last x_angle x_asLay x_ticks x_ran x_kind x_number x_tellsV : Int32) (f_by : Nat → Int32) (f_s : Nat → Int32) (f_truths : Nat → Int32) (l1 : Int32) (l2 : Int32) (l3 : Int32) (l4 : Int32) (l5 : Int32) (l6 : Int32) (z_x_turn : Int32) (z_x_lean : Int32) (z_x_last : Int32) (z_x_angle : Int32) (z_x_asLay : Int32) (z_x_ticks : Int32) (z_f_by : Nat → Int32) (z_f_truths : Nat → Int32) (hF : fX12_goes x_turn x_lean x_last x_angle x_asLay x_ticks f_by f_s f_truths l1 l2 l3 l4 l5 l6 = some (z_x_turn, z_x_lean, z_x_last, z_x_angle, z_x_asLay, z_x_ticks, z_f_by, z_f_truths)) : CMv l yX12_goes wsX12_goes rm_X12_goes G [o12 h x_thrown a_s a_image x_hasImage x_act x_spot x_end x_isWrong x_open a_by a_truths x_turn x_lean x_last x_angle x_asLay x_ticks a_bodies x_ran x_kind x_number x_tellsV, aI G a_by 5 f_by, aI G a_s 1394 f_s, aZ G a_truths 64 f_truths] [o12 h x_thrown a_s a_image x_hasImage x_act x_spot x_end x_isWrong x_open a_by a_truths z_x_turn z_x_lean z_x_last z_x_angle z_x_asLay z_x_ticks a_bodies x_ran x_kind x_number x_tellsV, aI G a_by 5 z_f_by, aI G a_s 1394 f_s, aZ G a_truths 64 z_f_truths] [.ref h, .int l1, .int l2, .int l3, .int l4, .int l5, .int l6] := by
  refine cm_start (cc := cX12_goes) (maxL := 9) (ret := none) (Qc := fun A => QV G [o12 h x_thrown a_s a_image x_hasImage x_act x_spot x_end x_isWrong x_open a_by a_truths z_x_turn z_x_lean z_x_last z_x_angle z_x_asLay z_x_ticks a_bodies x_ran x_kind x_number x_tellsV, aI G a_by 5 z_f_by, aI G a_s 1394 f_s, aZ G a_truths 64 z_f_truths] A) (by decide +kernel) rfl (Nat.le_of_ble_eq_true rfl) ?_
  intro p e s m args below meth c A hx hb hr hlk hml hown hnm hts hA H locs hP hK hD hE hS ls hl
  have hown : s.vm.findClass RX12 = some m.cls := hown
  have hl : lv_has ls 9 [(0, .ref h), (1, .int l1), (2, .int l2), (3, .int l3), (4, .int l4), (5, .int l5), (6, .int l6)] := hl
  have hin12 : ∀ w ∈ wsX120, w ∈ wsX12_goes := by decide +kernel
  have lk_137 := hts (.fieldLink RX12 137 "HeadsByHairModel" "angle" "I") (by decide +kernel)
  have lk_140 := hts (.fieldLink RX12 140 "HeadsByHairModel" "asLay" "I") (by decide +kernel)
  have lk_9 := hts (.fieldLink RX12 9 "HeadsByHairModel" "s" "[I") (by decide +kernel)
  have lk_143 := hts (.fieldLink RX12 143 "HeadsByHairModel" "ticks" "I") (by decide +kernel)
  have lk_18 := hts (.fieldLink RX12 18 "HeadsByHairModel" "by" "[I") (by decide +kernel)
  have lk_131 := hts (.fieldLink RX12 131 "HeadsByHairModel" "turn" "I") (by decide +kernel)
  have lk_153 := hts (.fieldLink RX12 153 "HeadsByHairModel" "last" "I") (by decide +kernel)
  revert hF
  have LP93 : ∀ (x_ticks : Int32) (l1 : Int32) (l3 : Int32) (l5 : Int32) (l7 : Int32) (n : Nat) (x_turn : Int32) (x_lean : Int32) (x_last : Int32) (x_angle : Int32) (x_asLay : Int32) (f_by : Nat → Int32) (f_truths : Nat → Int32) (l8 : Int32) (H : Heap) (locs : List Loc) (ls : Array Slot), va_P G.1 vwCl [o12 h x_thrown a_s a_image x_hasImage x_act x_spot x_end x_isWrong x_open a_by a_truths x_turn x_lean x_last x_angle x_asLay x_ticks a_bodies x_ran x_kind x_number x_tellsV, aI G a_by 5 f_by, aI G a_s 1394 f_s, aZ G a_truths 64 f_truths] H → va_D A [o12 h x_thrown a_s a_image x_hasImage x_act x_spot x_end x_isWrong x_open a_by a_truths x_turn x_lean x_last x_angle x_asLay x_ticks a_bodies x_ran x_kind x_number x_tellsV, aI G a_by 5 f_by, aI G a_s 1394 f_s, aZ G a_truths 64 f_truths] → va_S A s.heap H locs → lv_has ls 9 [(0, .ref h), (1, .int l1), (3, .int l3), (5, .int l5), (7, .int l7), (8, .int l8)] → fX12_goes_L93 x_ticks f_s l1 l3 l5 l7 n x_turn x_lean x_last x_angle x_asLay f_by f_truths l8 = some (z_x_turn, z_x_lean, z_x_last, z_x_angle, z_x_asLay, z_x_ticks, z_f_by, z_f_truths) → W p l e (rm_X12_goes) s m args below meth c H locs 0 0 (MQ below (QV G [o12 h x_thrown a_s a_image x_hasImage x_act x_spot x_end x_isWrong x_open a_by a_truths z_x_turn z_x_lean z_x_last z_x_angle z_x_asLay z_x_ticks a_bodies x_ran x_kind x_number x_tellsV, aI G a_by 5 z_f_by, aI G a_s 1394 f_s, aZ G a_truths 64 z_f_truths] A) args s 0 0 A) (F0 m 93 ls []) := by
    intro x_ticks l1 l3 l5 l7 n
    induction n with
    | zero =>
      intro x_turn x_lean x_last x_angle x_asLay f_by f_truths l8 H locs ls hP hD hS hl hF
      cases hF
    | succ n ih =>
      have B149 : ∀ (x_turn : Int32) (x_lean : Int32) (x_last : Int32) (x_angle : Int32) (x_asLay : Int32) (f_by : Nat → Int32) (f_truths : Nat → Int32) (l8 : Int32) (s2 : Int32) (s3 : Int32) (s4 : Int32) (s5 : Int32) (H : Heap) (locs : List Loc) (ls : Array Slot), va_P G.1 vwCl [o12 h x_thrown a_s a_image x_hasImage x_act x_spot x_end x_isWrong x_open a_by a_truths x_turn x_lean x_last x_angle x_asLay x_ticks a_bodies x_ran x_kind x_number x_tellsV, aI G a_by 5 f_by, aI G a_s 1394 f_s, aZ G a_truths 64 f_truths] H → va_D A [o12 h x_thrown a_s a_image x_hasImage x_act x_spot x_end x_isWrong x_open a_by a_truths x_turn x_lean x_last x_angle x_asLay x_ticks a_bodies x_ran x_kind x_number x_tellsV, aI G a_by 5 f_by, aI G a_s 1394 f_s, aZ G a_truths 64 f_truths] → va_S A s.heap H locs → lv_has ls 9 [(0, .ref h), (1, .int l1), (3, .int l3), (5, .int l5), (7, .int l7), (8, .int l8)] → fX12_goes_b149 (fX12_goes_L93 x_ticks f_s l1 l3 l5 l7 n) x_turn x_lean x_last x_angle x_asLay x_ticks f_by f_s f_truths l1 l3 l5 l7 l8 s2 s3 s4 s5 = some (z_x_turn, z_x_lean, z_x_last, z_x_angle, z_x_asLay, z_x_ticks, z_f_by, z_f_truths) → W p l e (rm_X12_goes) s m args below meth c H locs 0 0 (MQ below (QV G [o12 h x_thrown a_s a_image x_hasImage x_act x_spot x_end x_isWrong x_open a_by a_truths z_x_turn z_x_lean z_x_last z_x_angle z_x_asLay z_x_ticks a_bodies x_ran x_kind x_number x_tellsV, aI G a_by 5 z_f_by, aI G a_s 1394 f_s, aZ G a_truths 64 z_f_truths] A) args s 0 0 A) (F0 m 149 ls [.int s5, .int s4, .int s3, .int s2, .ref h, .ref h]) := by
        intro x_turn x_lean x_last x_angle x_asLay f_by f_truths l8 s2 s3 s4 s5 H locs ls hP hD hS hl hF
        unfold fX12_goes_b149 at hF
        obtain ⟨r9, hc10, hF⟩ := bd_some hF
        have hPc := hP.sub (ws' := [o12 h x_thrown a_s a_image x_hasImage x_act x_spot x_end x_isWrong x_open a_by a_truths x_turn x_lean x_last x_angle x_asLay x_ticks a_bodies x_ran x_kind x_number x_tellsV, aI G a_s 1394 f_s]) [0, 2] rfl
        have hDc := hD.sub (ws' := [o12 h x_thrown a_s a_image x_hasImage x_act x_spot x_end x_isWrong x_open a_by a_truths x_turn x_lean x_last x_angle x_asLay x_ticks a_bodies x_ran x_kind x_number x_tellsV, aI G a_s 1394 f_s]) [0, 2] (by decide) rfl
        have hFc := va_free (wc := [o12 h x_thrown a_s a_image x_hasImage x_act x_spot x_end x_isWrong x_open a_by a_truths x_turn x_lean x_last x_angle x_asLay x_ticks a_bodies x_ran x_kind x_number x_tellsV, aI G a_s 1394 f_s]) hD hS hA [0, 2] rfl
        have hM := c_X12_sideAt l G h a_s a_image a_by a_truths a_bodies x_thrown x_hasImage x_act x_spot x_end x_isWrong x_open x_turn x_lean x_last x_angle x_asLay x_ticks x_ran x_kind x_number x_tellsV f_s s2 s3 s4 s5 r9 hc10 H.size
        refine cl_i (w1 := [o12 h x_thrown a_s a_image x_hasImage x_act x_spot x_end x_isWrong x_open a_by a_truths x_turn x_lean x_last x_angle x_asLay x_ticks a_bodies x_ran x_kind x_number x_tellsV, aI G a_s 1394 f_s]) (ws' := [o12 h x_thrown a_s a_image x_hasImage x_act x_spot x_end x_isWrong x_open a_by a_truths x_turn x_lean x_last x_angle x_asLay x_ticks a_bodies x_ran x_kind x_number x_tellsV, aI G a_by 5 f_by, aI G a_s 1394 f_s, aZ G a_truths 64 f_truths]) hP hD hS hFc [0, 2] rfl rfl rfl (va_runV (As := [.int s2, .int s3, .int s4, .int s5]) (rest := [.ref h]) ⟨hx, hb, hml, hown, hts⟩ hM (cwV 4 hts gX12_goes_X12_sideAt rfl rfl rfl (by decide +kernel) ⟨Nat.le_of_ble_eq_true rfl, Nat.le_of_ble_eq_true rfl⟩) (cp_V hK hE hS hPc hDc hFc (va_recv hK hPc (ci := 12) (q0 := 0) rfl rfl)) rfl rfl hl.1 rfl (lv_room (Nat.le_of_ble_eq_true rfl)) dX12_goes_149 ⟨Nat.zero_le _, Nat.zero_le _⟩) (fun H locs hP hD hS => ?_)
        refine va_put (D := G.1) (ci := 12) (v := .int r9) (ty := .int) (C := RX12) (T := TX12) (N := 22) hx hb hts hin12 tyX12 tyX12_ok nmX12 hown hK hP hD hS 0 rfl rfl 13 (by decide) lk_153 (fun _ h9 => h9) rfl (tyX12_ok 13 (by decide)) rfl rfl (Nat.le_of_ble_eq_true rfl) dX12_goes_152 (fun H locs hP hD hS => ?_)
        have hP : va_P G.1 vwCl [o12 h x_thrown a_s a_image x_hasImage x_act x_spot x_end x_isWrong x_open a_by a_truths x_turn x_lean r9 x_angle x_asLay x_ticks a_bodies x_ran x_kind x_number x_tellsV, aI G a_by 5 f_by, aI G a_s 1394 f_s, aZ G a_truths 64 f_truths] H := hP
        have hD : va_D A [o12 h x_thrown a_s a_image x_hasImage x_act x_spot x_end x_isWrong x_open a_by a_truths x_turn x_lean r9 x_angle x_asLay x_ticks a_bodies x_ran x_kind x_number x_tellsV, aI G a_by 5 f_by, aI G a_s 1394 f_s, aZ G a_truths 64 f_truths] := hD
        refine lv_aload_n hx hb dX12_goes_155 rfl (lv_at hl 0 rfl) ?_
        refine lv_dup hx hb dX12_goes_156 rfl ?_
        refine va_get (D := G.1) (ci := 12) (v := .int x_asLay) (C := RX12) (T := TX12) (N := 22) hx hb hts hin12 hown hK hP 0 rfl rfl 15 (by decide) lk_140 (fun _ h9 => h9) rfl dX12_goes_157 ?_
        refine lv_aload_n hx hb dX12_goes_160 rfl (lv_at hl 0 rfl) ?_
        refine va_get (D := G.1) (ci := 12) (v := .int r9) (C := RX12) (T := TX12) (N := 22) hx hb hts hin12 hown hK hP 0 rfl rfl 13 (by decide) lk_153 (fun _ h9 => h9) rfl dX12_goes_161 ?_
        refine lv_iload hx hb dX12_goes_164 (lv_at hl 3 rfl) ?_
        refine lv_icmp_ne (tgt := 173) hx hb dX12_goes_166 (by decide) (fun c11 => ?_) (fun c11 => ?_)
        · rw [if_neg c11] at hF
          refine lv_iconst (v := 0) hx hb dX12_goes_173 (by decide) ?_
          refine lv_iadd hx hb dX12_goes_174 ?_
          refine va_put (D := G.1) (ci := 12) (v := .int (x_asLay + 0)) (ty := .int) (C := RX12) (T := TX12) (N := 22) hx hb hts hin12 tyX12 tyX12_ok nmX12 hown hK hP hD hS 0 rfl rfl 15 (by decide) lk_140 (fun _ h9 => h9) rfl (tyX12_ok 15 (by decide)) rfl rfl (Nat.le_of_ble_eq_true rfl) dX12_goes_175 (fun H locs hP hD hS => ?_)
          have hP : va_P G.1 vwCl [o12 h x_thrown a_s a_image x_hasImage x_act x_spot x_end x_isWrong x_open a_by a_truths x_turn x_lean r9 x_angle (x_asLay + 0) x_ticks a_bodies x_ran x_kind x_number x_tellsV, aI G a_by 5 f_by, aI G a_s 1394 f_s, aZ G a_truths 64 f_truths] H := hP
          have hD : va_D A [o12 h x_thrown a_s a_image x_hasImage x_act x_spot x_end x_isWrong x_open a_by a_truths x_turn x_lean r9 x_angle (x_asLay + 0) x_ticks a_bodies x_ran x_kind x_number x_tellsV, aI G a_by 5 f_by, aI G a_s 1394 f_s, aZ G a_truths 64 f_truths] := hD
          refine lv_iinc (v := l8 + 1) (lv' := [(8, .int (l8 + 1)), (0, .ref h), (1, .int l1), (3, .int l3), (5, .int l5), (7, .int l7)]) hx hb dX12_goes_178 hl (k := 5) rfl rfl (by decide) rfl (fun ls hl => ?_)
          refine W.eq (g2 := F0 m 181 ls []) rfl ?_
          refine lv_goto (tgt := 93) hx hb dX12_goes_181 (by decide) ?_
          exact ih _ _ _ _ _ _ _ _ H locs ls hP hD hS (lv_sub hl [1, 2, 3, 4, 5, 0] rfl) hF
        rw [if_pos c11] at hF
        refine lv_iconst (v := 1) hx hb dX12_goes_169 (by decide) ?_
        refine lv_goto (tgt := 174) hx hb dX12_goes_170 (by decide) ?_
        refine lv_iadd hx hb dX12_goes_174 ?_
        refine va_put (D := G.1) (ci := 12) (v := .int (x_asLay + 1)) (ty := .int) (C := RX12) (T := TX12) (N := 22) hx hb hts hin12 tyX12 tyX12_ok nmX12 hown hK hP hD hS 0 rfl rfl 15 (by decide) lk_140 (fun _ h9 => h9) rfl (tyX12_ok 15 (by decide)) rfl rfl (Nat.le_of_ble_eq_true rfl) dX12_goes_175 (fun H locs hP hD hS => ?_)
        have hP : va_P G.1 vwCl [o12 h x_thrown a_s a_image x_hasImage x_act x_spot x_end x_isWrong x_open a_by a_truths x_turn x_lean r9 x_angle (x_asLay + 1) x_ticks a_bodies x_ran x_kind x_number x_tellsV, aI G a_by 5 f_by, aI G a_s 1394 f_s, aZ G a_truths 64 f_truths] H := hP
        have hD : va_D A [o12 h x_thrown a_s a_image x_hasImage x_act x_spot x_end x_isWrong x_open a_by a_truths x_turn x_lean r9 x_angle (x_asLay + 1) x_ticks a_bodies x_ran x_kind x_number x_tellsV, aI G a_by 5 f_by, aI G a_s 1394 f_s, aZ G a_truths 64 f_truths] := hD
        refine W.eq (g2 := F0 m 178 ls []) rfl ?_
        refine lv_iinc (v := l8 + 1) (lv' := [(8, .int (l8 + 1)), (0, .ref h), (1, .int l1), (3, .int l3), (5, .int l5), (7, .int l7)]) hx hb dX12_goes_178 hl (k := 5) rfl rfl (by decide) rfl (fun ls hl => ?_)
        refine lv_goto (tgt := 93) hx hb dX12_goes_181 (by decide) ?_
        exact ih _ _ _ _ _ _ _ _ H locs ls hP hD hS (lv_sub hl [1, 2, 3, 4, 5, 0] rfl) hF
      intro x_turn x_lean x_last x_angle x_asLay f_by f_truths l8 H locs ls hP hD hS hl hF
      rw [fX12_goes_L93] at hF
      refine lv_iload hx hb dX12_goes_93 (lv_at hl 5 rfl) ?_
      refine lv_iload hx hb dX12_goes_95 (lv_at hl 4 rfl) ?_
      refine lv_icmp_gt (tgt := 184) hx hb dX12_goes_97 (by decide) (fun c5 => ?_) (fun c5 => ?_)
      · rw [if_pos c5] at hF
        injection hF with hz
        injection hz with hq0 hz
        injection hz with hq1 hz
        injection hz with hq2 hz
        injection hz with hq3 hz
        injection hz with hq4 hz
        injection hz with hq5 hz
        injection hz with hq6 hz
        subst hq0
        subst hq1
        subst hq2
        subst hq3
        subst hq4
        subst hq5
        subst hq6
        subst hz
        exact cm_retv hx hb hr hlk hK hP hD hS dX12_goes_184
      rw [if_neg c5] at hF
      refine lv_aload_n hx hb dX12_goes_100 rfl (lv_at hl 0 rfl) ?_
      refine va_get (D := G.1) (ci := 12) (v := .ref a_by) (C := RX12) (T := TX12) (N := 22) hx hb hts hin12 hown hK hP 0 rfl rfl 9 (by decide) lk_18 (fun _ h9 => h9) rfl dX12_goes_101 ?_
      refine lv_iconst (v := 4) hx hb dX12_goes_104 (by decide) ?_
      refine lv_iload hx hb dX12_goes_105 (lv_at hl 5 rfl) ?_
      refine va_iast (D := G.1) hx hb hK hP hD hS 1 0 rfl rfl (by unfold vp_in; decide) dX12_goes_107 (fun H locs hP hD hS => ?_)
      have hP : va_P G.1 vwCl [o12 h x_thrown a_s a_image x_hasImage x_act x_spot x_end x_isWrong x_open a_by a_truths x_turn x_lean x_last x_angle x_asLay x_ticks a_bodies x_ran x_kind x_number x_tellsV, aI G a_by 5 (upd f_by 4 l8), aI G a_s 1394 f_s, aZ G a_truths 64 f_truths] H := hP
      have hD : va_D A [o12 h x_thrown a_s a_image x_hasImage x_act x_spot x_end x_isWrong x_open a_by a_truths x_turn x_lean x_last x_angle x_asLay x_ticks a_bodies x_ran x_kind x_number x_tellsV, aI G a_by 5 (upd f_by 4 l8), aI G a_s 1394 f_s, aZ G a_truths 64 f_truths] := hD
      refine lv_aload_n hx hb dX12_goes_108 rfl (lv_at hl 0 rfl) ?_
      refine lv_iload_n hx hb dX12_goes_109 rfl (lv_at hl 1 rfl) ?_
      obtain ⟨r6, hc7, hF⟩ := bd_some hF
      have hPc := hP.sub (ws' := [o12 h x_thrown a_s a_image x_hasImage x_act x_spot x_end x_isWrong x_open a_by a_truths x_turn x_lean x_last x_angle x_asLay x_ticks a_bodies x_ran x_kind x_number x_tellsV, aI G a_by 5 (upd f_by 4 l8), aI G a_s 1394 f_s, aZ G a_truths 64 f_truths]) [0, 1, 2, 3] rfl
      have hDc := hD.sub (ws' := [o12 h x_thrown a_s a_image x_hasImage x_act x_spot x_end x_isWrong x_open a_by a_truths x_turn x_lean x_last x_angle x_asLay x_ticks a_bodies x_ran x_kind x_number x_tellsV, aI G a_by 5 (upd f_by 4 l8), aI G a_s 1394 f_s, aZ G a_truths 64 f_truths]) [0, 1, 2, 3] (by decide) rfl
      have hFc := va_free (wc := [o12 h x_thrown a_s a_image x_hasImage x_act x_spot x_end x_isWrong x_open a_by a_truths x_turn x_lean x_last x_angle x_asLay x_ticks a_bodies x_ran x_kind x_number x_tellsV, aI G a_by 5 (upd f_by 4 l8), aI G a_s 1394 f_s, aZ G a_truths 64 f_truths]) hD hS hA [0, 1, 2, 3] rfl
      have hM := c_X12_looks l G h a_s a_image a_by a_truths a_bodies x_thrown x_hasImage x_act x_spot x_end x_isWrong x_open x_turn x_lean x_last x_angle x_asLay x_ticks x_ran x_kind x_number x_tellsV (upd f_by 4 l8) f_s f_truths l1 r6.1 r6.2.1 r6.2.2 hc7 H.size
      refine cl_v (w1 := [o12 h x_thrown a_s a_image x_hasImage x_act x_spot x_end x_isWrong x_open a_by a_truths r6.1 r6.2.1 x_last x_angle x_asLay x_ticks a_bodies x_ran x_kind x_number x_tellsV, aI G a_by 5 (upd f_by 4 l8), aI G a_s 1394 f_s, aZ G a_truths 64 r6.2.2]) (ws' := [o12 h x_thrown a_s a_image x_hasImage x_act x_spot x_end x_isWrong x_open a_by a_truths r6.1 r6.2.1 x_last x_angle x_asLay x_ticks a_bodies x_ran x_kind x_number x_tellsV, aI G a_by 5 (upd f_by 4 l8), aI G a_s 1394 f_s, aZ G a_truths 64 r6.2.2]) hP hD hS hFc [0, 1, 2, 3] rfl rfl rfl (va_runV (As := [.int l1]) (rest := []) ⟨hx, hb, hml, hown, hts⟩ hM (cwV 1 hts gX12_goes_X12_looks rfl rfl rfl (by decide +kernel) ⟨Nat.le_of_ble_eq_true rfl, Nat.le_of_ble_eq_true rfl⟩) (cp_V hK hE hS hPc hDc hFc (va_recv hK hPc (ci := 12) (q0 := 0) rfl rfl)) rfl rfl hl.1 rfl (lv_room (Nat.le_of_ble_eq_true rfl)) dX12_goes_110 ⟨Nat.zero_le _, Nat.zero_le _⟩) (fun H locs hP hD hS => ?_)
      refine lv_aload_n hx hb dX12_goes_113 rfl (lv_at hl 0 rfl) ?_
      refine lv_aload_n hx hb dX12_goes_114 rfl (lv_at hl 0 rfl) ?_
      refine W.eq (g2 := F0 m 115 ls [.ref h, .ref h]) rfl ?_
      refine va_get (D := G.1) (ci := 12) (v := .int x_angle) (C := RX12) (T := TX12) (N := 22) hx hb hts hin12 hown hK hP 0 rfl rfl 14 (by decide) lk_137 (fun _ h9 => h9) rfl dX12_goes_115 ?_
      refine lv_aload_n hx hb dX12_goes_118 rfl (lv_at hl 0 rfl) ?_
      refine va_get (D := G.1) (ci := 12) (v := .int r6.1) (C := RX12) (T := TX12) (N := 22) hx hb hts hin12 hown hK hP 0 rfl rfl 11 (by decide) lk_131 (fun _ h9 => h9) rfl dX12_goes_119 ?_
      refine lv_iadd hx hb dX12_goes_122 ?_
      refine lv_bipush (v := 100) hx hb dX12_goes_123 (by decide) ?_
      refine lv_irem hx hb dX12_goes_125 (by decide) ?_
      refine va_put (D := G.1) (ci := 12) (v := .int ((x_angle + r6.1) - (x_angle + r6.1) / 100 * 100)) (ty := .int) (C := RX12) (T := TX12) (N := 22) hx hb hts hin12 tyX12 tyX12_ok nmX12 hown hK hP hD hS 0 rfl rfl 14 (by decide) lk_137 (fun _ h9 => h9) rfl (tyX12_ok 14 (by decide)) rfl rfl (Nat.le_of_ble_eq_true rfl) dX12_goes_126 (fun H locs hP hD hS => ?_)
      have hP : va_P G.1 vwCl [o12 h x_thrown a_s a_image x_hasImage x_act x_spot x_end x_isWrong x_open a_by a_truths r6.1 r6.2.1 x_last ((x_angle + r6.1) - (x_angle + r6.1) / 100 * 100) x_asLay x_ticks a_bodies x_ran x_kind x_number x_tellsV, aI G a_by 5 (upd f_by 4 l8), aI G a_s 1394 f_s, aZ G a_truths 64 r6.2.2] H := hP
      have hD : va_D A [o12 h x_thrown a_s a_image x_hasImage x_act x_spot x_end x_isWrong x_open a_by a_truths r6.1 r6.2.1 x_last ((x_angle + r6.1) - (x_angle + r6.1) / 100 * 100) x_asLay x_ticks a_bodies x_ran x_kind x_number x_tellsV, aI G a_by 5 (upd f_by 4 l8), aI G a_s 1394 f_s, aZ G a_truths 64 r6.2.2] := hD
      refine lv_aload_n hx hb dX12_goes_129 rfl (lv_at hl 0 rfl) ?_
      refine lv_aload_n hx hb dX12_goes_130 rfl (lv_at hl 0 rfl) ?_
      refine lv_iload_n hx hb dX12_goes_131 rfl (lv_at hl 1 rfl) ?_
      refine lv_iload_n hx hb dX12_goes_132 rfl (lv_at hl 2 rfl) ?_
      refine lv_iload hx hb dX12_goes_133 (lv_at hl 3 rfl) ?_
      refine lv_iload hx hb dX12_goes_135 (lv_at hl 5 rfl) ?_
      refine lv_aload_n hx hb dX12_goes_137 rfl (lv_at hl 0 rfl) ?_
      refine W.eq (g2 := F0 m 138 ls [.ref h, .int l8, .int l5, .int l3, .int l1, .ref h, .ref h]) rfl ?_
      refine va_get (D := G.1) (ci := 12) (v := .int x_ticks) (C := RX12) (T := TX12) (N := 22) hx hb hts hin12 hown hK hP 0 rfl rfl 16 (by decide) lk_143 (fun _ h9 => h9) rfl dX12_goes_138 ?_
      refine lv_icmp_ne (tgt := 148) hx hb dX12_goes_141 (by decide) (fun c8 => ?_) (fun c8 => ?_)
      · rw [if_neg c8] at hF
        refine lv_iconst (v := 0) hx hb dX12_goes_148 (by decide) ?_
        exact B149 _ _ _ _ _ _ _ _ _ _ _ _ H locs ls hP hD hS (lv_sub hl [0, 1, 2, 3, 4, 5] rfl) hF
      rw [if_pos c8] at hF
      refine lv_iconst (v := 1) hx hb dX12_goes_144 (by decide) ?_
      refine lv_goto (tgt := 149) hx hb dX12_goes_145 (by decide) ?_
      exact B149 _ _ _ _ _ _ _ _ _ _ _ _ H locs ls hP hD hS (lv_sub hl [0, 1, 2, 3, 4, 5] rfl) hF
  have B88 : ∀ (x_turn : Int32) (x_lean : Int32) (x_last : Int32) (x_angle : Int32) (x_asLay : Int32) (x_ticks : Int32) (f_by : Nat → Int32) (f_truths : Nat → Int32) (l1 : Int32) (l3 : Int32) (l5 : Int32) (s0 : Int32) (H : Heap) (locs : List Loc) (ls : Array Slot), va_P G.1 vwCl [o12 h x_thrown a_s a_image x_hasImage x_act x_spot x_end x_isWrong x_open a_by a_truths x_turn x_lean x_last x_angle x_asLay x_ticks a_bodies x_ran x_kind x_number x_tellsV, aI G a_by 5 f_by, aI G a_s 1394 f_s, aZ G a_truths 64 f_truths] H → va_D A [o12 h x_thrown a_s a_image x_hasImage x_act x_spot x_end x_isWrong x_open a_by a_truths x_turn x_lean x_last x_angle x_asLay x_ticks a_bodies x_ran x_kind x_number x_tellsV, aI G a_by 5 f_by, aI G a_s 1394 f_s, aZ G a_truths 64 f_truths] → va_S A s.heap H locs → lv_has ls 9 [(0, .ref h), (1, .int l1), (3, .int l3), (5, .int l5)] → fX12_goes_b88 x_turn x_lean x_last x_angle x_asLay x_ticks f_by f_s f_truths l1 l3 l5 s0 = some (z_x_turn, z_x_lean, z_x_last, z_x_angle, z_x_asLay, z_x_ticks, z_f_by, z_f_truths) → W p l e (rm_X12_goes) s m args below meth c H locs 0 0 (MQ below (QV G [o12 h x_thrown a_s a_image x_hasImage x_act x_spot x_end x_isWrong x_open a_by a_truths z_x_turn z_x_lean z_x_last z_x_angle z_x_asLay z_x_ticks a_bodies x_ran x_kind x_number x_tellsV, aI G a_by 5 z_f_by, aI G a_s 1394 f_s, aZ G a_truths 64 z_f_truths] A) args s 0 0 A) (F0 m 88 ls [.int s0]) := by
    intro x_turn x_lean x_last x_angle x_asLay x_ticks f_by f_truths l1 l3 l5 s0 H locs ls hP hD hS hl hF
    unfold fX12_goes_b88 at hF
    refine lv_istore (lv' := [(7, .int s0), (0, .ref h), (1, .int l1), (3, .int l3), (5, .int l5)]) hx hb dX12_goes_88 hl (by decide) rfl (fun ls hl => ?_)
    refine lv_iconst (v := 1) hx hb dX12_goes_90 (by decide) ?_
    refine lv_istore (lv' := [(8, .int 1), (7, .int s0), (0, .ref h), (1, .int l1), (3, .int l3), (5, .int l5)]) hx hb dX12_goes_91 hl (by decide) rfl (fun ls hl => ?_)
    refine LP93 _ _ _ _ _ _ _ _ _ _ _ _ _ _ H locs ls hP hD hS (lv_sub hl [2, 3, 4, 5, 1, 0] rfl) hF
  intro hF
  unfold fX12_goes at hF
  refine lv_aload_n hx hb dX12_goes_0 rfl (lv_at hl 0 rfl) ?_
  refine lv_iconst (v := 0) hx hb dX12_goes_1 (by decide) ?_
  refine va_put (D := G.1) (ci := 12) (v := .int 0) (ty := .int) (C := RX12) (T := TX12) (N := 22) hx hb hts hin12 tyX12 tyX12_ok nmX12 hown hK hP hD hS 0 rfl rfl 14 (by decide) lk_137 (fun _ h9 => h9) rfl (tyX12_ok 14 (by decide)) rfl rfl (Nat.le_of_ble_eq_true rfl) dX12_goes_2 (fun H locs hP hD hS => ?_)
  have hP : va_P G.1 vwCl [o12 h x_thrown a_s a_image x_hasImage x_act x_spot x_end x_isWrong x_open a_by a_truths x_turn x_lean x_last 0 x_asLay x_ticks a_bodies x_ran x_kind x_number x_tellsV, aI G a_by 5 f_by, aI G a_s 1394 f_s, aZ G a_truths 64 f_truths] H := hP
  have hD : va_D A [o12 h x_thrown a_s a_image x_hasImage x_act x_spot x_end x_isWrong x_open a_by a_truths x_turn x_lean x_last 0 x_asLay x_ticks a_bodies x_ran x_kind x_number x_tellsV, aI G a_by 5 f_by, aI G a_s 1394 f_s, aZ G a_truths 64 f_truths] := hD
  refine lv_aload_n hx hb dX12_goes_5 rfl (lv_at hl 0 rfl) ?_
  refine lv_iconst (v := 0) hx hb dX12_goes_6 (by decide) ?_
  refine va_put (D := G.1) (ci := 12) (v := .int 0) (ty := .int) (C := RX12) (T := TX12) (N := 22) hx hb hts hin12 tyX12 tyX12_ok nmX12 hown hK hP hD hS 0 rfl rfl 15 (by decide) lk_140 (fun _ h9 => h9) rfl (tyX12_ok 15 (by decide)) rfl rfl (Nat.le_of_ble_eq_true rfl) dX12_goes_7 (fun H locs hP hD hS => ?_)
  have hP : va_P G.1 vwCl [o12 h x_thrown a_s a_image x_hasImage x_act x_spot x_end x_isWrong x_open a_by a_truths x_turn x_lean x_last 0 0 x_ticks a_bodies x_ran x_kind x_number x_tellsV, aI G a_by 5 f_by, aI G a_s 1394 f_s, aZ G a_truths 64 f_truths] H := hP
  have hD : va_D A [o12 h x_thrown a_s a_image x_hasImage x_act x_spot x_end x_isWrong x_open a_by a_truths x_turn x_lean x_last 0 0 x_ticks a_bodies x_ran x_kind x_number x_tellsV, aI G a_by 5 f_by, aI G a_s 1394 f_s, aZ G a_truths 64 f_truths] := hD
  refine lv_aload_n hx hb dX12_goes_10 rfl (lv_at hl 0 rfl) ?_
  refine lv_iload hx hb dX12_goes_11 (lv_at hl 4 rfl) ?_
  refine lv_aload_n hx hb dX12_goes_13 rfl (lv_at hl 0 rfl) ?_
  refine va_get (D := G.1) (ci := 12) (v := .ref a_s) (C := RX12) (T := TX12) (N := 22) hx hb hts hin12 hown hK hP 0 rfl rfl 1 (by decide) lk_9 (fun _ h9 => h9) rfl dX12_goes_14 ?_
  refine lv_sipush (v := 242) hx hb dX12_goes_17 (by decide) ?_
  refine lv_iload_n hx hb dX12_goes_20 rfl (lv_at hl 1 rfl) ?_
  refine lv_iadd hx hb dX12_goes_21 ?_
  refine W.eq (g2 := F0 m 22 ls [.int (242 + l1), .ref a_s, .int l4, .ref h]) rfl ?_
  obtain ⟨hi1, hF⟩ := ck_some hF
  refine va_iald (D := G.1) hx hb hK hP 2 0 rfl rfl hi1 dX12_goes_22 ?_
  refine lv_iadd hx hb dX12_goes_23 ?_
  refine va_put (D := G.1) (ci := 12) (v := .int (l4 + (f_s (242 + l1).toNatClampNeg))) (ty := .int) (C := RX12) (T := TX12) (N := 22) hx hb hts hin12 tyX12 tyX12_ok nmX12 hown hK hP hD hS 0 rfl rfl 16 (by decide) lk_143 (fun _ h9 => h9) rfl (tyX12_ok 16 (by decide)) rfl rfl (Nat.le_of_ble_eq_true rfl) dX12_goes_24 (fun H locs hP hD hS => ?_)
  have hP : va_P G.1 vwCl [o12 h x_thrown a_s a_image x_hasImage x_act x_spot x_end x_isWrong x_open a_by a_truths x_turn x_lean x_last 0 0 (l4 + (f_s (242 + l1).toNatClampNeg)) a_bodies x_ran x_kind x_number x_tellsV, aI G a_by 5 f_by, aI G a_s 1394 f_s, aZ G a_truths 64 f_truths] H := hP
  have hD : va_D A [o12 h x_thrown a_s a_image x_hasImage x_act x_spot x_end x_isWrong x_open a_by a_truths x_turn x_lean x_last 0 0 (l4 + (f_s (242 + l1).toNatClampNeg)) a_bodies x_ran x_kind x_number x_tellsV, aI G a_by 5 f_by, aI G a_s 1394 f_s, aZ G a_truths 64 f_truths] := hD
  refine lv_aload_n hx hb dX12_goes_27 rfl (lv_at hl 0 rfl) ?_
  refine va_get (D := G.1) (ci := 12) (v := .ref a_by) (C := RX12) (T := TX12) (N := 22) hx hb hts hin12 hown hK hP 0 rfl rfl 9 (by decide) lk_18 (fun _ h9 => h9) rfl dX12_goes_28 ?_
  refine lv_iconst (v := 0) hx hb dX12_goes_31 (by decide) ?_
  refine lv_iload hx hb dX12_goes_32 (lv_at hl 4 rfl) ?_
  refine va_iast (D := G.1) hx hb hK hP hD hS 1 0 rfl rfl (by unfold vp_in; decide) dX12_goes_34 (fun H locs hP hD hS => ?_)
  have hP : va_P G.1 vwCl [o12 h x_thrown a_s a_image x_hasImage x_act x_spot x_end x_isWrong x_open a_by a_truths x_turn x_lean x_last 0 0 (l4 + (f_s (242 + l1).toNatClampNeg)) a_bodies x_ran x_kind x_number x_tellsV, aI G a_by 5 (upd f_by 0 l4), aI G a_s 1394 f_s, aZ G a_truths 64 f_truths] H := hP
  have hD : va_D A [o12 h x_thrown a_s a_image x_hasImage x_act x_spot x_end x_isWrong x_open a_by a_truths x_turn x_lean x_last 0 0 (l4 + (f_s (242 + l1).toNatClampNeg)) a_bodies x_ran x_kind x_number x_tellsV, aI G a_by 5 (upd f_by 0 l4), aI G a_s 1394 f_s, aZ G a_truths 64 f_truths] := hD
  refine lv_aload_n hx hb dX12_goes_35 rfl (lv_at hl 0 rfl) ?_
  refine va_get (D := G.1) (ci := 12) (v := .ref a_by) (C := RX12) (T := TX12) (N := 22) hx hb hts hin12 hown hK hP 0 rfl rfl 9 (by decide) lk_18 (fun _ h9 => h9) rfl dX12_goes_36 ?_
  refine lv_iconst (v := 1) hx hb dX12_goes_39 (by decide) ?_
  refine lv_aload_n hx hb dX12_goes_40 rfl (lv_at hl 0 rfl) ?_
  refine va_get (D := G.1) (ci := 12) (v := .ref a_s) (C := RX12) (T := TX12) (N := 22) hx hb hts hin12 hown hK hP 0 rfl rfl 1 (by decide) lk_9 (fun _ h9 => h9) rfl dX12_goes_41 ?_
  refine lv_sipush (v := 130) hx hb dX12_goes_44 (by decide) ?_
  refine W.eq (g2 := F0 m 47 ls [.int 130, .ref a_s, .int 1, .ref a_by]) rfl ?_
  refine lv_iload_n hx hb dX12_goes_47 rfl (lv_at hl 3 rfl) ?_
  refine lv_iadd hx hb dX12_goes_48 ?_
  obtain ⟨hi2, hF⟩ := ck_some hF
  refine va_iald (D := G.1) hx hb hK hP 2 0 rfl rfl hi2 dX12_goes_49 ?_
  refine va_iast (D := G.1) hx hb hK hP hD hS 1 0 rfl rfl (by unfold vp_in; decide) dX12_goes_50 (fun H locs hP hD hS => ?_)
  have hP : va_P G.1 vwCl [o12 h x_thrown a_s a_image x_hasImage x_act x_spot x_end x_isWrong x_open a_by a_truths x_turn x_lean x_last 0 0 (l4 + (f_s (242 + l1).toNatClampNeg)) a_bodies x_ran x_kind x_number x_tellsV, aI G a_by 5 (upd (upd f_by 0 l4) 1 (f_s (130 + l3).toNatClampNeg)), aI G a_s 1394 f_s, aZ G a_truths 64 f_truths] H := hP
  have hD : va_D A [o12 h x_thrown a_s a_image x_hasImage x_act x_spot x_end x_isWrong x_open a_by a_truths x_turn x_lean x_last 0 0 (l4 + (f_s (242 + l1).toNatClampNeg)) a_bodies x_ran x_kind x_number x_tellsV, aI G a_by 5 (upd (upd f_by 0 l4) 1 (f_s (130 + l3).toNatClampNeg)), aI G a_s 1394 f_s, aZ G a_truths 64 f_truths] := hD
  refine lv_aload_n hx hb dX12_goes_51 rfl (lv_at hl 0 rfl) ?_
  refine va_get (D := G.1) (ci := 12) (v := .ref a_by) (C := RX12) (T := TX12) (N := 22) hx hb hts hin12 hown hK hP 0 rfl rfl 9 (by decide) lk_18 (fun _ h9 => h9) rfl dX12_goes_52 ?_
  refine lv_iconst (v := 2) hx hb dX12_goes_55 (by decide) ?_
  refine lv_aload_n hx hb dX12_goes_56 rfl (lv_at hl 0 rfl) ?_
  refine va_get (D := G.1) (ci := 12) (v := .ref a_s) (C := RX12) (T := TX12) (N := 22) hx hb hts hin12 hown hK hP 0 rfl rfl 1 (by decide) lk_9 (fun _ h9 => h9) rfl dX12_goes_57 ?_
  refine lv_sipush (v := 136) hx hb dX12_goes_60 (by decide) ?_
  refine lv_iload_n hx hb dX12_goes_63 rfl (lv_at hl 3 rfl) ?_
  refine lv_iadd hx hb dX12_goes_64 ?_
  obtain ⟨hi3, hF⟩ := ck_some hF
  refine va_iald (D := G.1) hx hb hK hP 2 0 rfl rfl hi3 dX12_goes_65 ?_
  refine va_iast (D := G.1) hx hb hK hP hD hS 1 0 rfl rfl (by unfold vp_in; decide) dX12_goes_66 (fun H locs hP hD hS => ?_)
  have hP : va_P G.1 vwCl [o12 h x_thrown a_s a_image x_hasImage x_act x_spot x_end x_isWrong x_open a_by a_truths x_turn x_lean x_last 0 0 (l4 + (f_s (242 + l1).toNatClampNeg)) a_bodies x_ran x_kind x_number x_tellsV, aI G a_by 5 (upd (upd (upd f_by 0 l4) 1 (f_s (130 + l3).toNatClampNeg)) 2 (f_s (136 + l3).toNatClampNeg)), aI G a_s 1394 f_s, aZ G a_truths 64 f_truths] H := hP
  have hD : va_D A [o12 h x_thrown a_s a_image x_hasImage x_act x_spot x_end x_isWrong x_open a_by a_truths x_turn x_lean x_last 0 0 (l4 + (f_s (242 + l1).toNatClampNeg)) a_bodies x_ran x_kind x_number x_tellsV, aI G a_by 5 (upd (upd (upd f_by 0 l4) 1 (f_s (130 + l3).toNatClampNeg)) 2 (f_s (136 + l3).toNatClampNeg)), aI G a_s 1394 f_s, aZ G a_truths 64 f_truths] := hD
  refine W.eq (g2 := F0 m 67 ls []) rfl ?_
  refine lv_aload_n hx hb dX12_goes_67 rfl (lv_at hl 0 rfl) ?_
  refine va_get (D := G.1) (ci := 12) (v := .ref a_by) (C := RX12) (T := TX12) (N := 22) hx hb hts hin12 hown hK hP 0 rfl rfl 9 (by decide) lk_18 (fun _ h9 => h9) rfl dX12_goes_68 ?_
  refine lv_iconst (v := 3) hx hb dX12_goes_71 (by decide) ?_
  refine lv_iload_n hx hb dX12_goes_72 rfl (lv_at hl 2 rfl) ?_
  refine va_iast (D := G.1) hx hb hK hP hD hS 1 0 rfl rfl (by unfold vp_in; decide) dX12_goes_73 (fun H locs hP hD hS => ?_)
  have hP : va_P G.1 vwCl [o12 h x_thrown a_s a_image x_hasImage x_act x_spot x_end x_isWrong x_open a_by a_truths x_turn x_lean x_last 0 0 (l4 + (f_s (242 + l1).toNatClampNeg)) a_bodies x_ran x_kind x_number x_tellsV, aI G a_by 5 (upd (upd (upd (upd f_by 0 l4) 1 (f_s (130 + l3).toNatClampNeg)) 2 (f_s (136 + l3).toNatClampNeg)) 3 l2), aI G a_s 1394 f_s, aZ G a_truths 64 f_truths] H := hP
  have hD : va_D A [o12 h x_thrown a_s a_image x_hasImage x_act x_spot x_end x_isWrong x_open a_by a_truths x_turn x_lean x_last 0 0 (l4 + (f_s (242 + l1).toNatClampNeg)) a_bodies x_ran x_kind x_number x_tellsV, aI G a_by 5 (upd (upd (upd (upd f_by 0 l4) 1 (f_s (130 + l3).toNatClampNeg)) 2 (f_s (136 + l3).toNatClampNeg)) 3 l2), aI G a_s 1394 f_s, aZ G a_truths 64 f_truths] := hD
  refine lv_iload hx hb dX12_goes_74 (lv_at hl 6 rfl) ?_
  refine lv_if_ne (tgt := 86) hx hb dX12_goes_76 (by decide) (fun c4 => ?_) (fun c4 => ?_)
  · rw [if_neg c4] at hF
    refine lv_iload hx hb dX12_goes_86 (lv_at hl 6 rfl) ?_
    exact B88 _ _ _ _ _ _ _ _ _ _ _ _ H locs ls hP hD hS (lv_sub hl [0, 1, 3, 5] rfl) hF
  rw [if_pos c4] at hF
  refine lv_aload_n hx hb dX12_goes_79 rfl (lv_at hl 0 rfl) ?_
  refine va_get (D := G.1) (ci := 12) (v := .int (l4 + (f_s (242 + l1).toNatClampNeg))) (C := RX12) (T := TX12) (N := 22) hx hb hts hin12 hown hK hP 0 rfl rfl 16 (by decide) lk_143 (fun _ h9 => h9) rfl dX12_goes_80 ?_
  refine lv_goto (tgt := 88) hx hb dX12_goes_83 (by decide) ?_
  exact B88 _ _ _ _ _ _ _ _ _ _ _ _ H locs ls hP hD hS (lv_sub hl [0, 1, 3, 5] rfl) hF
