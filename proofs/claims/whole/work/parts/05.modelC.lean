/-! HeadsByHairModel.toss(IIIII)I -/
abbrev rm_X12_toss : Room := { frames := 3, cells := 0, slots := 0, locals := 66 }
set_option maxHeartbeats 4000000 in
set_option maxRecDepth 100000 in
theorem c_X12_toss (l : Launch) (G : GG) (h a_s a_image a_by a_truths a_bodies : Nat) (x_thrown x_hasImage x_act x_spot x_end x_isWrong x_open x_turn x_lean x_last x_angle x_asLay x_ticks x_ran x_kind x_number x_tellsV : Int32) (f_by : Nat → Int32) (f_s : Nat → Int32) (f_truths : Nat → Int32) (l1 : Int32) (l2 : Int32) (l3 : Int32) (l4 : Int32) (l5 : Int32) (z : Int32) (z_x_turn : Int32) (z_x_lean : Int32) (z_x_last : Int32) (z_x_angle : Int32) (z_x_asLay : Int32) (z_x_ticks : Int32) (z_f_by : Nat → Int32) (z_f_truths : Nat → Int32) (hF : fX12_toss x_turn x_lean x_last x_angle x_asLay x_ticks f_by f_s f_truths l1 l2 l3 l4 l5 = some (z, z_x_turn, z_x_lean, z_x_last, z_x_angle, z_x_asLay, z_x_ticks, z_f_by, z_f_truths)) : CMi l yX12_toss wsX12_toss rm_X12_toss G [o12 h x_thrown a_s a_image x_hasImage x_act x_spot x_end x_isWrong x_open a_by a_truths x_turn x_lean x_last x_angle x_asLay x_ticks a_bodies x_ran x_kind x_number x_tellsV, aI G a_by 5 f_by, aI G a_s 1394 f_s, aZ G a_truths 64 f_truths] [o12 h x_thrown a_s a_image x_hasImage x_act x_spot x_end x_isWrong x_open a_by a_truths z_x_turn z_x_lean z_x_last z_x_angle z_x_asLay z_x_ticks a_bodies x_ran x_kind x_number x_tellsV, aI G a_by 5 z_f_by, aI G a_s 1394 f_s, aZ G a_truths 64 z_f_truths] [.ref h, .int l1, .int l2, .int l3, .int l4, .int l5] z := by
  refine cm_start (cc := cX12_toss) (maxL := 6) (ret := (some .int)) (Qc := fun A => QI G [o12 h x_thrown a_s a_image x_hasImage x_act x_spot x_end x_isWrong x_open a_by a_truths z_x_turn z_x_lean z_x_last z_x_angle z_x_asLay z_x_ticks a_bodies x_ran x_kind x_number x_tellsV, aI G a_by 5 z_f_by, aI G a_s 1394 f_s, aZ G a_truths 64 z_f_truths] z A) (by decide +kernel) rfl (Nat.le_of_ble_eq_true rfl) ?_
  intro p e s m args below meth c A hx hb hr hlk hml hown hnm hts hA H locs hP hK hD hE hS ls hl
  have hown : s.vm.findClass RX12 = some m.cls := hown
  have hl : lv_has ls 6 [(0, .ref h), (1, .int l1), (2, .int l2), (3, .int l3), (4, .int l4), (5, .int l5)] := hl
  have hin12 : ∀ w ∈ wsX120, w ∈ wsX12_toss := by decide +kernel
  have lk_143 := hts (.fieldLink RX12 143 "HeadsByHairModel" "ticks" "I") (by decide +kernel)
  have lk_140 := hts (.fieldLink RX12 140 "HeadsByHairModel" "asLay" "I") (by decide +kernel)
  have lk_137 := hts (.fieldLink RX12 137 "HeadsByHairModel" "angle" "I") (by decide +kernel)
  have lk_153 := hts (.fieldLink RX12 153 "HeadsByHairModel" "last" "I") (by decide +kernel)
  revert hF
  intro hF
  unfold fX12_toss at hF
  refine lv_aload_n hx hb dX12_toss_0 rfl (lv_at hl 0 rfl) ?_
  refine lv_iload_n hx hb dX12_toss_1 rfl (lv_at hl 1 rfl) ?_
  refine lv_iload_n hx hb dX12_toss_2 rfl (lv_at hl 2 rfl) ?_
  refine lv_iload_n hx hb dX12_toss_3 rfl (lv_at hl 3 rfl) ?_
  obtain ⟨r1, hc2, hF⟩ := bd_some hF
  have hPc := hP.sub (ws' := [o12 h x_thrown a_s a_image x_hasImage x_act x_spot x_end x_isWrong x_open a_by a_truths x_turn x_lean x_last x_angle x_asLay x_ticks a_bodies x_ran x_kind x_number x_tellsV, aI G a_s 1394 f_s]) [0, 2] rfl
  have hDc := hD.sub (ws' := [o12 h x_thrown a_s a_image x_hasImage x_act x_spot x_end x_isWrong x_open a_by a_truths x_turn x_lean x_last x_angle x_asLay x_ticks a_bodies x_ran x_kind x_number x_tellsV, aI G a_s 1394 f_s]) [0, 2] (by decide) rfl
  have hFc := va_free (wc := [o12 h x_thrown a_s a_image x_hasImage x_act x_spot x_end x_isWrong x_open a_by a_truths x_turn x_lean x_last x_angle x_asLay x_ticks a_bodies x_ran x_kind x_number x_tellsV, aI G a_s 1394 f_s]) hD hS hA [0, 2] rfl
  have hM := c_X12_areThere l G h a_s a_image a_by a_truths a_bodies x_thrown x_hasImage x_act x_spot x_end x_isWrong x_open x_turn x_lean x_last x_angle x_asLay x_ticks x_ran x_kind x_number x_tellsV f_s l1 l2 l3 r1 hc2 H.size
  refine cl_i (w1 := [o12 h x_thrown a_s a_image x_hasImage x_act x_spot x_end x_isWrong x_open a_by a_truths x_turn x_lean x_last x_angle x_asLay x_ticks a_bodies x_ran x_kind x_number x_tellsV, aI G a_s 1394 f_s]) (ws' := [o12 h x_thrown a_s a_image x_hasImage x_act x_spot x_end x_isWrong x_open a_by a_truths x_turn x_lean x_last x_angle x_asLay x_ticks a_bodies x_ran x_kind x_number x_tellsV, aI G a_by 5 f_by, aI G a_s 1394 f_s, aZ G a_truths 64 f_truths]) hP hD hS hFc [0, 2] rfl rfl rfl (va_runV (As := [.int l1, .int l2, .int l3]) (rest := []) ⟨hx, hb, hml, hown, hts⟩ hM (cwV 3 hts gX12_toss_X12_areThere rfl rfl rfl (by decide +kernel) ⟨Nat.le_of_ble_eq_true rfl, Nat.le_of_ble_eq_true rfl⟩) (cp_V hK hE hS hPc hDc hFc (va_recv hK hPc (ci := 12) (q0 := 0) rfl rfl)) rfl rfl hl.1 rfl (lv_room (Nat.le_of_ble_eq_true rfl)) dX12_toss_4 ⟨Nat.zero_le _, Nat.zero_le _⟩) (fun H locs hP hD hS => ?_)
  refine lv_if_eq (tgt := 20) hx hb dX12_toss_7 (by decide) (fun c3 => ?_) (fun c3 => ?_)
  · rw [if_pos c3] at hF
    refine lv_iconst (v := (-1)) hx hb dX12_toss_20 (by decide) ?_
    injection hF with hz
    injection hz with hq0 hz
    injection hz with hq1 hz
    injection hz with hq2 hz
    injection hz with hq3 hz
    injection hz with hq4 hz
    injection hz with hq5 hz
    injection hz with hq6 hz
    injection hz with hq7 hz
    subst hq0
    subst hq1
    subst hq2
    subst hq3
    subst hq4
    subst hq5
    subst hq6
    subst hq7
    subst hz
    exact cm_reti hx hb hr rfl hlk hK hP hD hS dX12_toss_21
  rw [if_neg c3] at hF
  refine lv_iload hx hb dX12_toss_10 (lv_at hl 5 rfl) ?_
  refine lv_iconst (v := 0) hx hb dX12_toss_12 (by decide) ?_
  refine lv_iconst (v := 3) hx hb dX12_toss_13 (by decide) ?_
  obtain ⟨r4, hc5, hF⟩ := bd_some hF
  have hPc := hP.sub (ws' := []) [] rfl
  have hDc := hD.sub (ws' := []) [] (by decide) rfl
  have hFc := va_free (wc := []) hD hS hA [] rfl
  have hM := c_X12_in l G l5 (0 : Int32) (3 : Int32) r4 hc5 H.size
  refine cl_i (w1 := []) (ws' := [o12 h x_thrown a_s a_image x_hasImage x_act x_spot x_end x_isWrong x_open a_by a_truths x_turn x_lean x_last x_angle x_asLay x_ticks a_bodies x_ran x_kind x_number x_tellsV, aI G a_by 5 f_by, aI G a_s 1394 f_s, aZ G a_truths 64 f_truths]) hP hD hS hFc [] rfl rfl rfl (va_runS (As := [.int l5, .int 0, .int 3]) (rest := []) ⟨hx, hb, hml, hown, hts⟩ hM (va_cwS 3 hts gX12_toss_X12_in rfl rfl rfl (by decide +kernel) ⟨Nat.le_of_ble_eq_true rfl, Nat.le_of_ble_eq_true rfl⟩) (cp_S hK hE hS hPc hDc hFc) rfl rfl hl.1 rfl (lv_room (Nat.le_of_ble_eq_true rfl)) dX12_toss_14 ⟨Nat.zero_le _, Nat.zero_le _⟩) (fun H locs hP hD hS => ?_)
  refine lv_if_ne (tgt := 22) hx hb dX12_toss_17 (by decide) (fun c6 => ?_) (fun c6 => ?_)
  · rw [if_neg c6] at hF
    refine lv_iload hx hb dX12_toss_22 (lv_at hl 4 rfl) ?_
    refine lv_iconst (v := 1) hx hb dX12_toss_24 (by decide) ?_
    refine W.eq (g2 := F0 m 25 ls [.int 1, .int l4]) rfl ?_
    refine lv_bipush (v := 40) hx hb dX12_toss_25 (by decide) ?_
    obtain ⟨r7, hc8, hF⟩ := bd_some hF
    have hPc := hP.sub (ws' := []) [] rfl
    have hDc := hD.sub (ws' := []) [] (by decide) rfl
    have hFc := va_free (wc := []) hD hS hA [] rfl
    have hM := c_X12_in l G l4 (1 : Int32) (40 : Int32) r7 hc8 H.size
    refine cl_i (w1 := []) (ws' := [o12 h x_thrown a_s a_image x_hasImage x_act x_spot x_end x_isWrong x_open a_by a_truths x_turn x_lean x_last x_angle x_asLay x_ticks a_bodies x_ran x_kind x_number x_tellsV, aI G a_by 5 f_by, aI G a_s 1394 f_s, aZ G a_truths 64 f_truths]) hP hD hS hFc [] rfl rfl rfl (va_runS (As := [.int l4, .int 1, .int 40]) (rest := []) ⟨hx, hb, hml, hown, hts⟩ hM (va_cwS 3 hts gX12_toss_X12_in rfl rfl rfl (by decide +kernel) ⟨Nat.le_of_ble_eq_true rfl, Nat.le_of_ble_eq_true rfl⟩) (cp_S hK hE hS hPc hDc hFc) rfl rfl hl.1 rfl (lv_room (Nat.le_of_ble_eq_true rfl)) dX12_toss_27 ⟨Nat.zero_le _, Nat.zero_le _⟩) (fun H locs hP hD hS => ?_)
    refine lv_if_ne (tgt := 36) hx hb dX12_toss_30 (by decide) (fun c9 => ?_) (fun c9 => ?_)
    · rw [if_neg c9] at hF
      refine lv_aload_n hx hb dX12_toss_36 rfl (lv_at hl 0 rfl) ?_
      refine lv_iload_n hx hb dX12_toss_37 rfl (lv_at hl 1 rfl) ?_
      refine lv_iload_n hx hb dX12_toss_38 rfl (lv_at hl 2 rfl) ?_
      refine lv_iload_n hx hb dX12_toss_39 rfl (lv_at hl 3 rfl) ?_
      refine lv_iload hx hb dX12_toss_40 (lv_at hl 4 rfl) ?_
      refine lv_iconst (v := 1) hx hb dX12_toss_42 (by decide) ?_
      refine lv_iconst (v := 0) hx hb dX12_toss_43 (by decide) ?_
      obtain ⟨r10, hc11, hF⟩ := bd_some hF
      have hPc := hP.sub (ws' := [o12 h x_thrown a_s a_image x_hasImage x_act x_spot x_end x_isWrong x_open a_by a_truths x_turn x_lean x_last x_angle x_asLay x_ticks a_bodies x_ran x_kind x_number x_tellsV, aI G a_by 5 f_by, aI G a_s 1394 f_s, aZ G a_truths 64 f_truths]) [0, 1, 2, 3] rfl
      have hDc := hD.sub (ws' := [o12 h x_thrown a_s a_image x_hasImage x_act x_spot x_end x_isWrong x_open a_by a_truths x_turn x_lean x_last x_angle x_asLay x_ticks a_bodies x_ran x_kind x_number x_tellsV, aI G a_by 5 f_by, aI G a_s 1394 f_s, aZ G a_truths 64 f_truths]) [0, 1, 2, 3] (by decide) rfl
      have hFc := va_free (wc := [o12 h x_thrown a_s a_image x_hasImage x_act x_spot x_end x_isWrong x_open a_by a_truths x_turn x_lean x_last x_angle x_asLay x_ticks a_bodies x_ran x_kind x_number x_tellsV, aI G a_by 5 f_by, aI G a_s 1394 f_s, aZ G a_truths 64 f_truths]) hD hS hA [0, 1, 2, 3] rfl
      have hM := c_X12_goes l G h a_s a_image a_by a_truths a_bodies x_thrown x_hasImage x_act x_spot x_end x_isWrong x_open x_turn x_lean x_last x_angle x_asLay x_ticks x_ran x_kind x_number x_tellsV f_by f_s f_truths l1 l2 l3 l4 (1 : Int32) (0 : Int32) r10.1 r10.2.1 r10.2.2.1 r10.2.2.2.1 r10.2.2.2.2.1 r10.2.2.2.2.2.1 r10.2.2.2.2.2.2.1 r10.2.2.2.2.2.2.2 hc11 H.size
      refine cl_v (w1 := [o12 h x_thrown a_s a_image x_hasImage x_act x_spot x_end x_isWrong x_open a_by a_truths r10.1 r10.2.1 r10.2.2.1 r10.2.2.2.1 r10.2.2.2.2.1 r10.2.2.2.2.2.1 a_bodies x_ran x_kind x_number x_tellsV, aI G a_by 5 r10.2.2.2.2.2.2.1, aI G a_s 1394 f_s, aZ G a_truths 64 r10.2.2.2.2.2.2.2]) (ws' := [o12 h x_thrown a_s a_image x_hasImage x_act x_spot x_end x_isWrong x_open a_by a_truths r10.1 r10.2.1 r10.2.2.1 r10.2.2.2.1 r10.2.2.2.2.1 r10.2.2.2.2.2.1 a_bodies x_ran x_kind x_number x_tellsV, aI G a_by 5 r10.2.2.2.2.2.2.1, aI G a_s 1394 f_s, aZ G a_truths 64 r10.2.2.2.2.2.2.2]) hP hD hS hFc [0, 1, 2, 3] rfl rfl rfl (va_runV (As := [.int l1, .int l2, .int l3, .int l4, .int 1, .int 0]) (rest := []) ⟨hx, hb, hml, hown, hts⟩ hM (cwV 6 hts gX12_toss_X12_goes rfl rfl rfl (by decide +kernel) ⟨Nat.le_of_ble_eq_true rfl, Nat.le_of_ble_eq_true rfl⟩) (cp_V hK hE hS hPc hDc hFc (va_recv hK hPc (ci := 12) (q0 := 0) rfl rfl)) rfl rfl hl.1 rfl (lv_room (Nat.le_of_ble_eq_true rfl)) dX12_toss_44 ⟨Nat.zero_le _, Nat.zero_le _⟩) (fun H locs hP hD hS => ?_)
      refine lv_iload hx hb dX12_toss_47 (lv_at hl 5 rfl) ?_
      refine lv_if_ne (tgt := 59) hx hb dX12_toss_49 (by decide) (fun c12 => ?_) (fun c12 => ?_)
      · rw [if_neg c12] at hF
        refine lv_iload hx hb dX12_toss_59 (lv_at hl 5 rfl) ?_
        refine W.eq (g2 := F0 m 61 ls [.int l5]) rfl ?_
        refine lv_iconst (v := 1) hx hb dX12_toss_61 (by decide) ?_
        refine lv_icmp_ne (tgt := 72) hx hb dX12_toss_62 (by decide) (fun c13 => ?_) (fun c13 => ?_)
        · rw [if_neg c13] at hF
          refine lv_iload hx hb dX12_toss_72 (lv_at hl 5 rfl) ?_
          refine lv_iconst (v := 2) hx hb dX12_toss_74 (by decide) ?_
          refine lv_icmp_ne (tgt := 85) hx hb dX12_toss_75 (by decide) (fun c14 => ?_) (fun c14 => ?_)
          · rw [if_neg c14] at hF
            refine lv_aload_n hx hb dX12_toss_85 rfl (lv_at hl 0 rfl) ?_
            refine va_get (D := G.1) (ci := 12) (v := .int r10.2.2.2.2.2.1) (C := RX12) (T := TX12) (N := 22) hx hb hts hin12 hown hK hP 0 rfl rfl 16 (by decide) lk_143 (fun _ h9 => h9) rfl dX12_toss_86 ?_
            injection hF with hz
            injection hz with hq0 hz
            injection hz with hq1 hz
            injection hz with hq2 hz
            injection hz with hq3 hz
            injection hz with hq4 hz
            injection hz with hq5 hz
            injection hz with hq6 hz
            injection hz with hq7 hz
            subst hq0
            subst hq1
            subst hq2
            subst hq3
            subst hq4
            subst hq5
            subst hq6
            subst hq7
            subst hz
            exact cm_reti hx hb hr rfl hlk hK hP hD hS dX12_toss_89
          rw [if_pos c14] at hF
          refine lv_aload_n hx hb dX12_toss_78 rfl (lv_at hl 0 rfl) ?_
          refine va_get (D := G.1) (ci := 12) (v := .int r10.2.2.2.2.1) (C := RX12) (T := TX12) (N := 22) hx hb hts hin12 hown hK hP 0 rfl rfl 15 (by decide) lk_140 (fun _ h9 => h9) rfl dX12_toss_79 ?_
          refine lv_goto (tgt := 89) hx hb dX12_toss_82 (by decide) ?_
          injection hF with hz
          injection hz with hq0 hz
          injection hz with hq1 hz
          injection hz with hq2 hz
          injection hz with hq3 hz
          injection hz with hq4 hz
          injection hz with hq5 hz
          injection hz with hq6 hz
          injection hz with hq7 hz
          subst hq0
          subst hq1
          subst hq2
          subst hq3
          subst hq4
          subst hq5
          subst hq6
          subst hq7
          subst hz
          exact cm_reti hx hb hr rfl hlk hK hP hD hS dX12_toss_89
        rw [if_pos c13] at hF
        refine lv_aload_n hx hb dX12_toss_65 rfl (lv_at hl 0 rfl) ?_
        refine va_get (D := G.1) (ci := 12) (v := .int r10.2.2.2.1) (C := RX12) (T := TX12) (N := 22) hx hb hts hin12 hown hK hP 0 rfl rfl 14 (by decide) lk_137 (fun _ h9 => h9) rfl dX12_toss_66 ?_
        refine lv_goto (tgt := 89) hx hb dX12_toss_69 (by decide) ?_
        injection hF with hz
        injection hz with hq0 hz
        injection hz with hq1 hz
        injection hz with hq2 hz
        injection hz with hq3 hz
        injection hz with hq4 hz
        injection hz with hq5 hz
        injection hz with hq6 hz
        injection hz with hq7 hz
        subst hq0
        subst hq1
        subst hq2
        subst hq3
        subst hq4
        subst hq5
        subst hq6
        subst hq7
        subst hz
        exact cm_reti hx hb hr rfl hlk hK hP hD hS dX12_toss_89
      rw [if_pos c12] at hF
      refine lv_aload_n hx hb dX12_toss_52 rfl (lv_at hl 0 rfl) ?_
      refine W.eq (g2 := F0 m 53 ls [.ref h]) rfl ?_
      refine va_get (D := G.1) (ci := 12) (v := .int r10.2.2.1) (C := RX12) (T := TX12) (N := 22) hx hb hts hin12 hown hK hP 0 rfl rfl 13 (by decide) lk_153 (fun _ h9 => h9) rfl dX12_toss_53 ?_
      refine lv_goto (tgt := 89) hx hb dX12_toss_56 (by decide) ?_
      injection hF with hz
      injection hz with hq0 hz
      injection hz with hq1 hz
      injection hz with hq2 hz
      injection hz with hq3 hz
      injection hz with hq4 hz
      injection hz with hq5 hz
      injection hz with hq6 hz
      injection hz with hq7 hz
      subst hq0
      subst hq1
      subst hq2
      subst hq3
      subst hq4
      subst hq5
      subst hq6
      subst hq7
      subst hz
      exact cm_reti hx hb hr rfl hlk hK hP hD hS dX12_toss_89
    rw [if_pos c9] at hF
    refine lv_bipush (v := (-2)) hx hb dX12_toss_33 (by decide) ?_
    injection hF with hz
    injection hz with hq0 hz
    injection hz with hq1 hz
    injection hz with hq2 hz
    injection hz with hq3 hz
    injection hz with hq4 hz
    injection hz with hq5 hz
    injection hz with hq6 hz
    injection hz with hq7 hz
    subst hq0
    subst hq1
    subst hq2
    subst hq3
    subst hq4
    subst hq5
    subst hq6
    subst hq7
    subst hz
    exact cm_reti hx hb hr rfl hlk hK hP hD hS dX12_toss_35
  rw [if_pos c6] at hF
  refine lv_iconst (v := (-1)) hx hb dX12_toss_20 (by decide) ?_
  injection hF with hz
  injection hz with hq0 hz
  injection hz with hq1 hz
  injection hz with hq2 hz
  injection hz with hq3 hz
  injection hz with hq4 hz
  injection hz with hq5 hz
  injection hz with hq6 hz
  injection hz with hq7 hz
  subst hq0
  subst hq1
  subst hq2
  subst hq3
  subst hq4
  subst hq5
  subst hq6
  subst hq7
  subst hz
  exact cm_reti hx hb hr rfl hlk hK hP hD hS dX12_toss_21

/-! HeadsByHairModel.up(IIIII)I -/
abbrev rm_X12_up : Room := { frames := 3, cells := 0, slots := 0, locals := 66 }
set_option maxHeartbeats 4000000 in
set_option maxRecDepth 100000 in
theorem c_X12_up (l : Launch) (G : GG) (h a_s a_image a_by a_truths a_bodies : Nat) (x_thrown x_hasImage x_act x_spot x_end x_isWrong x_open x_turn x_lean x_last x_angle x_asLay x_ticks x_ran x_kind x_number x_tellsV : Int32) (f_by : Nat → Int32) (f_s : Nat → Int32) (f_truths : Nat → Int32) (l1 : Int32) (l2 : Int32) (l3 : Int32) (l4 : Int32) (l5 : Int32) (z : Int32) (z_x_turn : Int32) (z_x_lean : Int32) (z_x_last : Int32) (z_x_angle : Int32) (z_x_asLay : Int32) (z_x_ticks : Int32) (z_f_by : Nat → Int32) (z_f_truths : Nat → Int32) (hF : fX12_up x_turn x_lean x_last x_angle x_asLay x_ticks f_by f_s f_truths l1 l2 l3 l4 l5 = some (z, z_x_turn, z_x_lean, z_x_last, z_x_angle, z_x_asLay, z_x_ticks, z_f_by, z_f_truths)) : CMi l yX12_up wsX12_up rm_X12_up G [o12 h x_thrown a_s a_image x_hasImage x_act x_spot x_end x_isWrong x_open a_by a_truths x_turn x_lean x_last x_angle x_asLay x_ticks a_bodies x_ran x_kind x_number x_tellsV, aI G a_by 5 f_by, aI G a_s 1394 f_s, aZ G a_truths 64 f_truths] [o12 h x_thrown a_s a_image x_hasImage x_act x_spot x_end x_isWrong x_open a_by a_truths z_x_turn z_x_lean z_x_last z_x_angle z_x_asLay z_x_ticks a_bodies x_ran x_kind x_number x_tellsV, aI G a_by 5 z_f_by, aI G a_s 1394 f_s, aZ G a_truths 64 z_f_truths] [.ref h, .int l1, .int l2, .int l3, .int l4, .int l5] z := by
  refine cm_start (cc := cX12_up) (maxL := 6) (ret := (some .int)) (Qc := fun A => QI G [o12 h x_thrown a_s a_image x_hasImage x_act x_spot x_end x_isWrong x_open a_by a_truths z_x_turn z_x_lean z_x_last z_x_angle z_x_asLay z_x_ticks a_bodies x_ran x_kind x_number x_tellsV, aI G a_by 5 z_f_by, aI G a_s 1394 f_s, aZ G a_truths 64 z_f_truths] z A) (by decide +kernel) rfl (Nat.le_of_ble_eq_true rfl) ?_
  intro p e s m args below meth c A hx hb hr hlk hml hown hnm hts hA H locs hP hK hD hE hS ls hl
  have hown : s.vm.findClass RX12 = some m.cls := hown
  have hl : lv_has ls 6 [(0, .ref h), (1, .int l1), (2, .int l2), (3, .int l3), (4, .int l4), (5, .int l5)] := hl
  have hin12 : ∀ w ∈ wsX120, w ∈ wsX12_up := by decide +kernel
  have lk_9 := hts (.fieldLink RX12 9 "HeadsByHairModel" "s" "[I") (by decide +kernel)
  have lk_153 := hts (.fieldLink RX12 153 "HeadsByHairModel" "last" "I") (by decide +kernel)
  revert hF
  intro hF
  unfold fX12_up at hF
  refine lv_aload_n hx hb dX12_up_0 rfl (lv_at hl 0 rfl) ?_
  refine lv_iload_n hx hb dX12_up_1 rfl (lv_at hl 1 rfl) ?_
  refine lv_iload_n hx hb dX12_up_2 rfl (lv_at hl 2 rfl) ?_
  refine lv_iload_n hx hb dX12_up_3 rfl (lv_at hl 3 rfl) ?_
  obtain ⟨r1, hc2, hF⟩ := bd_some hF
  have hPc := hP.sub (ws' := [o12 h x_thrown a_s a_image x_hasImage x_act x_spot x_end x_isWrong x_open a_by a_truths x_turn x_lean x_last x_angle x_asLay x_ticks a_bodies x_ran x_kind x_number x_tellsV, aI G a_s 1394 f_s]) [0, 2] rfl
  have hDc := hD.sub (ws' := [o12 h x_thrown a_s a_image x_hasImage x_act x_spot x_end x_isWrong x_open a_by a_truths x_turn x_lean x_last x_angle x_asLay x_ticks a_bodies x_ran x_kind x_number x_tellsV, aI G a_s 1394 f_s]) [0, 2] (by decide) rfl
  have hFc := va_free (wc := [o12 h x_thrown a_s a_image x_hasImage x_act x_spot x_end x_isWrong x_open a_by a_truths x_turn x_lean x_last x_angle x_asLay x_ticks a_bodies x_ran x_kind x_number x_tellsV, aI G a_s 1394 f_s]) hD hS hA [0, 2] rfl
  have hM := c_X12_areThere l G h a_s a_image a_by a_truths a_bodies x_thrown x_hasImage x_act x_spot x_end x_isWrong x_open x_turn x_lean x_last x_angle x_asLay x_ticks x_ran x_kind x_number x_tellsV f_s l1 l2 l3 r1 hc2 H.size
  refine cl_i (w1 := [o12 h x_thrown a_s a_image x_hasImage x_act x_spot x_end x_isWrong x_open a_by a_truths x_turn x_lean x_last x_angle x_asLay x_ticks a_bodies x_ran x_kind x_number x_tellsV, aI G a_s 1394 f_s]) (ws' := [o12 h x_thrown a_s a_image x_hasImage x_act x_spot x_end x_isWrong x_open a_by a_truths x_turn x_lean x_last x_angle x_asLay x_ticks a_bodies x_ran x_kind x_number x_tellsV, aI G a_by 5 f_by, aI G a_s 1394 f_s, aZ G a_truths 64 f_truths]) hP hD hS hFc [0, 2] rfl rfl rfl (va_runV (As := [.int l1, .int l2, .int l3]) (rest := []) ⟨hx, hb, hml, hown, hts⟩ hM (cwV 3 hts gX12_up_X12_areThere rfl rfl rfl (by decide +kernel) ⟨Nat.le_of_ble_eq_true rfl, Nat.le_of_ble_eq_true rfl⟩) (cp_V hK hE hS hPc hDc hFc (va_recv hK hPc (ci := 12) (q0 := 0) rfl rfl)) rfl rfl hl.1 rfl (lv_room (Nat.le_of_ble_eq_true rfl)) dX12_up_4 ⟨Nat.zero_le _, Nat.zero_le _⟩) (fun H locs hP hD hS => ?_)
  refine lv_if_ne (tgt := 12) hx hb dX12_up_7 (by decide) (fun c3 => ?_) (fun c3 => ?_)
  · rw [if_neg c3] at hF
    refine lv_iload hx hb dX12_up_12 (lv_at hl 4 rfl) ?_
    refine lv_iconst (v := 1) hx hb dX12_up_14 (by decide) ?_
    refine lv_bipush (v := 40) hx hb dX12_up_15 (by decide) ?_
    obtain ⟨r4, hc5, hF⟩ := bd_some hF
    have hPc := hP.sub (ws' := []) [] rfl
    have hDc := hD.sub (ws' := []) [] (by decide) rfl
    have hFc := va_free (wc := []) hD hS hA [] rfl
    have hM := c_X12_in l G l4 (1 : Int32) (40 : Int32) r4 hc5 H.size
    refine cl_i (w1 := []) (ws' := [o12 h x_thrown a_s a_image x_hasImage x_act x_spot x_end x_isWrong x_open a_by a_truths x_turn x_lean x_last x_angle x_asLay x_ticks a_bodies x_ran x_kind x_number x_tellsV, aI G a_by 5 f_by, aI G a_s 1394 f_s, aZ G a_truths 64 f_truths]) hP hD hS hFc [] rfl rfl rfl (va_runS (As := [.int l4, .int 1, .int 40]) (rest := []) ⟨hx, hb, hml, hown, hts⟩ hM (va_cwS 3 hts gX12_up_X12_in rfl rfl rfl (by decide +kernel) ⟨Nat.le_of_ble_eq_true rfl, Nat.le_of_ble_eq_true rfl⟩) (cp_S hK hE hS hPc hDc hFc) rfl rfl hl.1 rfl (lv_room (Nat.le_of_ble_eq_true rfl)) dX12_up_17 ⟨Nat.zero_le _, Nat.zero_le _⟩) (fun H locs hP hD hS => ?_)
    refine lv_if_eq (tgt := 45) hx hb dX12_up_20 (by decide) (fun c6 => ?_) (fun c6 => ?_)
    · rw [if_pos c6] at hF
      refine lv_bipush (v := (-2)) hx hb dX12_up_45 (by decide) ?_
      injection hF with hz
      injection hz with hq0 hz
      injection hz with hq1 hz
      injection hz with hq2 hz
      injection hz with hq3 hz
      injection hz with hq4 hz
      injection hz with hq5 hz
      injection hz with hq6 hz
      injection hz with hq7 hz
      subst hq0
      subst hq1
      subst hq2
      subst hq3
      subst hq4
      subst hq5
      subst hq6
      subst hq7
      subst hz
      exact cm_reti hx hb hr rfl hlk hK hP hD hS dX12_up_47
    rw [if_neg c6] at hF
    refine lv_iload hx hb dX12_up_23 (lv_at hl 5 rfl) ?_
    refine lv_iconst (v := 1) hx hb dX12_up_25 (by decide) ?_
    refine W.eq (g2 := F0 m 26 ls [.int 1, .int l5]) rfl ?_
    refine lv_iload hx hb dX12_up_26 (lv_at hl 4 rfl) ?_
    refine lv_aload_n hx hb dX12_up_28 rfl (lv_at hl 0 rfl) ?_
    refine va_get (D := G.1) (ci := 12) (v := .ref a_s) (C := RX12) (T := TX12) (N := 22) hx hb hts hin12 hown hK hP 0 rfl rfl 1 (by decide) lk_9 (fun _ h9 => h9) rfl dX12_up_29 ?_
    refine lv_sipush (v := 242) hx hb dX12_up_32 (by decide) ?_
    refine lv_iload_n hx hb dX12_up_35 rfl (lv_at hl 1 rfl) ?_
    refine lv_iadd hx hb dX12_up_36 ?_
    obtain ⟨hi7, hF⟩ := ck_some hF
    refine va_iald (D := G.1) hx hb hK hP 2 0 rfl rfl hi7 dX12_up_37 ?_
    refine lv_iadd hx hb dX12_up_38 ?_
    obtain ⟨r8, hc9, hF⟩ := bd_some hF
    have hPc := hP.sub (ws' := []) [] rfl
    have hDc := hD.sub (ws' := []) [] (by decide) rfl
    have hFc := va_free (wc := []) hD hS hA [] rfl
    have hM := c_X12_in l G l5 (1 : Int32) (l4 + (f_s (242 + l1).toNatClampNeg)) r8 hc9 H.size
    refine cl_i (w1 := []) (ws' := [o12 h x_thrown a_s a_image x_hasImage x_act x_spot x_end x_isWrong x_open a_by a_truths x_turn x_lean x_last x_angle x_asLay x_ticks a_bodies x_ran x_kind x_number x_tellsV, aI G a_by 5 f_by, aI G a_s 1394 f_s, aZ G a_truths 64 f_truths]) hP hD hS hFc [] rfl rfl rfl (va_runS (As := [.int l5, .int 1, .int (l4 + (f_s (242 + l1).toNatClampNeg))]) (rest := []) ⟨hx, hb, hml, hown, hts⟩ hM (va_cwS 3 hts gX12_up_X12_in rfl rfl rfl (by decide +kernel) ⟨Nat.le_of_ble_eq_true rfl, Nat.le_of_ble_eq_true rfl⟩) (cp_S hK hE hS hPc hDc hFc) rfl rfl hl.1 rfl (lv_room (Nat.le_of_ble_eq_true rfl)) dX12_up_39 ⟨Nat.zero_le _, Nat.zero_le _⟩) (fun H locs hP hD hS => ?_)
    refine lv_if_ne (tgt := 48) hx hb dX12_up_42 (by decide) (fun c10 => ?_) (fun c10 => ?_)
    · rw [if_neg c10] at hF
      refine lv_aload_n hx hb dX12_up_48 rfl (lv_at hl 0 rfl) ?_
      refine lv_iload_n hx hb dX12_up_49 rfl (lv_at hl 1 rfl) ?_
      refine lv_iload_n hx hb dX12_up_50 rfl (lv_at hl 2 rfl) ?_
      refine lv_iload_n hx hb dX12_up_51 rfl (lv_at hl 3 rfl) ?_
      refine W.eq (g2 := F0 m 52 ls [.int l3, .int l2, .int l1, .ref h]) rfl ?_
      refine lv_iload hx hb dX12_up_52 (lv_at hl 4 rfl) ?_
      refine lv_iconst (v := 1) hx hb dX12_up_54 (by decide) ?_
      refine lv_iload hx hb dX12_up_55 (lv_at hl 5 rfl) ?_
      obtain ⟨r11, hc12, hF⟩ := bd_some hF
      have hPc := hP.sub (ws' := [o12 h x_thrown a_s a_image x_hasImage x_act x_spot x_end x_isWrong x_open a_by a_truths x_turn x_lean x_last x_angle x_asLay x_ticks a_bodies x_ran x_kind x_number x_tellsV, aI G a_by 5 f_by, aI G a_s 1394 f_s, aZ G a_truths 64 f_truths]) [0, 1, 2, 3] rfl
      have hDc := hD.sub (ws' := [o12 h x_thrown a_s a_image x_hasImage x_act x_spot x_end x_isWrong x_open a_by a_truths x_turn x_lean x_last x_angle x_asLay x_ticks a_bodies x_ran x_kind x_number x_tellsV, aI G a_by 5 f_by, aI G a_s 1394 f_s, aZ G a_truths 64 f_truths]) [0, 1, 2, 3] (by decide) rfl
      have hFc := va_free (wc := [o12 h x_thrown a_s a_image x_hasImage x_act x_spot x_end x_isWrong x_open a_by a_truths x_turn x_lean x_last x_angle x_asLay x_ticks a_bodies x_ran x_kind x_number x_tellsV, aI G a_by 5 f_by, aI G a_s 1394 f_s, aZ G a_truths 64 f_truths]) hD hS hA [0, 1, 2, 3] rfl
      have hM := c_X12_goes l G h a_s a_image a_by a_truths a_bodies x_thrown x_hasImage x_act x_spot x_end x_isWrong x_open x_turn x_lean x_last x_angle x_asLay x_ticks x_ran x_kind x_number x_tellsV f_by f_s f_truths l1 l2 l3 l4 (1 : Int32) l5 r11.1 r11.2.1 r11.2.2.1 r11.2.2.2.1 r11.2.2.2.2.1 r11.2.2.2.2.2.1 r11.2.2.2.2.2.2.1 r11.2.2.2.2.2.2.2 hc12 H.size
      refine cl_v (w1 := [o12 h x_thrown a_s a_image x_hasImage x_act x_spot x_end x_isWrong x_open a_by a_truths r11.1 r11.2.1 r11.2.2.1 r11.2.2.2.1 r11.2.2.2.2.1 r11.2.2.2.2.2.1 a_bodies x_ran x_kind x_number x_tellsV, aI G a_by 5 r11.2.2.2.2.2.2.1, aI G a_s 1394 f_s, aZ G a_truths 64 r11.2.2.2.2.2.2.2]) (ws' := [o12 h x_thrown a_s a_image x_hasImage x_act x_spot x_end x_isWrong x_open a_by a_truths r11.1 r11.2.1 r11.2.2.1 r11.2.2.2.1 r11.2.2.2.2.1 r11.2.2.2.2.2.1 a_bodies x_ran x_kind x_number x_tellsV, aI G a_by 5 r11.2.2.2.2.2.2.1, aI G a_s 1394 f_s, aZ G a_truths 64 r11.2.2.2.2.2.2.2]) hP hD hS hFc [0, 1, 2, 3] rfl rfl rfl (va_runV (As := [.int l1, .int l2, .int l3, .int l4, .int 1, .int l5]) (rest := []) ⟨hx, hb, hml, hown, hts⟩ hM (cwV 6 hts gX12_up_X12_goes rfl rfl rfl (by decide +kernel) ⟨Nat.le_of_ble_eq_true rfl, Nat.le_of_ble_eq_true rfl⟩) (cp_V hK hE hS hPc hDc hFc (va_recv hK hPc (ci := 12) (q0 := 0) rfl rfl)) rfl rfl hl.1 rfl (lv_room (Nat.le_of_ble_eq_true rfl)) dX12_up_57 ⟨Nat.zero_le _, Nat.zero_le _⟩) (fun H locs hP hD hS => ?_)
      refine lv_aload_n hx hb dX12_up_60 rfl (lv_at hl 0 rfl) ?_
      refine va_get (D := G.1) (ci := 12) (v := .int r11.2.2.1) (C := RX12) (T := TX12) (N := 22) hx hb hts hin12 hown hK hP 0 rfl rfl 13 (by decide) lk_153 (fun _ h9 => h9) rfl dX12_up_61 ?_
      injection hF with hz
      injection hz with hq0 hz
      injection hz with hq1 hz
      injection hz with hq2 hz
      injection hz with hq3 hz
      injection hz with hq4 hz
      injection hz with hq5 hz
      injection hz with hq6 hz
      injection hz with hq7 hz
      subst hq0
      subst hq1
      subst hq2
      subst hq3
      subst hq4
      subst hq5
      subst hq6
      subst hq7
      subst hz
      exact cm_reti hx hb hr rfl hlk hK hP hD hS dX12_up_64
    rw [if_pos c10] at hF
    refine lv_bipush (v := (-2)) hx hb dX12_up_45 (by decide) ?_
    injection hF with hz
    injection hz with hq0 hz
    injection hz with hq1 hz
    injection hz with hq2 hz
    injection hz with hq3 hz
    injection hz with hq4 hz
    injection hz with hq5 hz
    injection hz with hq6 hz
    injection hz with hq7 hz
    subst hq0
    subst hq1
    subst hq2
    subst hq3
    subst hq4
    subst hq5
    subst hq6
    subst hq7
    subst hz
    exact cm_reti hx hb hr rfl hlk hK hP hD hS dX12_up_47
  rw [if_pos c3] at hF
  refine lv_iconst (v := (-1)) hx hb dX12_up_10 (by decide) ?_
  injection hF with hz
  injection hz with hq0 hz
  injection hz with hq1 hz
  injection hz with hq2 hz
  injection hz with hq3 hz
  injection hz with hq4 hz
  injection hz with hq5 hz
  injection hz with hq6 hz
  injection hz with hq7 hz
  subst hq0
  subst hq1
  subst hq2
  subst hq3
  subst hq4
  subst hq5
  subst hq6
  subst hq7
  subst hz
  exact cm_reti hx hb hr rfl hlk hK hP hD hS dX12_up_11

/-! HeadsByHairModel.headsFrom(IIII)I -/
abbrev rm_X12_headsFrom : Room := { frames := 2, cells := 0, slots := 0, locals := 56 }
set_option maxHeartbeats 4000000 in
set_option maxRecDepth 100000 in
theorem c_X12_headsFrom (l : Launch) (G : GG) (h a_s a_image a_by a_truths a_bodies : Nat) (x_thrown x_hasImage x_act x_spot x_end x_isWrong x_open x_turn x_lean x_last x_angle x_asLay x_ticks x_ran x_kind x_number x_tellsV : Int32) (f_by : Nat → Int32) (f_s : Nat → Int32) (f_truths : Nat → Int32) (l1 : Int32) (l2 : Int32) (l3 : Int32) (l4 : Int32) (z : Int32) (z_x_turn : Int32) (z_x_lean : Int32) (z_x_last : Int32) (z_x_angle : Int32) (z_x_asLay : Int32) (z_x_ticks : Int32) (z_f_by : Nat → Int32) (z_f_truths : Nat → Int32) (hF : fX12_headsFrom x_turn x_lean x_last x_angle x_asLay x_ticks f_by f_s f_truths l1 l2 l3 l4 = some (z, z_x_turn, z_x_lean, z_x_last, z_x_angle, z_x_asLay, z_x_ticks, z_f_by, z_f_truths)) : CMi l yX12_headsFrom wsX12_headsFrom rm_X12_headsFrom G [o12 h x_thrown a_s a_image x_hasImage x_act x_spot x_end x_isWrong x_open a_by a_truths x_turn x_lean x_last x_angle x_asLay x_ticks a_bodies x_ran x_kind x_number x_tellsV, aI G a_by 5 f_by, aI G a_s 1394 f_s, aZ G a_truths 64 f_truths] [o12 h x_thrown a_s a_image x_hasImage x_act x_spot x_end x_isWrong x_open a_by a_truths z_x_turn z_x_lean z_x_last z_x_angle z_x_asLay z_x_ticks a_bodies x_ran x_kind x_number x_tellsV, aI G a_by 5 z_f_by, aI G a_s 1394 f_s, aZ G a_truths 64 z_f_truths] [.ref h, .int l1, .int l2, .int l3, .int l4] z := by
  refine cm_start (cc := cX12_headsFrom) (maxL := 8) (ret := (some .int)) (Qc := fun A => QI G [o12 h x_thrown a_s a_image x_hasImage x_act x_spot x_end x_isWrong x_open a_by a_truths z_x_turn z_x_lean z_x_last z_x_angle z_x_asLay z_x_ticks a_bodies x_ran x_kind x_number x_tellsV, aI G a_by 5 z_f_by, aI G a_s 1394 f_s, aZ G a_truths 64 z_f_truths] z A) (by decide +kernel) rfl (Nat.le_of_ble_eq_true rfl) ?_
  intro p e s m args below meth c A hx hb hr hlk hml hown hnm hts hA H locs hP hK hD hE hS ls hl
  have hown : s.vm.findClass RX12 = some m.cls := hown
  have hl : lv_has ls 8 [(0, .ref h), (1, .int l1), (2, .int l2), (3, .int l3), (4, .int l4)] := hl
  have hin12 : ∀ w ∈ wsX120, w ∈ wsX12_headsFrom := by decide +kernel
  have lk_9 := hts (.fieldLink RX12 9 "HeadsByHairModel" "s" "[I") (by decide +kernel)
  have lk_153 := hts (.fieldLink RX12 153 "HeadsByHairModel" "last" "I") (by decide +kernel)
  revert hF
  have LP16 : ∀ (l1 : Int32) (l2 : Int32) (l3 : Int32) (l4 : Int32) (n : Nat) (x_turn : Int32) (x_lean : Int32) (x_last : Int32) (x_angle : Int32) (x_asLay : Int32) (x_ticks : Int32) (f_by : Nat → Int32) (f_truths : Nat → Int32) (l5 : Int32) (l6 : Int32) (H : Heap) (locs : List Loc) (ls : Array Slot), va_P G.1 vwCl [o12 h x_thrown a_s a_image x_hasImage x_act x_spot x_end x_isWrong x_open a_by a_truths x_turn x_lean x_last x_angle x_asLay x_ticks a_bodies x_ran x_kind x_number x_tellsV, aI G a_by 5 f_by, aI G a_s 1394 f_s, aZ G a_truths 64 f_truths] H → va_D A [o12 h x_thrown a_s a_image x_hasImage x_act x_spot x_end x_isWrong x_open a_by a_truths x_turn x_lean x_last x_angle x_asLay x_ticks a_bodies x_ran x_kind x_number x_tellsV, aI G a_by 5 f_by, aI G a_s 1394 f_s, aZ G a_truths 64 f_truths] → va_S A s.heap H locs → lv_has ls 8 [(0, .ref h), (1, .int l1), (2, .int l2), (3, .int l3), (4, .int l4), (5, .int l5), (6, .int l6)] → fX12_headsFrom_L16 f_s l1 l2 l3 l4 n x_turn x_lean x_last x_angle x_asLay x_ticks f_by f_truths l5 l6 = some (z, z_x_turn, z_x_lean, z_x_last, z_x_angle, z_x_asLay, z_x_ticks, z_f_by, z_f_truths) → W p l e (rm_X12_headsFrom) s m args below meth c H locs 0 0 (MQ below (QI G [o12 h x_thrown a_s a_image x_hasImage x_act x_spot x_end x_isWrong x_open a_by a_truths z_x_turn z_x_lean z_x_last z_x_angle z_x_asLay z_x_ticks a_bodies x_ran x_kind x_number x_tellsV, aI G a_by 5 z_f_by, aI G a_s 1394 f_s, aZ G a_truths 64 z_f_truths] z A) args s 0 0 A) (F0 m 16 ls []) := by
    intro l1 l2 l3 l4 n
    induction n with
    | zero =>
      intro x_turn x_lean x_last x_angle x_asLay x_ticks f_by f_truths l5 l6 H locs ls hP hD hS hl hF
      cases hF
    | succ n ih =>
      have B62 : ∀ (x_turn : Int32) (x_lean : Int32) (x_last : Int32) (x_angle : Int32) (x_asLay : Int32) (x_ticks : Int32) (f_by : Nat → Int32) (f_truths : Nat → Int32) (l5 : Int32) (l6 : Int32) (s1 : Int32) (s2 : Int32) (s3 : Int32) (s4 : Int32) (H : Heap) (locs : List Loc) (ls : Array Slot), va_P G.1 vwCl [o12 h x_thrown a_s a_image x_hasImage x_act x_spot x_end x_isWrong x_open a_by a_truths x_turn x_lean x_last x_angle x_asLay x_ticks a_bodies x_ran x_kind x_number x_tellsV, aI G a_by 5 f_by, aI G a_s 1394 f_s, aZ G a_truths 64 f_truths] H → va_D A [o12 h x_thrown a_s a_image x_hasImage x_act x_spot x_end x_isWrong x_open a_by a_truths x_turn x_lean x_last x_angle x_asLay x_ticks a_bodies x_ran x_kind x_number x_tellsV, aI G a_by 5 f_by, aI G a_s 1394 f_s, aZ G a_truths 64 f_truths] → va_S A s.heap H locs → lv_has ls 8 [(0, .ref h), (1, .int l1), (2, .int l2), (3, .int l3), (4, .int l4), (5, .int l5), (6, .int l6)] → fX12_headsFrom_b62 (fX12_headsFrom_L16 f_s l1 l2 l3 l4 n) x_turn x_lean x_last x_angle x_asLay x_ticks f_by f_s f_truths l1 l2 l3 l4 l5 l6 s1 s2 s3 s4 = some (z, z_x_turn, z_x_lean, z_x_last, z_x_angle, z_x_asLay, z_x_ticks, z_f_by, z_f_truths) → W p l e (rm_X12_headsFrom) s m args below meth c H locs 0 0 (MQ below (QI G [o12 h x_thrown a_s a_image x_hasImage x_act x_spot x_end x_isWrong x_open a_by a_truths z_x_turn z_x_lean z_x_last z_x_angle z_x_asLay z_x_ticks a_bodies x_ran x_kind x_number x_tellsV, aI G a_by 5 z_f_by, aI G a_s 1394 f_s, aZ G a_truths 64 z_f_truths] z A) args s 0 0 A) (F0 m 62 ls [.int s4, .int s3, .int s2, .int s1, .ref h]) := by
        intro x_turn x_lean x_last x_angle x_asLay x_ticks f_by f_truths l5 l6 s1 s2 s3 s4 H locs ls hP hD hS hl hF
        unfold fX12_headsFrom_b62 at hF
        refine lv_iload hx hb dX12_headsFrom_62 (lv_at hl 4 rfl) ?_
        refine lv_iconst (v := 0) hx hb dX12_headsFrom_64 (by decide) ?_
        obtain ⟨r6, hc7, hF⟩ := bd_some hF
        have hPc := hP.sub (ws' := [o12 h x_thrown a_s a_image x_hasImage x_act x_spot x_end x_isWrong x_open a_by a_truths x_turn x_lean x_last x_angle x_asLay x_ticks a_bodies x_ran x_kind x_number x_tellsV, aI G a_by 5 f_by, aI G a_s 1394 f_s, aZ G a_truths 64 f_truths]) [0, 1, 2, 3] rfl
        have hDc := hD.sub (ws' := [o12 h x_thrown a_s a_image x_hasImage x_act x_spot x_end x_isWrong x_open a_by a_truths x_turn x_lean x_last x_angle x_asLay x_ticks a_bodies x_ran x_kind x_number x_tellsV, aI G a_by 5 f_by, aI G a_s 1394 f_s, aZ G a_truths 64 f_truths]) [0, 1, 2, 3] (by decide) rfl
        have hFc := va_free (wc := [o12 h x_thrown a_s a_image x_hasImage x_act x_spot x_end x_isWrong x_open a_by a_truths x_turn x_lean x_last x_angle x_asLay x_ticks a_bodies x_ran x_kind x_number x_tellsV, aI G a_by 5 f_by, aI G a_s 1394 f_s, aZ G a_truths 64 f_truths]) hD hS hA [0, 1, 2, 3] rfl
        have hM := c_X12_goes l G h a_s a_image a_by a_truths a_bodies x_thrown x_hasImage x_act x_spot x_end x_isWrong x_open x_turn x_lean x_last x_angle x_asLay x_ticks x_ran x_kind x_number x_tellsV f_by f_s f_truths s1 s2 s3 s4 l4 (0 : Int32) r6.1 r6.2.1 r6.2.2.1 r6.2.2.2.1 r6.2.2.2.2.1 r6.2.2.2.2.2.1 r6.2.2.2.2.2.2.1 r6.2.2.2.2.2.2.2 hc7 H.size
        refine cl_v (w1 := [o12 h x_thrown a_s a_image x_hasImage x_act x_spot x_end x_isWrong x_open a_by a_truths r6.1 r6.2.1 r6.2.2.1 r6.2.2.2.1 r6.2.2.2.2.1 r6.2.2.2.2.2.1 a_bodies x_ran x_kind x_number x_tellsV, aI G a_by 5 r6.2.2.2.2.2.2.1, aI G a_s 1394 f_s, aZ G a_truths 64 r6.2.2.2.2.2.2.2]) (ws' := [o12 h x_thrown a_s a_image x_hasImage x_act x_spot x_end x_isWrong x_open a_by a_truths r6.1 r6.2.1 r6.2.2.1 r6.2.2.2.1 r6.2.2.2.2.1 r6.2.2.2.2.2.1 a_bodies x_ran x_kind x_number x_tellsV, aI G a_by 5 r6.2.2.2.2.2.2.1, aI G a_s 1394 f_s, aZ G a_truths 64 r6.2.2.2.2.2.2.2]) hP hD hS hFc [0, 1, 2, 3] rfl rfl rfl (va_runV (As := [.int s1, .int s2, .int s3, .int s4, .int l4, .int 0]) (rest := []) ⟨hx, hb, hml, hown, hts⟩ hM (cwV 6 hts gX12_headsFrom_X12_goes rfl rfl rfl (by decide +kernel) ⟨Nat.le_of_ble_eq_true rfl, Nat.le_of_ble_eq_true rfl⟩) (cp_V hK hE hS hPc hDc hFc (va_recv hK hPc (ci := 12) (q0 := 0) rfl rfl)) rfl rfl hl.1 rfl (lv_room (Nat.le_of_ble_eq_true rfl)) dX12_headsFrom_65 ⟨Nat.zero_le _, Nat.zero_le _⟩) (fun H locs hP hD hS => ?_)
        refine lv_iload hx hb dX12_headsFrom_68 (lv_at hl 5 rfl) ?_
        refine lv_aload_n hx hb dX12_headsFrom_70 rfl (lv_at hl 0 rfl) ?_
        refine va_get (D := G.1) (ci := 12) (v := .int r6.2.2.1) (C := RX12) (T := TX12) (N := 22) hx hb hts hin12 hown hK hP 0 rfl rfl 13 (by decide) lk_153 (fun _ h9 => h9) rfl dX12_headsFrom_71 ?_
        refine lv_iadd hx hb dX12_headsFrom_74 ?_
        refine lv_istore (lv' := [(5, .int (l5 + r6.2.2.1)), (0, .ref h), (1, .int l1), (2, .int l2), (3, .int l3), (4, .int l4), (6, .int l6)]) hx hb dX12_headsFrom_75 hl (by decide) rfl (fun ls hl => ?_)
        refine lv_iinc (v := l6 + 1) (lv' := [(6, .int (l6 + 1)), (5, .int (l5 + r6.2.2.1)), (0, .ref h), (1, .int l1), (2, .int l2), (3, .int l3), (4, .int l4)]) hx hb dX12_headsFrom_77 hl (k := 6) rfl rfl (by decide) rfl (fun ls hl => ?_)
        refine lv_goto (tgt := 16) hx hb dX12_headsFrom_80 (by decide) ?_
        exact ih _ _ _ _ _ _ _ _ _ _ H locs ls hP hD hS (lv_sub hl [2, 3, 4, 5, 6, 1, 0] rfl) hF
      intro x_turn x_lean x_last x_angle x_asLay x_ticks f_by f_truths l5 l6 H locs ls hP hD hS hl hF
      rw [fX12_headsFrom_L16] at hF
      refine lv_iload hx hb dX12_headsFrom_16 (lv_at hl 6 rfl) ?_
      refine lv_aload_n hx hb dX12_headsFrom_18 rfl (lv_at hl 0 rfl) ?_
      refine va_get (D := G.1) (ci := 12) (v := .ref a_s) (C := RX12) (T := TX12) (N := 22) hx hb hts hin12 hown hK hP 0 rfl rfl 1 (by decide) lk_9 (fun _ h9 => h9) rfl dX12_headsFrom_19 ?_
      refine lv_sipush (v := 148) hx hb dX12_headsFrom_22 (by decide) ?_
      refine lv_iload_n hx hb dX12_headsFrom_25 rfl (lv_at hl 2 rfl) ?_
      refine lv_iadd hx hb dX12_headsFrom_26 ?_
      obtain ⟨hi2, hF⟩ := ck_some hF
      refine va_iald (D := G.1) hx hb hK hP 2 0 rfl rfl hi2 dX12_headsFrom_27 ?_
      refine lv_icmp_gt (tgt := 83) hx hb dX12_headsFrom_28 (by decide) (fun c3 => ?_) (fun c3 => ?_)
      · rw [if_pos c3] at hF
        refine lv_iload hx hb dX12_headsFrom_83 (lv_at hl 5 rfl) ?_
        injection hF with hz
        injection hz with hq0 hz
        injection hz with hq1 hz
        injection hz with hq2 hz
        injection hz with hq3 hz
        injection hz with hq4 hz
        injection hz with hq5 hz
        injection hz with hq6 hz
        injection hz with hq7 hz
        subst hq0
        subst hq1
        subst hq2
        subst hq3
        subst hq4
        subst hq5
        subst hq6
        subst hq7
        subst hz
        exact cm_reti hx hb hr rfl hlk hK hP hD hS dX12_headsFrom_85
      rw [if_neg c3] at hF
      refine lv_aload_n hx hb dX12_headsFrom_31 rfl (lv_at hl 0 rfl) ?_
      refine va_get (D := G.1) (ci := 12) (v := .ref a_s) (C := RX12) (T := TX12) (N := 22) hx hb hts hin12 hown hK hP 0 rfl rfl 1 (by decide) lk_9 (fun _ h9 => h9) rfl dX12_headsFrom_32 ?_
      refine lv_sipush (v := 142) hx hb dX12_headsFrom_35 (by decide) ?_
      refine lv_iload_n hx hb dX12_headsFrom_38 rfl (lv_at hl 2 rfl) ?_
      refine lv_iadd hx hb dX12_headsFrom_39 ?_
      refine W.eq (g2 := F0 m 40 ls [.int (142 + l2), .ref a_s]) rfl ?_
      obtain ⟨hi4, hF⟩ := ck_some hF
      refine va_iald (D := G.1) hx hb hK hP 2 0 rfl rfl hi4 dX12_headsFrom_40 ?_
      refine lv_iload hx hb dX12_headsFrom_41 (lv_at hl 6 rfl) ?_
      refine lv_iadd hx hb dX12_headsFrom_43 ?_
      refine lv_istore (lv' := [(7, .int ((f_s (142 + l2).toNatClampNeg) + l6)), (0, .ref h), (1, .int l1), (2, .int l2), (3, .int l3), (4, .int l4), (5, .int l5), (6, .int l6)]) hx hb dX12_headsFrom_44 hl (by decide) rfl (fun ls hl => ?_)
      refine lv_aload_n hx hb dX12_headsFrom_46 rfl (lv_at hl 1 rfl) ?_
      refine lv_iload_n hx hb dX12_headsFrom_47 rfl (lv_at hl 2 rfl) ?_
      refine lv_iload_n hx hb dX12_headsFrom_48 rfl (lv_at hl 3 rfl) ?_
      refine lv_iload_n hx hb dX12_headsFrom_49 rfl (lv_at hl 4 rfl) ?_
      refine lv_iload hx hb dX12_headsFrom_50 (lv_at hl 0 rfl) ?_
      refine lv_iconst (v := 1) hx hb dX12_headsFrom_52 (by decide) ?_
      refine lv_icmp_ge (tgt := 60) hx hb dX12_headsFrom_53 (by decide) (fun c5 => ?_) (fun c5 => ?_)
      · rw [if_pos c5] at hF
        refine lv_iload hx hb dX12_headsFrom_60 (lv_at hl 0 rfl) ?_
        exact B62 _ _ _ _ _ _ _ _ _ _ _ _ _ _ H locs ls hP hD hS (lv_sub hl [1, 2, 3, 4, 5, 6, 7] rfl) hF
      rw [if_neg c5] at hF
      refine lv_iconst (v := 1) hx hb dX12_headsFrom_56 (by decide) ?_
      refine lv_goto (tgt := 62) hx hb dX12_headsFrom_57 (by decide) ?_
      exact B62 _ _ _ _ _ _ _ _ _ _ _ _ _ _ H locs ls hP hD hS (lv_sub hl [1, 2, 3, 4, 5, 6, 7] rfl) hF
  intro hF
  unfold fX12_headsFrom at hF
  refine lv_iconst (v := 0) hx hb dX12_headsFrom_0 (by decide) ?_
  refine lv_istore (lv' := [(5, .int 0), (0, .ref h), (1, .int l1), (2, .int l2), (3, .int l3), (4, .int l4)]) hx hb dX12_headsFrom_1 hl (by decide) rfl (fun ls hl => ?_)
  refine lv_aload_n hx hb dX12_headsFrom_3 rfl (lv_at hl 1 rfl) ?_
  refine va_get (D := G.1) (ci := 12) (v := .ref a_s) (C := RX12) (T := TX12) (N := 22) hx hb hts hin12 hown hK hP 0 rfl rfl 1 (by decide) lk_9 (fun _ h9 => h9) rfl dX12_headsFrom_4 ?_
  refine lv_sipush (v := 148) hx hb dX12_headsFrom_7 (by decide) ?_
  refine lv_iload_n hx hb dX12_headsFrom_10 rfl (lv_at hl 3 rfl) ?_
  refine lv_iadd hx hb dX12_headsFrom_11 ?_
  obtain ⟨hi1, hF⟩ := ck_some hF
  refine va_iald (D := G.1) hx hb hK hP 2 0 rfl rfl hi1 dX12_headsFrom_12 ?_
  refine lv_ineg hx hb dX12_headsFrom_13 ?_
  refine lv_istore (lv' := [(6, .int (-(f_s (148 + l2).toNatClampNeg))), (5, .int 0), (0, .ref h), (1, .int l1), (2, .int l2), (3, .int l3), (4, .int l4)]) hx hb dX12_headsFrom_14 hl (by decide) rfl (fun ls hl => ?_)
  refine LP16 _ _ _ _ _ _ _ _ _ _ _ _ _ _ _ H locs ls hP hD hS (lv_sub hl [2, 3, 4, 5, 6, 1, 0] rfl) hF

/-! HeadsByHairModel.divisor(JJ)J -/
abbrev rm_X12_divisor : Room := { frames := 0, cells := 0, slots := 0, locals := 0 }
set_option maxHeartbeats 4000000 in
set_option maxRecDepth 100000 in
theorem c_X12_divisor (l : Launch) (G : GG) (l0 : Int64) (l2 : Int64) (z : Int64) (hF : fX12_divisor l0 l2 = some (z)) : CMl l yX12_divisor wsX12_divisor rm_X12_divisor G [] [] [.long l0, .long l2] z := by
  refine cm_start (cc := cX12_divisor) (maxL := 10) (ret := (some .long)) (Qc := fun A => QL G [] z A) (by decide +kernel) rfl (Nat.le_of_ble_eq_true rfl) ?_
  intro p e s m args below meth c A hx hb hr hlk hml hown hnm hts hA H locs hP hK hD hE hS ls hl
  have hown : s.vm.findClass RX12 = some m.cls := hown
  have hl : lv_has ls 10 [(0, .long l0), (2, .long l2)] := hl
  revert hF
  have LP6 : ∀ (n : Nat) (l4 : Int64) (l6 : Int64) (H : Heap) (locs : List Loc) (ls : Array Slot), va_P G.1 vwCl [] H → va_D A [] → va_S A s.heap H locs → lv_has ls 10 [(4, .long l4), (6, .long l6)] → fX12_divisor_L6 n l4 l6 = some (z) → W p l e (rm_X12_divisor) s m args below meth c H locs 0 0 (MQ below (QL G [] z A) args s 0 0 A) (F0 m 6 ls []) := by
    intro n
    induction n with
    | zero =>
      intro l4 l6 H locs ls hP hD hS hl hF
      cases hF
    | succ n ih =>
      intro l4 l6 H locs ls hP hD hS hl hF
      rw [fX12_divisor_L6] at hF
      refine lv_lload hx hb dX12_divisor_6 (lv_at hl 1 rfl) ?_
      refine lv_lconst (v := 0) hx hb dX12_divisor_8 (by decide) ?_
      refine W.lcmp hx hb dX12_divisor_9 ?_
      refine lv_if_eq (tgt := 31) hx hb dX12_divisor_10 (by decide) (fun c1 => ?_) (fun c1 => ?_)
      · rw [if_pos c1] at hF
        refine lv_lload hx hb dX12_divisor_31 (lv_at hl 0 rfl) ?_
        injection hF with hz
        subst hz
        exact cm_retl hx hb hr hlk hK hP hD hS dX12_divisor_33
      rw [if_neg c1] at hF
      refine lv_lload hx hb dX12_divisor_13 (lv_at hl 0 rfl) ?_
      refine lv_lload hx hb dX12_divisor_15 (lv_at hl 1 rfl) ?_
      obtain ⟨hz2, hF⟩ := ck_some hF
      refine lv_lrem hx hb dX12_divisor_17 hz2 ?_
      refine lv_lstore (lv' := [(8, .long (l4 - l4 / l6 * l6)), (4, .long l4), (6, .long l6)]) hx hb dX12_divisor_18 hl (by decide) rfl (fun ls hl => ?_)
      refine lv_lload hx hb dX12_divisor_20 (lv_at hl 2 rfl) ?_
      refine lv_lstore (lv' := [(4, .long l6), (8, .long (l4 - l4 / l6 * l6)), (6, .long l6)]) hx hb dX12_divisor_22 hl (by decide) rfl (fun ls hl => ?_)
      refine lv_lload hx hb dX12_divisor_24 (lv_at hl 1 rfl) ?_
      refine lv_lstore (lv' := [(6, .long (l4 - l4 / l6 * l6)), (4, .long l6), (8, .long (l4 - l4 / l6 * l6))]) hx hb dX12_divisor_26 hl (by decide) rfl (fun ls hl => ?_)
      refine lv_goto (tgt := 6) hx hb dX12_divisor_28 (by decide) ?_
      exact ih _ _ H locs ls hP hD hS (lv_sub hl [1, 0] rfl) hF
  intro hF
  unfold fX12_divisor at hF
  refine lv_lload_n hx hb dX12_divisor_0 rfl (lv_at hl 0 rfl) ?_
  refine lv_lstore (lv' := [(4, .long l0), (0, .long l0), (2, .long l2)]) hx hb dX12_divisor_1 hl (by decide) rfl (fun ls hl => ?_)
  refine lv_lload_n hx hb dX12_divisor_3 rfl (lv_at hl 2 rfl) ?_
  refine lv_lstore (lv' := [(6, .long l2), (4, .long l0), (0, .long l0), (2, .long l2)]) hx hb dX12_divisor_4 hl (by decide) rfl (fun ls hl => ?_)
  refine LP6 _ _ _ H locs ls hP hD hS (lv_sub hl [1, 0] rfl) hF

/-! HeadsByHairModel.lowest(JJI)J -/
abbrev rm_X12_lowest : Room := { frames := 1, cells := 0, slots := 0, locals := 29 }
set_option maxHeartbeats 4000000 in
set_option maxRecDepth 100000 in
theorem c_X12_lowest (l : Launch) (G : GG) (l0 : Int64) (l2 : Int64) (l4 : Int32) (z : Int64) (hF : fX12_lowest l0 l2 l4 = some (z)) : CMl l yX12_lowest wsX12_lowest rm_X12_lowest G [] [] [.long l0, .long l2, .int l4] z := by
  refine cm_start (cc := cX12_lowest) (maxL := 5) (ret := (some .long)) (Qc := fun A => QL G [] z A) (by decide +kernel) rfl (Nat.le_of_ble_eq_true rfl) ?_
  intro p e s m args below meth c A hx hb hr hlk hml hown hnm hts hA H locs hP hK hD hE hS ls hl
  have hown : s.vm.findClass RX12 = some m.cls := hown
  have hl : lv_has ls 5 [(0, .long l0), (2, .long l2), (4, .int l4)] := hl
  revert hF
  have B10 : ∀ (l0 : Int64) (l2 : Int64) (s0 : Int64) (H : Heap) (locs : List Loc) (ls : Array Slot), va_P G.1 vwCl [] H → va_D A [] → va_S A s.heap H locs → lv_has ls 5 [(0, .long l0), (2, .long l2)] → fX12_lowest_b10 l0 l2 s0 = some (z) → W p l e (rm_X12_lowest) s m args below meth c H locs 0 0 (MQ below (QL G [] z A) args s 0 0 A) (F0 m 10 ls [.long s0]) := by
    intro l0 l2 s0 H locs ls hP hD hS hl hF
    unfold fX12_lowest_b10 at hF
    refine lv_lload_n hx hb dX12_lowest_10 rfl (lv_at hl 0 rfl) ?_
    refine lv_lload_n hx hb dX12_lowest_11 rfl (lv_at hl 1 rfl) ?_
    obtain ⟨r2, hc3, hF⟩ := bd_some hF
    have hPc := hP.sub (ws' := []) [] rfl
    have hDc := hD.sub (ws' := []) [] (by decide) rfl
    have hFc := va_free (wc := []) hD hS hA [] rfl
    have hM := c_X12_divisor l G l0 l2 r2 hc3 H.size
    refine cl_l (w1 := []) (ws' := []) hP hD hS hFc [] rfl rfl rfl (va_runS (As := [.long l0, .long l2]) (rest := [.long s0]) ⟨hx, hb, hml, hown, hts⟩ hM (va_cwS 2 hts gX12_lowest_X12_divisor rfl rfl rfl (by decide +kernel) ⟨Nat.le_of_ble_eq_true rfl, Nat.le_of_ble_eq_true rfl⟩) (cp_S hK hE hS hPc hDc hFc) rfl rfl hl.1 rfl (lv_room (Nat.le_of_ble_eq_true rfl)) dX12_lowest_12 ⟨Nat.zero_le _, Nat.zero_le _⟩) (fun H locs hP hD hS => ?_)
    obtain ⟨hz4, hF⟩ := ck_some hF
    refine lv_ldiv hx hb dX12_lowest_15 hz4 ?_
    injection hF with hz
    subst hz
    exact cm_retl hx hb hr hlk hK hP hD hS dX12_lowest_16
  intro hF
  unfold fX12_lowest at hF
  refine lv_iload hx hb dX12_lowest_0 (lv_at hl 2 rfl) ?_
  refine lv_if_ne (tgt := 9) hx hb dX12_lowest_2 (by decide) (fun c1 => ?_) (fun c1 => ?_)
  · rw [if_neg c1] at hF
    refine lv_lload_n hx hb dX12_lowest_9 rfl (lv_at hl 1 rfl) ?_
    exact B10 _ _ _ H locs ls hP hD hS (lv_sub hl [0, 1] rfl) hF
  rw [if_pos c1] at hF
  refine lv_lload_n hx hb dX12_lowest_5 rfl (lv_at hl 0 rfl) ?_
  refine lv_goto (tgt := 10) hx hb dX12_lowest_6 (by decide) ?_
  exact B10 _ _ _ H locs ls hP hD hS (lv_sub hl [0, 1] rfl) hF

/-! HeadsByHairModel.same(IIII)J -/
abbrev rm_X12_same : Room := { frames := 3, cells := 0, slots := 0, locals := 83 }
set_option maxHeartbeats 4000000 in
set_option maxRecDepth 100000 in
theorem c_X12_same (l : Launch) (G : GG) (h a_s a_image a_by a_truths a_bodies : Nat) (x_thrown x_hasImage x_act x_spot x_end x_isWrong x_open x_turn x_lean x_last x_angle x_asLay x_ticks x_ran x_kind x_number x_tellsV : Int32) (f_by : Nat → Int32) (f_s : Nat → Int32) (f_truths : Nat → Int32) (l1 : Int32) (l2 : Int32) (l3 : Int32) (l4 : Int32) (z : Int64) (z_x_turn : Int32) (z_x_lean : Int32) (z_x_last : Int32) (z_x_angle : Int32) (z_x_asLay : Int32) (z_x_ticks : Int32) (z_f_by : Nat → Int32) (z_f_truths : Nat → Int32) (hF : fX12_same x_turn x_lean x_last x_angle x_asLay x_ticks f_by f_s f_truths l1 l2 l3 l4 = some (z, z_x_turn, z_x_lean, z_x_last, z_x_angle, z_x_asLay, z_x_ticks, z_f_by, z_f_truths)) : CMl l yX12_same wsX12_same rm_X12_same G [o12 h x_thrown a_s a_image x_hasImage x_act x_spot x_end x_isWrong x_open a_by a_truths x_turn x_lean x_last x_angle x_asLay x_ticks a_bodies x_ran x_kind x_number x_tellsV, aI G a_by 5 f_by, aI G a_s 1394 f_s, aZ G a_truths 64 f_truths] [o12 h x_thrown a_s a_image x_hasImage x_act x_spot x_end x_isWrong x_open a_by a_truths z_x_turn z_x_lean z_x_last z_x_angle z_x_asLay z_x_ticks a_bodies x_ran x_kind x_number x_tellsV, aI G a_by 5 z_f_by, aI G a_s 1394 f_s, aZ G a_truths 64 z_f_truths] [.ref h, .int l1, .int l2, .int l3, .int l4] z := by
  refine cm_start (cc := cX12_same) (maxL := 5) (ret := (some .long)) (Qc := fun A => QL G [o12 h x_thrown a_s a_image x_hasImage x_act x_spot x_end x_isWrong x_open a_by a_truths z_x_turn z_x_lean z_x_last z_x_angle z_x_asLay z_x_ticks a_bodies x_ran x_kind x_number x_tellsV, aI G a_by 5 z_f_by, aI G a_s 1394 f_s, aZ G a_truths 64 z_f_truths] z A) (by decide +kernel) rfl (Nat.le_of_ble_eq_true rfl) ?_
  intro p e s m args below meth c A hx hb hr hlk hml hown hnm hts hA H locs hP hK hD hE hS ls hl
  have hown : s.vm.findClass RX12 = some m.cls := hown
  have hl : lv_has ls 5 [(0, .ref h), (1, .int l1), (2, .int l2), (3, .int l3), (4, .int l4)] := hl
  have hin12 : ∀ w ∈ wsX120, w ∈ wsX12_same := by decide +kernel
  have lc_167 := hts (.constantLong RX12 167 (-9223372036854775808)) (by decide +kernel)
  have lk_9 := hts (.fieldLink RX12 9 "HeadsByHairModel" "s" "[I") (by decide +kernel)
  revert hF
  intro hF
  unfold fX12_same at hF
  refine lv_aload_n hx hb dX12_same_0 rfl (lv_at hl 0 rfl) ?_
  refine lv_iload_n hx hb dX12_same_1 rfl (lv_at hl 1 rfl) ?_
  refine lv_iload_n hx hb dX12_same_2 rfl (lv_at hl 2 rfl) ?_
  refine lv_iload_n hx hb dX12_same_3 rfl (lv_at hl 3 rfl) ?_
  obtain ⟨r1, hc2, hF⟩ := bd_some hF
  have hPc := hP.sub (ws' := [o12 h x_thrown a_s a_image x_hasImage x_act x_spot x_end x_isWrong x_open a_by a_truths x_turn x_lean x_last x_angle x_asLay x_ticks a_bodies x_ran x_kind x_number x_tellsV, aI G a_s 1394 f_s]) [0, 2] rfl
  have hDc := hD.sub (ws' := [o12 h x_thrown a_s a_image x_hasImage x_act x_spot x_end x_isWrong x_open a_by a_truths x_turn x_lean x_last x_angle x_asLay x_ticks a_bodies x_ran x_kind x_number x_tellsV, aI G a_s 1394 f_s]) [0, 2] (by decide) rfl
  have hFc := va_free (wc := [o12 h x_thrown a_s a_image x_hasImage x_act x_spot x_end x_isWrong x_open a_by a_truths x_turn x_lean x_last x_angle x_asLay x_ticks a_bodies x_ran x_kind x_number x_tellsV, aI G a_s 1394 f_s]) hD hS hA [0, 2] rfl
  have hM := c_X12_areThere l G h a_s a_image a_by a_truths a_bodies x_thrown x_hasImage x_act x_spot x_end x_isWrong x_open x_turn x_lean x_last x_angle x_asLay x_ticks x_ran x_kind x_number x_tellsV f_s l1 l2 l3 r1 hc2 H.size
  refine cl_i (w1 := [o12 h x_thrown a_s a_image x_hasImage x_act x_spot x_end x_isWrong x_open a_by a_truths x_turn x_lean x_last x_angle x_asLay x_ticks a_bodies x_ran x_kind x_number x_tellsV, aI G a_s 1394 f_s]) (ws' := [o12 h x_thrown a_s a_image x_hasImage x_act x_spot x_end x_isWrong x_open a_by a_truths x_turn x_lean x_last x_angle x_asLay x_ticks a_bodies x_ran x_kind x_number x_tellsV, aI G a_by 5 f_by, aI G a_s 1394 f_s, aZ G a_truths 64 f_truths]) hP hD hS hFc [0, 2] rfl rfl rfl (va_runV (As := [.int l1, .int l2, .int l3]) (rest := []) ⟨hx, hb, hml, hown, hts⟩ hM (cwV 3 hts gX12_same_X12_areThere rfl rfl rfl (by decide +kernel) ⟨Nat.le_of_ble_eq_true rfl, Nat.le_of_ble_eq_true rfl⟩) (cp_V hK hE hS hPc hDc hFc (va_recv hK hPc (ci := 12) (q0 := 0) rfl rfl)) rfl rfl hl.1 rfl (lv_room (Nat.le_of_ble_eq_true rfl)) dX12_same_4 ⟨Nat.zero_le _, Nat.zero_le _⟩) (fun H locs hP hD hS => ?_)
  refine lv_if_eq (tgt := 20) hx hb dX12_same_7 (by decide) (fun c3 => ?_) (fun c3 => ?_)
  · rw [if_pos c3] at hF
    refine lv_ldc2 hx hb hown lc_167 dX12_same_20 ?_
    injection hF with hz
    injection hz with hq0 hz
    injection hz with hq1 hz
    injection hz with hq2 hz
    injection hz with hq3 hz
    injection hz with hq4 hz
    injection hz with hq5 hz
    injection hz with hq6 hz
    injection hz with hq7 hz
    subst hq0
    subst hq1
    subst hq2
    subst hq3
    subst hq4
    subst hq5
    subst hq6
    subst hq7
    subst hz
    exact cm_retl hx hb hr hlk hK hP hD hS dX12_same_23
  rw [if_neg c3] at hF
  refine lv_iload hx hb dX12_same_10 (lv_at hl 4 rfl) ?_
  refine lv_iconst (v := 0) hx hb dX12_same_12 (by decide) ?_
  refine lv_iconst (v := 1) hx hb dX12_same_13 (by decide) ?_
  obtain ⟨r4, hc5, hF⟩ := bd_some hF
  have hPc := hP.sub (ws' := []) [] rfl
  have hDc := hD.sub (ws' := []) [] (by decide) rfl
  have hFc := va_free (wc := []) hD hS hA [] rfl
  have hM := c_X12_in l G l4 (0 : Int32) (1 : Int32) r4 hc5 H.size
  refine cl_i (w1 := []) (ws' := [o12 h x_thrown a_s a_image x_hasImage x_act x_spot x_end x_isWrong x_open a_by a_truths x_turn x_lean x_last x_angle x_asLay x_ticks a_bodies x_ran x_kind x_number x_tellsV, aI G a_by 5 f_by, aI G a_s 1394 f_s, aZ G a_truths 64 f_truths]) hP hD hS hFc [] rfl rfl rfl (va_runS (As := [.int l4, .int 0, .int 1]) (rest := []) ⟨hx, hb, hml, hown, hts⟩ hM (va_cwS 3 hts gX12_same_X12_in rfl rfl rfl (by decide +kernel) ⟨Nat.le_of_ble_eq_true rfl, Nat.le_of_ble_eq_true rfl⟩) (cp_S hK hE hS hPc hDc hFc) rfl rfl hl.1 rfl (lv_room (Nat.le_of_ble_eq_true rfl)) dX12_same_14 ⟨Nat.zero_le _, Nat.zero_le _⟩) (fun H locs hP hD hS => ?_)
  refine lv_if_ne (tgt := 24) hx hb dX12_same_17 (by decide) (fun c6 => ?_) (fun c6 => ?_)
  · rw [if_neg c6] at hF
    refine lv_aload_n hx hb dX12_same_24 rfl (lv_at hl 0 rfl) ?_
    refine lv_iload_n hx hb dX12_same_25 rfl (lv_at hl 1 rfl) ?_
    refine W.eq (g2 := F0 m 26 ls [.int l1, .ref h]) rfl ?_
    refine lv_iload_n hx hb dX12_same_26 rfl (lv_at hl 2 rfl) ?_
    refine lv_iload_n hx hb dX12_same_27 rfl (lv_at hl 3 rfl) ?_
    refine lv_iconst (v := 1) hx hb dX12_same_28 (by decide) ?_
    obtain ⟨r7, hc8, hF⟩ := bd_some hF
    have hPc := hP.sub (ws' := [o12 h x_thrown a_s a_image x_hasImage x_act x_spot x_end x_isWrong x_open a_by a_truths x_turn x_lean x_last x_angle x_asLay x_ticks a_bodies x_ran x_kind x_number x_tellsV, aI G a_by 5 f_by, aI G a_s 1394 f_s, aZ G a_truths 64 f_truths]) [0, 1, 2, 3] rfl
    have hDc := hD.sub (ws' := [o12 h x_thrown a_s a_image x_hasImage x_act x_spot x_end x_isWrong x_open a_by a_truths x_turn x_lean x_last x_angle x_asLay x_ticks a_bodies x_ran x_kind x_number x_tellsV, aI G a_by 5 f_by, aI G a_s 1394 f_s, aZ G a_truths 64 f_truths]) [0, 1, 2, 3] (by decide) rfl
    have hFc := va_free (wc := [o12 h x_thrown a_s a_image x_hasImage x_act x_spot x_end x_isWrong x_open a_by a_truths x_turn x_lean x_last x_angle x_asLay x_ticks a_bodies x_ran x_kind x_number x_tellsV, aI G a_by 5 f_by, aI G a_s 1394 f_s, aZ G a_truths 64 f_truths]) hD hS hA [0, 1, 2, 3] rfl
    have hM := c_X12_headsFrom l G h a_s a_image a_by a_truths a_bodies x_thrown x_hasImage x_act x_spot x_end x_isWrong x_open x_turn x_lean x_last x_angle x_asLay x_ticks x_ran x_kind x_number x_tellsV f_by f_s f_truths l1 l2 l3 (1 : Int32) r7.1 r7.2.1 r7.2.2.1 r7.2.2.2.1 r7.2.2.2.2.1 r7.2.2.2.2.2.1 r7.2.2.2.2.2.2.1 r7.2.2.2.2.2.2.2.1 r7.2.2.2.2.2.2.2.2 hc8 H.size
    refine cl_i (w1 := [o12 h x_thrown a_s a_image x_hasImage x_act x_spot x_end x_isWrong x_open a_by a_truths r7.2.1 r7.2.2.1 r7.2.2.2.1 r7.2.2.2.2.1 r7.2.2.2.2.2.1 r7.2.2.2.2.2.2.1 a_bodies x_ran x_kind x_number x_tellsV, aI G a_by 5 r7.2.2.2.2.2.2.2.1, aI G a_s 1394 f_s, aZ G a_truths 64 r7.2.2.2.2.2.2.2.2]) (ws' := [o12 h x_thrown a_s a_image x_hasImage x_act x_spot x_end x_isWrong x_open a_by a_truths r7.2.1 r7.2.2.1 r7.2.2.2.1 r7.2.2.2.2.1 r7.2.2.2.2.2.1 r7.2.2.2.2.2.2.1 a_bodies x_ran x_kind x_number x_tellsV, aI G a_by 5 r7.2.2.2.2.2.2.2.1, aI G a_s 1394 f_s, aZ G a_truths 64 r7.2.2.2.2.2.2.2.2]) hP hD hS hFc [0, 1, 2, 3] rfl rfl rfl (va_runV (As := [.int l1, .int l2, .int l3, .int 1]) (rest := []) ⟨hx, hb, hml, hown, hts⟩ hM (cwV 4 hts gX12_same_X12_headsFrom rfl rfl rfl (by decide +kernel) ⟨Nat.le_of_ble_eq_true rfl, Nat.le_of_ble_eq_true rfl⟩) (cp_V hK hE hS hPc hDc hFc (va_recv hK hPc (ci := 12) (q0 := 0) rfl rfl)) rfl rfl hl.1 rfl (lv_room (Nat.le_of_ble_eq_true rfl)) dX12_same_29 ⟨Nat.zero_le _, Nat.zero_le _⟩) (fun H locs hP hD hS => ?_)
    refine lv_i2l (v := r7.1.toInt64) hx hb dX12_same_32 rfl ?_
    refine lv_iconst (v := 2) hx hb dX12_same_33 (by decide) ?_
    refine lv_aload_n hx hb dX12_same_34 rfl (lv_at hl 0 rfl) ?_
    refine va_get (D := G.1) (ci := 12) (v := .ref a_s) (C := RX12) (T := TX12) (N := 22) hx hb hts hin12 hown hK hP 0 rfl rfl 1 (by decide) lk_9 (fun _ h9 => h9) rfl dX12_same_35 ?_
    refine lv_sipush (v := 148) hx hb dX12_same_38 (by decide) ?_
    refine lv_iload_n hx hb dX12_same_41 rfl (lv_at hl 2 rfl) ?_
    refine lv_iadd hx hb dX12_same_42 ?_
    obtain ⟨hi9, hF⟩ := ck_some hF
    refine va_iald (D := G.1) hx hb hK hP 2 0 rfl rfl hi9 dX12_same_43 ?_
    refine lv_imul hx hb dX12_same_44 ?_
    refine lv_iconst (v := 1) hx hb dX12_same_45 (by decide) ?_
    refine W.eq (g2 := F0 m 46 ls [.int 1, .int (2 * (f_s (148 + l2).toNatClampNeg)), .long r7.1.toInt64]) rfl ?_
    refine lv_iadd hx hb dX12_same_46 ?_
    refine lv_i2l (v := ((2 * (f_s (148 + l2).toNatClampNeg)) + 1).toInt64) hx hb dX12_same_47 rfl ?_
    refine lv_iload hx hb dX12_same_48 (lv_at hl 4 rfl) ?_
    obtain ⟨r10, hc11, hF⟩ := bd_some hF
    have hPc := hP.sub (ws' := []) [] rfl
    have hDc := hD.sub (ws' := []) [] (by decide) rfl
    have hFc := va_free (wc := []) hD hS hA [] rfl
    have hM := c_X12_lowest l G r7.1.toInt64 (((2 * (f_s (148 + l2).toNatClampNeg)) + 1).toInt64) l4 r10 hc11 H.size
    refine cl_l (w1 := []) (ws' := [o12 h x_thrown a_s a_image x_hasImage x_act x_spot x_end x_isWrong x_open a_by a_truths r7.2.1 r7.2.2.1 r7.2.2.2.1 r7.2.2.2.2.1 r7.2.2.2.2.2.1 r7.2.2.2.2.2.2.1 a_bodies x_ran x_kind x_number x_tellsV, aI G a_by 5 r7.2.2.2.2.2.2.2.1, aI G a_s 1394 f_s, aZ G a_truths 64 r7.2.2.2.2.2.2.2.2]) hP hD hS hFc [] rfl rfl rfl (va_runS (As := [.long r7.1.toInt64, .long (((2 * (f_s (148 + l2).toNatClampNeg)) + 1).toInt64), .int l4]) (rest := []) ⟨hx, hb, hml, hown, hts⟩ hM (va_cwS 3 hts gX12_same_X12_lowest rfl rfl rfl (by decide +kernel) ⟨Nat.le_of_ble_eq_true rfl, Nat.le_of_ble_eq_true rfl⟩) (cp_S hK hE hS hPc hDc hFc) rfl rfl hl.1 rfl (lv_room (Nat.le_of_ble_eq_true rfl)) dX12_same_50 ⟨Nat.zero_le _, Nat.zero_le _⟩) (fun H locs hP hD hS => ?_)
    injection hF with hz
    injection hz with hq0 hz
    injection hz with hq1 hz
    injection hz with hq2 hz
    injection hz with hq3 hz
    injection hz with hq4 hz
    injection hz with hq5 hz
    injection hz with hq6 hz
    injection hz with hq7 hz
    subst hq0
    subst hq1
    subst hq2
    subst hq3
    subst hq4
    subst hq5
    subst hq6
    subst hq7
    subst hz
    exact cm_retl hx hb hr hlk hK hP hD hS dX12_same_53
  rw [if_pos c6] at hF
  refine lv_ldc2 hx hb hown lc_167 dX12_same_20 ?_
  injection hF with hz
  injection hz with hq0 hz
  injection hz with hq1 hz
  injection hz with hq2 hz
  injection hz with hq3 hz
  injection hz with hq4 hz
  injection hz with hq5 hz
  injection hz with hq6 hz
  injection hz with hq7 hz
  subst hq0
  subst hq1
  subst hq2
  subst hq3
  subst hq4
  subst hq5
  subst hq6
  subst hq7
  subst hz
  exact cm_retl hx hb hr hlk hK hP hD hS dX12_same_23

/-! HeadsByHairModel.heads(IIIII)J -/
abbrev rm_X12_heads : Room := { frames := 3, cells := 0, slots := 0, locals := 83 }
set_option maxHeartbeats 4000000 in
set_option maxRecDepth 100000 in
theorem c_X12_heads (l : Launch) (G : GG) (h a_s a_image a_by a_truths a_bodies : Nat) (x_thrown x_hasImage x_act x_spot x_end x_isWrong x_open x_turn x_lean x_last x_angle x_asLay x_ticks x_ran x_kind x_number x_tellsV : Int32) (f_by : Nat → Int32) (f_s : Nat → Int32) (f_truths : Nat → Int32) (l1 : Int32) (l2 : Int32) (l3 : Int32) (l4 : Int32) (l5 : Int32) (z : Int64) (z_x_turn : Int32) (z_x_lean : Int32) (z_x_last : Int32) (z_x_angle : Int32) (z_x_asLay : Int32) (z_x_ticks : Int32) (z_f_by : Nat → Int32) (z_f_truths : Nat → Int32) (hF : fX12_heads x_turn x_lean x_last x_angle x_asLay x_ticks f_by f_s f_truths l1 l2 l3 l4 l5 = some (z, z_x_turn, z_x_lean, z_x_last, z_x_angle, z_x_asLay, z_x_ticks, z_f_by, z_f_truths)) : CMl l yX12_heads wsX12_heads rm_X12_heads G [o12 h x_thrown a_s a_image x_hasImage x_act x_spot x_end x_isWrong x_open a_by a_truths x_turn x_lean x_last x_angle x_asLay x_ticks a_bodies x_ran x_kind x_number x_tellsV, aI G a_by 5 f_by, aI G a_s 1394 f_s, aZ G a_truths 64 f_truths] [o12 h x_thrown a_s a_image x_hasImage x_act x_spot x_end x_isWrong x_open a_by a_truths z_x_turn z_x_lean z_x_last z_x_angle z_x_asLay z_x_ticks a_bodies x_ran x_kind x_number x_tellsV, aI G a_by 5 z_f_by, aI G a_s 1394 f_s, aZ G a_truths 64 z_f_truths] [.ref h, .int l1, .int l2, .int l3, .int l4, .int l5] z := by
  refine cm_start (cc := cX12_heads) (maxL := 8) (ret := (some .long)) (Qc := fun A => QL G [o12 h x_thrown a_s a_image x_hasImage x_act x_spot x_end x_isWrong x_open a_by a_truths z_x_turn z_x_lean z_x_last z_x_angle z_x_asLay z_x_ticks a_bodies x_ran x_kind x_number x_tellsV, aI G a_by 5 z_f_by, aI G a_s 1394 f_s, aZ G a_truths 64 z_f_truths] z A) (by decide +kernel) rfl (Nat.le_of_ble_eq_true rfl) ?_
  intro p e s m args below meth c A hx hb hr hlk hml hown hnm hts hA H locs hP hK hD hE hS ls hl
  have hown : s.vm.findClass RX12 = some m.cls := hown
  have hl : lv_has ls 8 [(0, .ref h), (1, .int l1), (2, .int l2), (3, .int l3), (4, .int l4), (5, .int l5)] := hl
  have hin12 : ∀ w ∈ wsX120, w ∈ wsX12_heads := by decide +kernel
  have lc_167 := hts (.constantLong RX12 167 (-9223372036854775808)) (by decide +kernel)
  have lc_177 := hts (.constantLong RX12 177 (100)) (by decide +kernel)
  have lk_9 := hts (.fieldLink RX12 9 "HeadsByHairModel" "s" "[I") (by decide +kernel)
  revert hF
  intro hF
  unfold fX12_heads at hF
  refine lv_aload_n hx hb dX12_heads_0 rfl (lv_at hl 0 rfl) ?_
  refine lv_iload_n hx hb dX12_heads_1 rfl (lv_at hl 1 rfl) ?_
  refine lv_iload_n hx hb dX12_heads_2 rfl (lv_at hl 2 rfl) ?_
  refine lv_iload_n hx hb dX12_heads_3 rfl (lv_at hl 3 rfl) ?_
  obtain ⟨r1, hc2, hF⟩ := bd_some hF
  have hPc := hP.sub (ws' := [o12 h x_thrown a_s a_image x_hasImage x_act x_spot x_end x_isWrong x_open a_by a_truths x_turn x_lean x_last x_angle x_asLay x_ticks a_bodies x_ran x_kind x_number x_tellsV, aI G a_s 1394 f_s]) [0, 2] rfl
  have hDc := hD.sub (ws' := [o12 h x_thrown a_s a_image x_hasImage x_act x_spot x_end x_isWrong x_open a_by a_truths x_turn x_lean x_last x_angle x_asLay x_ticks a_bodies x_ran x_kind x_number x_tellsV, aI G a_s 1394 f_s]) [0, 2] (by decide) rfl
  have hFc := va_free (wc := [o12 h x_thrown a_s a_image x_hasImage x_act x_spot x_end x_isWrong x_open a_by a_truths x_turn x_lean x_last x_angle x_asLay x_ticks a_bodies x_ran x_kind x_number x_tellsV, aI G a_s 1394 f_s]) hD hS hA [0, 2] rfl
  have hM := c_X12_areThere l G h a_s a_image a_by a_truths a_bodies x_thrown x_hasImage x_act x_spot x_end x_isWrong x_open x_turn x_lean x_last x_angle x_asLay x_ticks x_ran x_kind x_number x_tellsV f_s l1 l2 l3 r1 hc2 H.size
  refine cl_i (w1 := [o12 h x_thrown a_s a_image x_hasImage x_act x_spot x_end x_isWrong x_open a_by a_truths x_turn x_lean x_last x_angle x_asLay x_ticks a_bodies x_ran x_kind x_number x_tellsV, aI G a_s 1394 f_s]) (ws' := [o12 h x_thrown a_s a_image x_hasImage x_act x_spot x_end x_isWrong x_open a_by a_truths x_turn x_lean x_last x_angle x_asLay x_ticks a_bodies x_ran x_kind x_number x_tellsV, aI G a_by 5 f_by, aI G a_s 1394 f_s, aZ G a_truths 64 f_truths]) hP hD hS hFc [0, 2] rfl rfl rfl (va_runV (As := [.int l1, .int l2, .int l3]) (rest := []) ⟨hx, hb, hml, hown, hts⟩ hM (cwV 3 hts gX12_heads_X12_areThere rfl rfl rfl (by decide +kernel) ⟨Nat.le_of_ble_eq_true rfl, Nat.le_of_ble_eq_true rfl⟩) (cp_V hK hE hS hPc hDc hFc (va_recv hK hPc (ci := 12) (q0 := 0) rfl rfl)) rfl rfl hl.1 rfl (lv_room (Nat.le_of_ble_eq_true rfl)) dX12_heads_4 ⟨Nat.zero_le _, Nat.zero_le _⟩) (fun H locs hP hD hS => ?_)
  refine lv_if_eq (tgt := 31) hx hb dX12_heads_7 (by decide) (fun c3 => ?_) (fun c3 => ?_)
  · rw [if_pos c3] at hF
    refine lv_ldc2 hx hb hown lc_167 dX12_heads_31 ?_
    injection hF with hz
    injection hz with hq0 hz
    injection hz with hq1 hz
    injection hz with hq2 hz
    injection hz with hq3 hz
    injection hz with hq4 hz
    injection hz with hq5 hz
    injection hz with hq6 hz
    injection hz with hq7 hz
    subst hq0
    subst hq1
    subst hq2
    subst hq3
    subst hq4
    subst hq5
    subst hq6
    subst hq7
    subst hz
    exact cm_retl hx hb hr hlk hK hP hD hS dX12_heads_34
  rw [if_neg c3] at hF
  refine lv_iload hx hb dX12_heads_10 (lv_at hl 4 rfl) ?_
  refine lv_iconst (v := 0) hx hb dX12_heads_12 (by decide) ?_
  refine lv_bipush (v := 100) hx hb dX12_heads_13 (by decide) ?_
  obtain ⟨r4, hc5, hF⟩ := bd_some hF
  have hPc := hP.sub (ws' := []) [] rfl
  have hDc := hD.sub (ws' := []) [] (by decide) rfl
  have hFc := va_free (wc := []) hD hS hA [] rfl
  have hM := c_X12_in l G l4 (0 : Int32) (100 : Int32) r4 hc5 H.size
  refine cl_i (w1 := []) (ws' := [o12 h x_thrown a_s a_image x_hasImage x_act x_spot x_end x_isWrong x_open a_by a_truths x_turn x_lean x_last x_angle x_asLay x_ticks a_bodies x_ran x_kind x_number x_tellsV, aI G a_by 5 f_by, aI G a_s 1394 f_s, aZ G a_truths 64 f_truths]) hP hD hS hFc [] rfl rfl rfl (va_runS (As := [.int l4, .int 0, .int 100]) (rest := []) ⟨hx, hb, hml, hown, hts⟩ hM (va_cwS 3 hts gX12_heads_X12_in rfl rfl rfl (by decide +kernel) ⟨Nat.le_of_ble_eq_true rfl, Nat.le_of_ble_eq_true rfl⟩) (cp_S hK hE hS hPc hDc hFc) rfl rfl hl.1 rfl (lv_room (Nat.le_of_ble_eq_true rfl)) dX12_heads_15 ⟨Nat.zero_le _, Nat.zero_le _⟩) (fun H locs hP hD hS => ?_)
  refine lv_if_eq (tgt := 31) hx hb dX12_heads_18 (by decide) (fun c6 => ?_) (fun c6 => ?_)
  · rw [if_pos c6] at hF
    refine lv_ldc2 hx hb hown lc_167 dX12_heads_31 ?_
    injection hF with hz
    injection hz with hq0 hz
    injection hz with hq1 hz
    injection hz with hq2 hz
    injection hz with hq3 hz
    injection hz with hq4 hz
    injection hz with hq5 hz
    injection hz with hq6 hz
    injection hz with hq7 hz
    subst hq0
    subst hq1
    subst hq2
    subst hq3
    subst hq4
    subst hq5
    subst hq6
    subst hq7
    subst hz
    exact cm_retl hx hb hr hlk hK hP hD hS dX12_heads_34
  rw [if_neg c6] at hF
  refine lv_iload hx hb dX12_heads_21 (lv_at hl 5 rfl) ?_
  refine lv_iconst (v := 0) hx hb dX12_heads_23 (by decide) ?_
  refine W.eq (g2 := F0 m 24 ls [.int 0, .int l5]) rfl ?_
  refine lv_iconst (v := 1) hx hb dX12_heads_24 (by decide) ?_
  obtain ⟨r7, hc8, hF⟩ := bd_some hF
  have hPc := hP.sub (ws' := []) [] rfl
  have hDc := hD.sub (ws' := []) [] (by decide) rfl
  have hFc := va_free (wc := []) hD hS hA [] rfl
  have hM := c_X12_in l G l5 (0 : Int32) (1 : Int32) r7 hc8 H.size
  refine cl_i (w1 := []) (ws' := [o12 h x_thrown a_s a_image x_hasImage x_act x_spot x_end x_isWrong x_open a_by a_truths x_turn x_lean x_last x_angle x_asLay x_ticks a_bodies x_ran x_kind x_number x_tellsV, aI G a_by 5 f_by, aI G a_s 1394 f_s, aZ G a_truths 64 f_truths]) hP hD hS hFc [] rfl rfl rfl (va_runS (As := [.int l5, .int 0, .int 1]) (rest := []) ⟨hx, hb, hml, hown, hts⟩ hM (va_cwS 3 hts gX12_heads_X12_in rfl rfl rfl (by decide +kernel) ⟨Nat.le_of_ble_eq_true rfl, Nat.le_of_ble_eq_true rfl⟩) (cp_S hK hE hS hPc hDc hFc) rfl rfl hl.1 rfl (lv_room (Nat.le_of_ble_eq_true rfl)) dX12_heads_25 ⟨Nat.zero_le _, Nat.zero_le _⟩) (fun H locs hP hD hS => ?_)
  refine lv_if_ne (tgt := 35) hx hb dX12_heads_28 (by decide) (fun c9 => ?_) (fun c9 => ?_)
  · rw [if_neg c9] at hF
    refine lv_iload hx hb dX12_heads_35 (lv_at hl 4 rfl) ?_
    refine lv_aload_n hx hb dX12_heads_37 rfl (lv_at hl 0 rfl) ?_
    refine lv_iload_n hx hb dX12_heads_38 rfl (lv_at hl 1 rfl) ?_
    refine lv_iload_n hx hb dX12_heads_39 rfl (lv_at hl 2 rfl) ?_
    refine lv_iload_n hx hb dX12_heads_40 rfl (lv_at hl 3 rfl) ?_
    refine lv_iconst (v := 1) hx hb dX12_heads_41 (by decide) ?_
    obtain ⟨r10, hc11, hF⟩ := bd_some hF
    have hPc := hP.sub (ws' := [o12 h x_thrown a_s a_image x_hasImage x_act x_spot x_end x_isWrong x_open a_by a_truths x_turn x_lean x_last x_angle x_asLay x_ticks a_bodies x_ran x_kind x_number x_tellsV, aI G a_by 5 f_by, aI G a_s 1394 f_s, aZ G a_truths 64 f_truths]) [0, 1, 2, 3] rfl
    have hDc := hD.sub (ws' := [o12 h x_thrown a_s a_image x_hasImage x_act x_spot x_end x_isWrong x_open a_by a_truths x_turn x_lean x_last x_angle x_asLay x_ticks a_bodies x_ran x_kind x_number x_tellsV, aI G a_by 5 f_by, aI G a_s 1394 f_s, aZ G a_truths 64 f_truths]) [0, 1, 2, 3] (by decide) rfl
    have hFc := va_free (wc := [o12 h x_thrown a_s a_image x_hasImage x_act x_spot x_end x_isWrong x_open a_by a_truths x_turn x_lean x_last x_angle x_asLay x_ticks a_bodies x_ran x_kind x_number x_tellsV, aI G a_by 5 f_by, aI G a_s 1394 f_s, aZ G a_truths 64 f_truths]) hD hS hA [0, 1, 2, 3] rfl
    have hM := c_X12_headsFrom l G h a_s a_image a_by a_truths a_bodies x_thrown x_hasImage x_act x_spot x_end x_isWrong x_open x_turn x_lean x_last x_angle x_asLay x_ticks x_ran x_kind x_number x_tellsV f_by f_s f_truths l1 l2 l3 (1 : Int32) r10.1 r10.2.1 r10.2.2.1 r10.2.2.2.1 r10.2.2.2.2.1 r10.2.2.2.2.2.1 r10.2.2.2.2.2.2.1 r10.2.2.2.2.2.2.2.1 r10.2.2.2.2.2.2.2.2 hc11 H.size
    refine cl_i (w1 := [o12 h x_thrown a_s a_image x_hasImage x_act x_spot x_end x_isWrong x_open a_by a_truths r10.2.1 r10.2.2.1 r10.2.2.2.1 r10.2.2.2.2.1 r10.2.2.2.2.2.1 r10.2.2.2.2.2.2.1 a_bodies x_ran x_kind x_number x_tellsV, aI G a_by 5 r10.2.2.2.2.2.2.2.1, aI G a_s 1394 f_s, aZ G a_truths 64 r10.2.2.2.2.2.2.2.2]) (ws' := [o12 h x_thrown a_s a_image x_hasImage x_act x_spot x_end x_isWrong x_open a_by a_truths r10.2.1 r10.2.2.1 r10.2.2.2.1 r10.2.2.2.2.1 r10.2.2.2.2.2.1 r10.2.2.2.2.2.2.1 a_bodies x_ran x_kind x_number x_tellsV, aI G a_by 5 r10.2.2.2.2.2.2.2.1, aI G a_s 1394 f_s, aZ G a_truths 64 r10.2.2.2.2.2.2.2.2]) hP hD hS hFc [0, 1, 2, 3] rfl rfl rfl (va_runV (As := [.int l1, .int l2, .int l3, .int 1]) (rest := [.int l4]) ⟨hx, hb, hml, hown, hts⟩ hM (cwV 4 hts gX12_heads_X12_headsFrom rfl rfl rfl (by decide +kernel) ⟨Nat.le_of_ble_eq_true rfl, Nat.le_of_ble_eq_true rfl⟩) (cp_V hK hE hS hPc hDc hFc (va_recv hK hPc (ci := 12) (q0 := 0) rfl rfl)) rfl rfl hl.1 rfl (lv_room (Nat.le_of_ble_eq_true rfl)) dX12_heads_42 ⟨Nat.zero_le _, Nat.zero_le _⟩) (fun H locs hP hD hS => ?_)
    refine lv_imul hx hb dX12_heads_45 ?_
    refine lv_bipush (v := 100) hx hb dX12_heads_46 (by decide) ?_
    refine lv_iload hx hb dX12_heads_48 (lv_at hl 4 rfl) ?_
    refine lv_isub hx hb dX12_heads_50 ?_
    refine W.eq (g2 := F0 m 51 ls [.int (100 - l4), .int (l4 * r10.1)]) rfl ?_
    refine lv_aload_n hx hb dX12_heads_51 rfl (lv_at hl 0 rfl) ?_
    refine lv_iload_n hx hb dX12_heads_52 rfl (lv_at hl 1 rfl) ?_
    refine lv_iload_n hx hb dX12_heads_53 rfl (lv_at hl 2 rfl) ?_
    refine lv_iload_n hx hb dX12_heads_54 rfl (lv_at hl 3 rfl) ?_
    refine lv_iconst (v := 0) hx hb dX12_heads_55 (by decide) ?_
    obtain ⟨r12, hc13, hF⟩ := bd_some hF
    have hPc := hP.sub (ws' := [o12 h x_thrown a_s a_image x_hasImage x_act x_spot x_end x_isWrong x_open a_by a_truths r10.2.1 r10.2.2.1 r10.2.2.2.1 r10.2.2.2.2.1 r10.2.2.2.2.2.1 r10.2.2.2.2.2.2.1 a_bodies x_ran x_kind x_number x_tellsV, aI G a_by 5 r10.2.2.2.2.2.2.2.1, aI G a_s 1394 f_s, aZ G a_truths 64 r10.2.2.2.2.2.2.2.2]) [0, 1, 2, 3] rfl
    have hDc := hD.sub (ws' := [o12 h x_thrown a_s a_image x_hasImage x_act x_spot x_end x_isWrong x_open a_by a_truths r10.2.1 r10.2.2.1 r10.2.2.2.1 r10.2.2.2.2.1 r10.2.2.2.2.2.1 r10.2.2.2.2.2.2.1 a_bodies x_ran x_kind x_number x_tellsV, aI G a_by 5 r10.2.2.2.2.2.2.2.1, aI G a_s 1394 f_s, aZ G a_truths 64 r10.2.2.2.2.2.2.2.2]) [0, 1, 2, 3] (by decide) rfl
    have hFc := va_free (wc := [o12 h x_thrown a_s a_image x_hasImage x_act x_spot x_end x_isWrong x_open a_by a_truths r10.2.1 r10.2.2.1 r10.2.2.2.1 r10.2.2.2.2.1 r10.2.2.2.2.2.1 r10.2.2.2.2.2.2.1 a_bodies x_ran x_kind x_number x_tellsV, aI G a_by 5 r10.2.2.2.2.2.2.2.1, aI G a_s 1394 f_s, aZ G a_truths 64 r10.2.2.2.2.2.2.2.2]) hD hS hA [0, 1, 2, 3] rfl
    have hM := c_X12_headsFrom l G h a_s a_image a_by a_truths a_bodies x_thrown x_hasImage x_act x_spot x_end x_isWrong x_open r10.2.1 r10.2.2.1 r10.2.2.2.1 r10.2.2.2.2.1 r10.2.2.2.2.2.1 r10.2.2.2.2.2.2.1 x_ran x_kind x_number x_tellsV r10.2.2.2.2.2.2.2.1 f_s r10.2.2.2.2.2.2.2.2 l1 l2 l3 (0 : Int32) r12.1 r12.2.1 r12.2.2.1 r12.2.2.2.1 r12.2.2.2.2.1 r12.2.2.2.2.2.1 r12.2.2.2.2.2.2.1 r12.2.2.2.2.2.2.2.1 r12.2.2.2.2.2.2.2.2 hc13 H.size
    refine cl_i (w1 := [o12 h x_thrown a_s a_image x_hasImage x_act x_spot x_end x_isWrong x_open a_by a_truths r12.2.1 r12.2.2.1 r12.2.2.2.1 r12.2.2.2.2.1 r12.2.2.2.2.2.1 r12.2.2.2.2.2.2.1 a_bodies x_ran x_kind x_number x_tellsV, aI G a_by 5 r12.2.2.2.2.2.2.2.1, aI G a_s 1394 f_s, aZ G a_truths 64 r12.2.2.2.2.2.2.2.2]) (ws' := [o12 h x_thrown a_s a_image x_hasImage x_act x_spot x_end x_isWrong x_open a_by a_truths r12.2.1 r12.2.2.1 r12.2.2.2.1 r12.2.2.2.2.1 r12.2.2.2.2.2.1 r12.2.2.2.2.2.2.1 a_bodies x_ran x_kind x_number x_tellsV, aI G a_by 5 r12.2.2.2.2.2.2.2.1, aI G a_s 1394 f_s, aZ G a_truths 64 r12.2.2.2.2.2.2.2.2]) hP hD hS hFc [0, 1, 2, 3] rfl rfl rfl (va_runV (As := [.int l1, .int l2, .int l3, .int 0]) (rest := [.int (100 - l4), .int (l4 * r10.1)]) ⟨hx, hb, hml, hown, hts⟩ hM (cwV 4 hts gX12_heads_X12_headsFrom rfl rfl rfl (by decide +kernel) ⟨Nat.le_of_ble_eq_true rfl, Nat.le_of_ble_eq_true rfl⟩) (cp_V hK hE hS hPc hDc hFc (va_recv hK hPc (ci := 12) (q0 := 0) rfl rfl)) rfl rfl hl.1 rfl (lv_room (Nat.le_of_ble_eq_true rfl)) dX12_heads_56 ⟨Nat.zero_le _, Nat.zero_le _⟩) (fun H locs hP hD hS => ?_)
    refine lv_imul hx hb dX12_heads_59 ?_
    refine lv_iadd hx hb dX12_heads_60 ?_
    refine lv_i2l (v := ((l4 * r10.1) + ((100 - l4) * r12.1)).toInt64) hx hb dX12_heads_61 rfl ?_
    refine lv_lstore (lv' := [(6, .long (((l4 * r10.1) + ((100 - l4) * r12.1)).toInt64)), (0, .ref h), (1, .int l1), (2, .int l2), (3, .int l3), (4, .int l4), (5, .int l5)]) hx hb dX12_heads_62 hl (by decide) rfl (fun ls hl => ?_)
    refine lv_lload hx hb dX12_heads_64 (lv_at hl 0 rfl) ?_
    refine lv_ldc2 hx hb hown lc_177 dX12_heads_66 ?_
    refine lv_iconst (v := 2) hx hb dX12_heads_69 (by decide) ?_
    refine lv_aload_n hx hb dX12_heads_70 rfl (lv_at hl 1 rfl) ?_
    refine W.eq (g2 := F0 m 71 ls [.ref h, .int 2, .long 100, .long (((l4 * r10.1) + ((100 - l4) * r12.1)).toInt64)]) rfl ?_
    refine va_get (D := G.1) (ci := 12) (v := .ref a_s) (C := RX12) (T := TX12) (N := 22) hx hb hts hin12 hown hK hP 0 rfl rfl 1 (by decide) lk_9 (fun _ h9 => h9) rfl dX12_heads_71 ?_
    refine lv_sipush (v := 148) hx hb dX12_heads_74 (by decide) ?_
    refine lv_iload_n hx hb dX12_heads_77 rfl (lv_at hl 3 rfl) ?_
    refine lv_iadd hx hb dX12_heads_78 ?_
    obtain ⟨hi14, hF⟩ := ck_some hF
    refine va_iald (D := G.1) hx hb hK hP 2 0 rfl rfl hi14 dX12_heads_79 ?_
    refine lv_imul hx hb dX12_heads_80 ?_
    refine lv_iconst (v := 1) hx hb dX12_heads_81 (by decide) ?_
    refine lv_iadd hx hb dX12_heads_82 ?_
    refine lv_i2l (v := ((2 * (f_s (148 + l2).toNatClampNeg)) + 1).toInt64) hx hb dX12_heads_83 rfl ?_
    refine lv_lmul hx hb dX12_heads_84 ?_
    refine lv_iload hx hb dX12_heads_85 (lv_at hl 6 rfl) ?_
    obtain ⟨r15, hc16, hF⟩ := bd_some hF
    have hPc := hP.sub (ws' := []) [] rfl
    have hDc := hD.sub (ws' := []) [] (by decide) rfl
    have hFc := va_free (wc := []) hD hS hA [] rfl
    have hM := c_X12_lowest l G (((l4 * r10.1) + ((100 - l4) * r12.1)).toInt64) (100 * (((2 * (f_s (148 + l2).toNatClampNeg)) + 1).toInt64)) l5 r15 hc16 H.size
    refine cl_l (w1 := []) (ws' := [o12 h x_thrown a_s a_image x_hasImage x_act x_spot x_end x_isWrong x_open a_by a_truths r12.2.1 r12.2.2.1 r12.2.2.2.1 r12.2.2.2.2.1 r12.2.2.2.2.2.1 r12.2.2.2.2.2.2.1 a_bodies x_ran x_kind x_number x_tellsV, aI G a_by 5 r12.2.2.2.2.2.2.2.1, aI G a_s 1394 f_s, aZ G a_truths 64 r12.2.2.2.2.2.2.2.2]) hP hD hS hFc [] rfl rfl rfl (va_runS (As := [.long (((l4 * r10.1) + ((100 - l4) * r12.1)).toInt64), .long (100 * (((2 * (f_s (148 + l2).toNatClampNeg)) + 1).toInt64)), .int l5]) (rest := []) ⟨hx, hb, hml, hown, hts⟩ hM (va_cwS 3 hts gX12_heads_X12_lowest rfl rfl rfl (by decide +kernel) ⟨Nat.le_of_ble_eq_true rfl, Nat.le_of_ble_eq_true rfl⟩) (cp_S hK hE hS hPc hDc hFc) rfl rfl hl.1 rfl (lv_room (Nat.le_of_ble_eq_true rfl)) dX12_heads_87 ⟨Nat.zero_le _, Nat.zero_le _⟩) (fun H locs hP hD hS => ?_)
    injection hF with hz
    injection hz with hq0 hz
    injection hz with hq1 hz
    injection hz with hq2 hz
    injection hz with hq3 hz
    injection hz with hq4 hz
    injection hz with hq5 hz
    injection hz with hq6 hz
    injection hz with hq7 hz
    subst hq0
    subst hq1
    subst hq2
    subst hq3
    subst hq4
    subst hq5
    subst hq6
    subst hq7
    subst hz
    exact cm_retl hx hb hr hlk hK hP hD hS dX12_heads_90
  rw [if_pos c9] at hF
  refine lv_ldc2 hx hb hown lc_167 dX12_heads_31 ?_
  injection hF with hz
  injection hz with hq0 hz
  injection hz with hq1 hz
  injection hz with hq2 hz
  injection hz with hq3 hz
  injection hz with hq4 hz
  injection hz with hq5 hz
  injection hz with hq6 hz
  injection hz with hq7 hz
  subst hq0
  subst hq1
  subst hq2
  subst hq3
  subst hq4
  subst hq5
  subst hq6
  subst hq7
  subst hz
  exact cm_retl hx hb hr hlk hK hP hD hS dX12_heads_34

/-! HeadsByHairModel.steady(IIII)I -/
abbrev rm_X12_steady : Room := { frames := 3, cells := 0, slots := 0, locals := 66 }
set_option maxHeartbeats 4000000 in
set_option maxRecDepth 100000 in
theorem c_X12_steady (l : Launch) (G : GG) (h a_s a_image a_by a_truths a_bodies : Nat) (x_thrown x_hasImage x_act x_spot x_end x_isWrong x_open x_turn x_lean x_last x_angle x_asLay x_ticks x_ran x_kind x_number x_tellsV : Int32) (f_by : Nat → Int32) (f_s : Nat → Int32) (f_truths : Nat → Int32) (l1 : Int32) (l2 : Int32) (l3 : Int32) (l4 : Int32) (z : Int32) (z_x_turn : Int32) (z_x_lean : Int32) (z_x_last : Int32) (z_x_angle : Int32) (z_x_asLay : Int32) (z_x_ticks : Int32) (z_f_by : Nat → Int32) (z_f_truths : Nat → Int32) (hF : fX12_steady x_turn x_lean x_last x_angle x_asLay x_ticks f_by f_s f_truths l1 l2 l3 l4 = some (z, z_x_turn, z_x_lean, z_x_last, z_x_angle, z_x_asLay, z_x_ticks, z_f_by, z_f_truths)) : CMi l yX12_steady wsX12_steady rm_X12_steady G [o12 h x_thrown a_s a_image x_hasImage x_act x_spot x_end x_isWrong x_open a_by a_truths x_turn x_lean x_last x_angle x_asLay x_ticks a_bodies x_ran x_kind x_number x_tellsV, aI G a_by 5 f_by, aI G a_s 1394 f_s, aZ G a_truths 64 f_truths] [o12 h x_thrown a_s a_image x_hasImage x_act x_spot x_end x_isWrong x_open a_by a_truths z_x_turn z_x_lean z_x_last z_x_angle z_x_asLay z_x_ticks a_bodies x_ran x_kind x_number x_tellsV, aI G a_by 5 z_f_by, aI G a_s 1394 f_s, aZ G a_truths 64 z_f_truths] [.ref h, .int l1, .int l2, .int l3, .int l4] z := by
  refine cm_start (cc := cX12_steady) (maxL := 9) (ret := (some .int)) (Qc := fun A => QI G [o12 h x_thrown a_s a_image x_hasImage x_act x_spot x_end x_isWrong x_open a_by a_truths z_x_turn z_x_lean z_x_last z_x_angle z_x_asLay z_x_ticks a_bodies x_ran x_kind x_number x_tellsV, aI G a_by 5 z_f_by, aI G a_s 1394 f_s, aZ G a_truths 64 z_f_truths] z A) (by decide +kernel) rfl (Nat.le_of_ble_eq_true rfl) ?_
  intro p e s m args below meth c A hx hb hr hlk hml hown hnm hts hA H locs hP hK hD hE hS ls hl
  have hown : s.vm.findClass RX12 = some m.cls := hown
  have hl : lv_has ls 9 [(0, .ref h), (1, .int l1), (2, .int l2), (3, .int l3), (4, .int l4)] := hl
  have hin12 : ∀ w ∈ wsX120, w ∈ wsX12_steady := by decide +kernel
  have lk_153 := hts (.fieldLink RX12 153 "HeadsByHairModel" "last" "I") (by decide +kernel)
  revert hF
  have LP35 : ∀ (l1 : Int32) (l2 : Int32) (l3 : Int32) (l4 : Int32) (k105 : Int32 → Int32 → Int32 → Int32 → Int32 → Int32 → (Nat → Int32) → (Nat → Int32) → Int32 → Int32 → Option (Int32 × Int32 × Int32 × Int32 × Int32 × Int32 × Int32 × (Nat → Int32) × (Nat → Int32))) (hk105 : ∀ (x_turn : Int32) (x_lean : Int32) (x_last : Int32) (x_angle : Int32) (x_asLay : Int32) (x_ticks : Int32) (f_by : Nat → Int32) (f_truths : Nat → Int32) (l5 : Int32) (l6 : Int32) (H : Heap) (locs : List Loc) (ls : Array Slot), va_P G.1 vwCl [o12 h x_thrown a_s a_image x_hasImage x_act x_spot x_end x_isWrong x_open a_by a_truths x_turn x_lean x_last x_angle x_asLay x_ticks a_bodies x_ran x_kind x_number x_tellsV, aI G a_by 5 f_by, aI G a_s 1394 f_s, aZ G a_truths 64 f_truths] H → va_D A [o12 h x_thrown a_s a_image x_hasImage x_act x_spot x_end x_isWrong x_open a_by a_truths x_turn x_lean x_last x_angle x_asLay x_ticks a_bodies x_ran x_kind x_number x_tellsV, aI G a_by 5 f_by, aI G a_s 1394 f_s, aZ G a_truths 64 f_truths] → va_S A s.heap H locs → lv_has ls 9 [(4, .int l4), (5, .int l5), (6, .int l6)] → k105 x_turn x_lean x_last x_angle x_asLay x_ticks f_by f_truths l5 l6 = some (z, z_x_turn, z_x_lean, z_x_last, z_x_angle, z_x_asLay, z_x_ticks, z_f_by, z_f_truths) → W p l e (rm_X12_steady) s m args below meth c H locs 0 0 (MQ below (QI G [o12 h x_thrown a_s a_image x_hasImage x_act x_spot x_end x_isWrong x_open a_by a_truths z_x_turn z_x_lean z_x_last z_x_angle z_x_asLay z_x_ticks a_bodies x_ran x_kind x_number x_tellsV, aI G a_by 5 z_f_by, aI G a_s 1394 f_s, aZ G a_truths 64 z_f_truths] z A) args s 0 0 A) (F0 m 105 ls [])) (n : Nat) (x_turn : Int32) (x_lean : Int32) (x_last : Int32) (x_angle : Int32) (x_asLay : Int32) (x_ticks : Int32) (f_by : Nat → Int32) (f_truths : Nat → Int32) (l5 : Int32) (l6 : Int32) (l7 : Int32) (l8 : Int32) (H : Heap) (locs : List Loc) (ls : Array Slot), va_P G.1 vwCl [o12 h x_thrown a_s a_image x_hasImage x_act x_spot x_end x_isWrong x_open a_by a_truths x_turn x_lean x_last x_angle x_asLay x_ticks a_bodies x_ran x_kind x_number x_tellsV, aI G a_by 5 f_by, aI G a_s 1394 f_s, aZ G a_truths 64 f_truths] H → va_D A [o12 h x_thrown a_s a_image x_hasImage x_act x_spot x_end x_isWrong x_open a_by a_truths x_turn x_lean x_last x_angle x_asLay x_ticks a_bodies x_ran x_kind x_number x_tellsV, aI G a_by 5 f_by, aI G a_s 1394 f_s, aZ G a_truths 64 f_truths] → va_S A s.heap H locs → lv_has ls 9 [(0, .ref h), (1, .int l1), (2, .int l2), (3, .int l3), (4, .int l4), (5, .int l5), (6, .int l6), (7, .int l7), (8, .int l8)] → fX12_steady_L35 k105 f_s l1 l2 l3 l4 n x_turn x_lean x_last x_angle x_asLay x_ticks f_by f_truths l5 l6 l7 l8 = some (z, z_x_turn, z_x_lean, z_x_last, z_x_angle, z_x_asLay, z_x_ticks, z_f_by, z_f_truths) → W p l e (rm_X12_steady) s m args below meth c H locs 0 0 (MQ below (QI G [o12 h x_thrown a_s a_image x_hasImage x_act x_spot x_end x_isWrong x_open a_by a_truths z_x_turn z_x_lean z_x_last z_x_angle z_x_asLay z_x_ticks a_bodies x_ran x_kind x_number x_tellsV, aI G a_by 5 z_f_by, aI G a_s 1394 f_s, aZ G a_truths 64 z_f_truths] z A) args s 0 0 A) (F0 m 35 ls []) := by
    intro l1 l2 l3 l4 k105 hk105 n
    induction n with
    | zero =>
      intro x_turn x_lean x_last x_angle x_asLay x_ticks f_by f_truths l5 l6 l7 l8 H locs ls hP hD hS hl hF
      cases hF
    | succ n ih =>
      have B91 : ∀ (x_turn : Int32) (x_lean : Int32) (x_last : Int32) (x_angle : Int32) (x_asLay : Int32) (x_ticks : Int32) (f_by : Nat → Int32) (f_truths : Nat → Int32) (l5 : Int32) (l8 : Int32) (s0 : Int32) (H : Heap) (locs : List Loc) (ls : Array Slot), va_P G.1 vwCl [o12 h x_thrown a_s a_image x_hasImage x_act x_spot x_end x_isWrong x_open a_by a_truths x_turn x_lean x_last x_angle x_asLay x_ticks a_bodies x_ran x_kind x_number x_tellsV, aI G a_by 5 f_by, aI G a_s 1394 f_s, aZ G a_truths 64 f_truths] H → va_D A [o12 h x_thrown a_s a_image x_hasImage x_act x_spot x_end x_isWrong x_open a_by a_truths x_turn x_lean x_last x_angle x_asLay x_ticks a_bodies x_ran x_kind x_number x_tellsV, aI G a_by 5 f_by, aI G a_s 1394 f_s, aZ G a_truths 64 f_truths] → va_S A s.heap H locs → lv_has ls 9 [(0, .ref h), (1, .int l1), (2, .int l2), (3, .int l3), (4, .int l4), (5, .int l5), (8, .int l8)] → fX12_steady_b91 (fX12_steady_L35 k105 f_s l1 l2 l3 l4 n) k105 x_turn x_lean x_last x_angle x_asLay x_ticks f_by f_s f_truths l1 l2 l3 l4 l5 l8 s0 = some (z, z_x_turn, z_x_lean, z_x_last, z_x_angle, z_x_asLay, z_x_ticks, z_f_by, z_f_truths) → W p l e (rm_X12_steady) s m args below meth c H locs 0 0 (MQ below (QI G [o12 h x_thrown a_s a_image x_hasImage x_act x_spot x_end x_isWrong x_open a_by a_truths z_x_turn z_x_lean z_x_last z_x_angle z_x_asLay z_x_ticks a_bodies x_ran x_kind x_number x_tellsV, aI G a_by 5 z_f_by, aI G a_s 1394 f_s, aZ G a_truths 64 z_f_truths] z A) args s 0 0 A) (F0 m 91 ls [.int s0]) := by
        intro x_turn x_lean x_last x_angle x_asLay x_ticks f_by f_truths l5 l8 s0 H locs ls hP hD hS hl hF
        unfold fX12_steady_b91 at hF
        refine lv_istore (lv' := [(6, .int s0), (0, .ref h), (1, .int l1), (2, .int l2), (3, .int l3), (4, .int l4), (5, .int l5), (8, .int l8)]) hx hb dX12_steady_91 hl (by decide) rfl (fun ls hl => ?_)
        refine lv_aload_n hx hb dX12_steady_93 rfl (lv_at hl 1 rfl) ?_
        refine va_get (D := G.1) (ci := 12) (v := .int x_last) (C := RX12) (T := TX12) (N := 22) hx hb hts hin12 hown hK hP 0 rfl rfl 13 (by decide) lk_153 (fun _ h9 => h9) rfl dX12_steady_94 ?_
        refine lv_istore (lv' := [(7, .int x_last), (6, .int s0), (0, .ref h), (1, .int l1), (2, .int l2), (3, .int l3), (4, .int l4), (5, .int l5), (8, .int l8)]) hx hb dX12_steady_97 hl (by decide) rfl (fun ls hl => ?_)
        refine lv_iinc (v := l8 + 1) (lv' := [(8, .int (l8 + 1)), (7, .int x_last), (6, .int s0), (0, .ref h), (1, .int l1), (2, .int l2), (3, .int l3), (4, .int l4), (5, .int l5)]) hx hb dX12_steady_99 hl (k := 8) rfl rfl (by decide) rfl (fun ls hl => ?_)
        refine lv_goto (tgt := 35) hx hb dX12_steady_102 (by decide) ?_
        exact ih _ _ _ _ _ _ _ _ _ _ _ _ H locs ls hP hD hS (lv_sub hl [3, 4, 5, 6, 7, 8, 2, 1, 0] rfl) hF
      have B89 : ∀ (x_turn : Int32) (x_lean : Int32) (x_last : Int32) (x_angle : Int32) (x_asLay : Int32) (x_ticks : Int32) (f_by : Nat → Int32) (f_truths : Nat → Int32) (l5 : Int32) (l6 : Int32) (l8 : Int32) (H : Heap) (locs : List Loc) (ls : Array Slot), va_P G.1 vwCl [o12 h x_thrown a_s a_image x_hasImage x_act x_spot x_end x_isWrong x_open a_by a_truths x_turn x_lean x_last x_angle x_asLay x_ticks a_bodies x_ran x_kind x_number x_tellsV, aI G a_by 5 f_by, aI G a_s 1394 f_s, aZ G a_truths 64 f_truths] H → va_D A [o12 h x_thrown a_s a_image x_hasImage x_act x_spot x_end x_isWrong x_open a_by a_truths x_turn x_lean x_last x_angle x_asLay x_ticks a_bodies x_ran x_kind x_number x_tellsV, aI G a_by 5 f_by, aI G a_s 1394 f_s, aZ G a_truths 64 f_truths] → va_S A s.heap H locs → lv_has ls 9 [(0, .ref h), (1, .int l1), (2, .int l2), (3, .int l3), (4, .int l4), (5, .int l5), (6, .int l6), (8, .int l8)] → fX12_steady_b89 (fX12_steady_L35 k105 f_s l1 l2 l3 l4 n) k105 x_turn x_lean x_last x_angle x_asLay x_ticks f_by f_s f_truths l1 l2 l3 l4 l5 l6 l8 = some (z, z_x_turn, z_x_lean, z_x_last, z_x_angle, z_x_asLay, z_x_ticks, z_f_by, z_f_truths) → W p l e (rm_X12_steady) s m args below meth c H locs 0 0 (MQ below (QI G [o12 h x_thrown a_s a_image x_hasImage x_act x_spot x_end x_isWrong x_open a_by a_truths z_x_turn z_x_lean z_x_last z_x_angle z_x_asLay z_x_ticks a_bodies x_ran x_kind x_number x_tellsV, aI G a_by 5 z_f_by, aI G a_s 1394 f_s, aZ G a_truths 64 z_f_truths] z A) args s 0 0 A) (F0 m 89 ls []) := by
        intro x_turn x_lean x_last x_angle x_asLay x_ticks f_by f_truths l5 l6 l8 H locs ls hP hD hS hl hF
        unfold fX12_steady_b89 at hF
        refine lv_iload hx hb dX12_steady_89 (lv_at hl 6 rfl) ?_
        exact B91 _ _ _ _ _ _ _ _ _ _ _ H locs ls hP hD hS (lv_sub hl [0, 1, 2, 3, 4, 5, 7] rfl) hF
      intro x_turn x_lean x_last x_angle x_asLay x_ticks f_by f_truths l5 l6 l7 l8 H locs ls hP hD hS hl hF
      rw [fX12_steady_L35] at hF
      refine lv_iload hx hb dX12_steady_35 (lv_at hl 8 rfl) ?_
      refine lv_bipush (v := 40) hx hb dX12_steady_37 (by decide) ?_
      refine lv_icmp_gt (tgt := 105) hx hb dX12_steady_39 (by decide) (fun c7 => ?_) (fun c7 => ?_)
      · rw [if_pos c7] at hF
        exact hk105 _ _ _ _ _ _ _ _ _ _ H locs ls hP hD hS (lv_sub hl [4, 5, 6] rfl) hF
      rw [if_neg c7] at hF
      refine lv_aload_n hx hb dX12_steady_42 rfl (lv_at hl 0 rfl) ?_
      refine lv_iload_n hx hb dX12_steady_43 rfl (lv_at hl 1 rfl) ?_
      refine lv_iload_n hx hb dX12_steady_44 rfl (lv_at hl 2 rfl) ?_
      refine lv_iload_n hx hb dX12_steady_45 rfl (lv_at hl 3 rfl) ?_
      refine lv_iload hx hb dX12_steady_46 (lv_at hl 8 rfl) ?_
      refine lv_iconst (v := 1) hx hb dX12_steady_48 (by decide) ?_
      refine lv_iconst (v := 0) hx hb dX12_steady_49 (by decide) ?_
      obtain ⟨r8, hc9, hF⟩ := bd_some hF
      have hPc := hP.sub (ws' := [o12 h x_thrown a_s a_image x_hasImage x_act x_spot x_end x_isWrong x_open a_by a_truths x_turn x_lean x_last x_angle x_asLay x_ticks a_bodies x_ran x_kind x_number x_tellsV, aI G a_by 5 f_by, aI G a_s 1394 f_s, aZ G a_truths 64 f_truths]) [0, 1, 2, 3] rfl
      have hDc := hD.sub (ws' := [o12 h x_thrown a_s a_image x_hasImage x_act x_spot x_end x_isWrong x_open a_by a_truths x_turn x_lean x_last x_angle x_asLay x_ticks a_bodies x_ran x_kind x_number x_tellsV, aI G a_by 5 f_by, aI G a_s 1394 f_s, aZ G a_truths 64 f_truths]) [0, 1, 2, 3] (by decide) rfl
      have hFc := va_free (wc := [o12 h x_thrown a_s a_image x_hasImage x_act x_spot x_end x_isWrong x_open a_by a_truths x_turn x_lean x_last x_angle x_asLay x_ticks a_bodies x_ran x_kind x_number x_tellsV, aI G a_by 5 f_by, aI G a_s 1394 f_s, aZ G a_truths 64 f_truths]) hD hS hA [0, 1, 2, 3] rfl
      have hM := c_X12_goes l G h a_s a_image a_by a_truths a_bodies x_thrown x_hasImage x_act x_spot x_end x_isWrong x_open x_turn x_lean x_last x_angle x_asLay x_ticks x_ran x_kind x_number x_tellsV f_by f_s f_truths l1 l2 l3 l8 (1 : Int32) (0 : Int32) r8.1 r8.2.1 r8.2.2.1 r8.2.2.2.1 r8.2.2.2.2.1 r8.2.2.2.2.2.1 r8.2.2.2.2.2.2.1 r8.2.2.2.2.2.2.2 hc9 H.size
      refine cl_v (w1 := [o12 h x_thrown a_s a_image x_hasImage x_act x_spot x_end x_isWrong x_open a_by a_truths r8.1 r8.2.1 r8.2.2.1 r8.2.2.2.1 r8.2.2.2.2.1 r8.2.2.2.2.2.1 a_bodies x_ran x_kind x_number x_tellsV, aI G a_by 5 r8.2.2.2.2.2.2.1, aI G a_s 1394 f_s, aZ G a_truths 64 r8.2.2.2.2.2.2.2]) (ws' := [o12 h x_thrown a_s a_image x_hasImage x_act x_spot x_end x_isWrong x_open a_by a_truths r8.1 r8.2.1 r8.2.2.1 r8.2.2.2.1 r8.2.2.2.2.1 r8.2.2.2.2.2.1 a_bodies x_ran x_kind x_number x_tellsV, aI G a_by 5 r8.2.2.2.2.2.2.1, aI G a_s 1394 f_s, aZ G a_truths 64 r8.2.2.2.2.2.2.2]) hP hD hS hFc [0, 1, 2, 3] rfl rfl rfl (va_runV (As := [.int l1, .int l2, .int l3, .int l8, .int 1, .int 0]) (rest := []) ⟨hx, hb, hml, hown, hts⟩ hM (cwV 6 hts gX12_steady_X12_goes rfl rfl rfl (by decide +kernel) ⟨Nat.le_of_ble_eq_true rfl, Nat.le_of_ble_eq_true rfl⟩) (cp_V hK hE hS hPc hDc hFc (va_recv hK hPc (ci := 12) (q0 := 0) rfl rfl)) rfl rfl hl.1 rfl (lv_room (Nat.le_of_ble_eq_true rfl)) dX12_steady_50 ⟨Nat.zero_le _, Nat.zero_le _⟩) (fun H locs hP hD hS => ?_)
      refine lv_iload hx hb dX12_steady_53 (lv_at hl 5 rfl) ?_
      refine lv_aload_n hx hb dX12_steady_55 rfl (lv_at hl 0 rfl) ?_
      refine W.eq (g2 := F0 m 56 ls [.ref h, .int l5]) rfl ?_
      refine va_get (D := G.1) (ci := 12) (v := .int r8.2.2.1) (C := RX12) (T := TX12) (N := 22) hx hb hts hin12 hown hK hP 0 rfl rfl 13 (by decide) lk_153 (fun _ h9 => h9) rfl dX12_steady_56 ?_
      refine lv_iadd hx hb dX12_steady_59 ?_
      refine lv_istore (lv' := [(5, .int (l5 + r8.2.2.1)), (0, .ref h), (1, .int l1), (2, .int l2), (3, .int l3), (4, .int l4), (6, .int l6), (7, .int l7), (8, .int l8)]) hx hb dX12_steady_60 hl (by decide) rfl (fun ls hl => ?_)
      refine lv_iload hx hb dX12_steady_62 (lv_at hl 6 rfl) ?_
      refine lv_bipush (v := (-5)) hx hb dX12_steady_64 (by decide) ?_
      refine lv_icmp_ne (tgt := 89) hx hb dX12_steady_66 (by decide) (fun c10 => ?_) (fun c10 => ?_)
      · rw [if_neg c10] at hF
        exact B89 _ _ _ _ _ _ _ _ _ _ _ H locs ls hP hD hS (lv_sub hl [1, 2, 3, 4, 5, 0, 6, 8] rfl) hF
      rw [if_pos c10] at hF
      refine lv_iload hx hb dX12_steady_69 (lv_at hl 8 rfl) ?_
      refine lv_iconst (v := 1) hx hb dX12_steady_71 (by decide) ?_
      refine lv_icmp_le (tgt := 89) hx hb dX12_steady_72 (by decide) (fun c11 => ?_) (fun c11 => ?_)
      · rw [if_pos c11] at hF
        exact B89 _ _ _ _ _ _ _ _ _ _ _ H locs ls hP hD hS (lv_sub hl [1, 2, 3, 4, 5, 0, 6, 8] rfl) hF
      rw [if_neg c11] at hF
      refine lv_aload_n hx hb dX12_steady_75 rfl (lv_at hl 1 rfl) ?_
      refine va_get (D := G.1) (ci := 12) (v := .int r8.2.2.1) (C := RX12) (T := TX12) (N := 22) hx hb hts hin12 hown hK hP 0 rfl rfl 13 (by decide) lk_153 (fun _ h9 => h9) rfl dX12_steady_76 ?_
      refine lv_iload hx hb dX12_steady_79 (lv_at hl 7 rfl) ?_
      refine lv_icmp_eq (tgt := 89) hx hb dX12_steady_81 (by decide) (fun c12 => ?_) (fun c12 => ?_)
      · rw [if_pos c12] at hF
        exact B89 _ _ _ _ _ _ _ _ _ _ _ H locs ls hP hD hS (lv_sub hl [1, 2, 3, 4, 5, 0, 6, 8] rfl) hF
      rw [if_neg c12] at hF
      refine lv_iload hx hb dX12_steady_84 (lv_at hl 8 rfl) ?_
      refine W.eq (g2 := F0 m 86 ls [.int l8]) rfl ?_
      refine lv_goto (tgt := 91) hx hb dX12_steady_86 (by decide) ?_
      exact B91 _ _ _ _ _ _ _ _ _ _ _ H locs ls hP hD hS (lv_sub hl [1, 2, 3, 4, 5, 0, 8] rfl) hF
  intro hF
  unfold fX12_steady at hF
  refine lv_aload_n hx hb dX12_steady_0 rfl (lv_at hl 0 rfl) ?_
  refine lv_iload_n hx hb dX12_steady_1 rfl (lv_at hl 1 rfl) ?_
  refine lv_iload_n hx hb dX12_steady_2 rfl (lv_at hl 2 rfl) ?_
  refine lv_iload_n hx hb dX12_steady_3 rfl (lv_at hl 3 rfl) ?_
  obtain ⟨r1, hc2, hF⟩ := bd_some hF
  have hPc := hP.sub (ws' := [o12 h x_thrown a_s a_image x_hasImage x_act x_spot x_end x_isWrong x_open a_by a_truths x_turn x_lean x_last x_angle x_asLay x_ticks a_bodies x_ran x_kind x_number x_tellsV, aI G a_s 1394 f_s]) [0, 2] rfl
  have hDc := hD.sub (ws' := [o12 h x_thrown a_s a_image x_hasImage x_act x_spot x_end x_isWrong x_open a_by a_truths x_turn x_lean x_last x_angle x_asLay x_ticks a_bodies x_ran x_kind x_number x_tellsV, aI G a_s 1394 f_s]) [0, 2] (by decide) rfl
  have hFc := va_free (wc := [o12 h x_thrown a_s a_image x_hasImage x_act x_spot x_end x_isWrong x_open a_by a_truths x_turn x_lean x_last x_angle x_asLay x_ticks a_bodies x_ran x_kind x_number x_tellsV, aI G a_s 1394 f_s]) hD hS hA [0, 2] rfl
  have hM := c_X12_areThere l G h a_s a_image a_by a_truths a_bodies x_thrown x_hasImage x_act x_spot x_end x_isWrong x_open x_turn x_lean x_last x_angle x_asLay x_ticks x_ran x_kind x_number x_tellsV f_s l1 l2 l3 r1 hc2 H.size
  refine cl_i (w1 := [o12 h x_thrown a_s a_image x_hasImage x_act x_spot x_end x_isWrong x_open a_by a_truths x_turn x_lean x_last x_angle x_asLay x_ticks a_bodies x_ran x_kind x_number x_tellsV, aI G a_s 1394 f_s]) (ws' := [o12 h x_thrown a_s a_image x_hasImage x_act x_spot x_end x_isWrong x_open a_by a_truths x_turn x_lean x_last x_angle x_asLay x_ticks a_bodies x_ran x_kind x_number x_tellsV, aI G a_by 5 f_by, aI G a_s 1394 f_s, aZ G a_truths 64 f_truths]) hP hD hS hFc [0, 2] rfl rfl rfl (va_runV (As := [.int l1, .int l2, .int l3]) (rest := []) ⟨hx, hb, hml, hown, hts⟩ hM (cwV 3 hts gX12_steady_X12_areThere rfl rfl rfl (by decide +kernel) ⟨Nat.le_of_ble_eq_true rfl, Nat.le_of_ble_eq_true rfl⟩) (cp_V hK hE hS hPc hDc hFc (va_recv hK hPc (ci := 12) (q0 := 0) rfl rfl)) rfl rfl hl.1 rfl (lv_room (Nat.le_of_ble_eq_true rfl)) dX12_steady_4 ⟨Nat.zero_le _, Nat.zero_le _⟩) (fun H locs hP hD hS => ?_)
  refine lv_if_eq (tgt := 20) hx hb dX12_steady_7 (by decide) (fun c3 => ?_) (fun c3 => ?_)
  · rw [if_pos c3] at hF
    refine lv_iconst (v := (-1)) hx hb dX12_steady_20 (by decide) ?_
    injection hF with hz
    injection hz with hq0 hz
    injection hz with hq1 hz
    injection hz with hq2 hz
    injection hz with hq3 hz
    injection hz with hq4 hz
    injection hz with hq5 hz
    injection hz with hq6 hz
    injection hz with hq7 hz
    subst hq0
    subst hq1
    subst hq2
    subst hq3
    subst hq4
    subst hq5
    subst hq6
    subst hq7
    subst hz
    exact cm_reti hx hb hr rfl hlk hK hP hD hS dX12_steady_21
  rw [if_neg c3] at hF
  refine lv_iload hx hb dX12_steady_10 (lv_at hl 4 rfl) ?_
  refine lv_iconst (v := 0) hx hb dX12_steady_12 (by decide) ?_
  refine lv_iconst (v := 1) hx hb dX12_steady_13 (by decide) ?_
  obtain ⟨r4, hc5, hF⟩ := bd_some hF
  have hPc := hP.sub (ws' := []) [] rfl
  have hDc := hD.sub (ws' := []) [] (by decide) rfl
  have hFc := va_free (wc := []) hD hS hA [] rfl
  have hM := c_X12_in l G l4 (0 : Int32) (1 : Int32) r4 hc5 H.size
  refine cl_i (w1 := []) (ws' := [o12 h x_thrown a_s a_image x_hasImage x_act x_spot x_end x_isWrong x_open a_by a_truths x_turn x_lean x_last x_angle x_asLay x_ticks a_bodies x_ran x_kind x_number x_tellsV, aI G a_by 5 f_by, aI G a_s 1394 f_s, aZ G a_truths 64 f_truths]) hP hD hS hFc [] rfl rfl rfl (va_runS (As := [.int l4, .int 0, .int 1]) (rest := []) ⟨hx, hb, hml, hown, hts⟩ hM (va_cwS 3 hts gX12_steady_X12_in rfl rfl rfl (by decide +kernel) ⟨Nat.le_of_ble_eq_true rfl, Nat.le_of_ble_eq_true rfl⟩) (cp_S hK hE hS hPc hDc hFc) rfl rfl hl.1 rfl (lv_room (Nat.le_of_ble_eq_true rfl)) dX12_steady_14 ⟨Nat.zero_le _, Nat.zero_le _⟩) (fun H locs hP hD hS => ?_)
  refine lv_if_ne (tgt := 22) hx hb dX12_steady_17 (by decide) (fun c6 => ?_) (fun c6 => ?_)
  · rw [if_neg c6] at hF
    refine lv_iconst (v := 0) hx hb dX12_steady_22 (by decide) ?_
    refine lv_istore (lv' := [(5, .int 0), (0, .ref h), (1, .int l1), (2, .int l2), (3, .int l3), (4, .int l4)]) hx hb dX12_steady_23 hl (by decide) rfl (fun ls hl => ?_)
    refine W.eq (g2 := F0 m 25 ls []) rfl ?_
    refine lv_bipush (v := (-5)) hx hb dX12_steady_25 (by decide) ?_
    refine lv_istore (lv' := [(6, .int (-5)), (5, .int 0), (0, .ref h), (1, .int l1), (2, .int l2), (3, .int l3), (4, .int l4)]) hx hb dX12_steady_27 hl (by decide) rfl (fun ls hl => ?_)
    refine lv_iconst (v := 0) hx hb dX12_steady_29 (by decide) ?_
    refine lv_istore (lv' := [(7, .int 0), (6, .int (-5)), (5, .int 0), (0, .ref h), (1, .int l1), (2, .int l2), (3, .int l3), (4, .int l4)]) hx hb dX12_steady_30 hl (by decide) rfl (fun ls hl => ?_)
    refine lv_iconst (v := 1) hx hb dX12_steady_32 (by decide) ?_
    refine lv_istore (lv' := [(8, .int 1), (7, .int 0), (6, .int (-5)), (5, .int 0), (0, .ref h), (1, .int l1), (2, .int l2), (3, .int l3), (4, .int l4)]) hx hb dX12_steady_33 hl (by decide) rfl (fun ls hl => ?_)
    refine LP35 _ _ _ _ _ (fun x_turn_13 x_lean_14 x_last_15 x_angle_16 x_asLay_17 x_ticks_18 f_by_19 f_truths_20 l5_21 l6_22 H locs ls hP hD hS hl hF => ?_) _ _ _ _ _ _ _ _ _ _ _ _ _ H locs ls hP hD hS (lv_sub hl [4, 5, 6, 7, 8, 3, 2, 1, 0] rfl) hF
    refine lv_iload hx hb dX12_steady_105 (lv_at hl 0 rfl) ?_
    refine lv_if_ne (tgt := 115) hx hb dX12_steady_107 (by decide) (fun c23 => ?_) (fun c23 => ?_)
    · rw [if_neg c23] at hF
      refine lv_iload hx hb dX12_steady_115 (lv_at hl 2 rfl) ?_
      injection hF with hz
      injection hz with hq0 hz
      injection hz with hq1 hz
      injection hz with hq2 hz
      injection hz with hq3 hz
      injection hz with hq4 hz
      injection hz with hq5 hz
      injection hz with hq6 hz
      injection hz with hq7 hz
      subst hq0
      subst hq1
      subst hq2
      subst hq3
      subst hq4
      subst hq5
      subst hq6
      subst hq7
      subst hz
      exact cm_reti hx hb hr rfl hlk hK hP hD hS dX12_steady_117
    rw [if_pos c23] at hF
    refine lv_iload hx hb dX12_steady_110 (lv_at hl 1 rfl) ?_
    refine lv_goto (tgt := 117) hx hb dX12_steady_112 (by decide) ?_
    injection hF with hz
    injection hz with hq0 hz
    injection hz with hq1 hz
    injection hz with hq2 hz
    injection hz with hq3 hz
    injection hz with hq4 hz
    injection hz with hq5 hz
    injection hz with hq6 hz
    injection hz with hq7 hz
    subst hq0
    subst hq1
    subst hq2
    subst hq3
    subst hq4
    subst hq5
    subst hq6
    subst hq7
    subst hz
    exact cm_reti hx hb hr rfl hlk hK hP hD hS dX12_steady_117
  rw [if_pos c6] at hF
  refine lv_iconst (v := (-1)) hx hb dX12_steady_20 (by decide) ?_
  injection hF with hz
  injection hz with hq0 hz
  injection hz with hq1 hz
  injection hz with hq2 hz
  injection hz with hq3 hz
  injection hz with hq4 hz
  injection hz with hq5 hz
  injection hz with hq6 hz
  injection hz with hq7 hz
  subst hq0
  subst hq1
  subst hq2
  subst hq3
  subst hq4
  subst hq5
  subst hq6
  subst hq7
  subst hz
  exact cm_reti hx hb hr rfl hlk hK hP hD hS dX12_steady_21

/-! HeadsByHairModel.differ()I -/
abbrev rm_X12_differ : Room := { frames := 2, cells := 0, slots := 0, locals := 46 }
set_option maxHeartbeats 4000000 in
set_option maxRecDepth 100000 in
theorem c_X12_differ (l : Launch) (G : GG) (h a_s a_image a_by a_truths a_bodies : Nat) (x_thrown x_hasImage x_act x_spot x_end x_isWrong x_open x_turn x_lean x_last x_angle x_asLay x_ticks x_ran x_kind x_number x_tellsV : Int32) (f_s : Nat → Int32) (z : Int32) (hF : fX12_differ f_s = some (z)) : CMi l yX12_differ wsX12_differ rm_X12_differ G [o12 h x_thrown a_s a_image x_hasImage x_act x_spot x_end x_isWrong x_open a_by a_truths x_turn x_lean x_last x_angle x_asLay x_ticks a_bodies x_ran x_kind x_number x_tellsV, aI G a_s 1394 f_s] [o12 h x_thrown a_s a_image x_hasImage x_act x_spot x_end x_isWrong x_open a_by a_truths x_turn x_lean x_last x_angle x_asLay x_ticks a_bodies x_ran x_kind x_number x_tellsV, aI G a_s 1394 f_s] [.ref h] z := by
  refine cm_start (cc := cX12_differ) (maxL := 6) (ret := (some .int)) (Qc := fun A => QI G [o12 h x_thrown a_s a_image x_hasImage x_act x_spot x_end x_isWrong x_open a_by a_truths x_turn x_lean x_last x_angle x_asLay x_ticks a_bodies x_ran x_kind x_number x_tellsV, aI G a_s 1394 f_s] z A) (by decide +kernel) rfl (Nat.le_of_ble_eq_true rfl) ?_
  intro p e s m args below meth c A hx hb hr hlk hml hown hnm hts hA H locs hP hK hD hE hS ls hl
  have hown : s.vm.findClass RX12 = some m.cls := hown
  have hl : lv_has ls 6 [(0, .ref h)] := hl
  have hin12 : ∀ w ∈ wsX120, w ∈ wsX12_differ := by decide +kernel
  have lk_9 := hts (.fieldLink RX12 9 "HeadsByHairModel" "s" "[I") (by decide +kernel)
  revert hF
  have LP9 : ∀ (k78 : Int32 → Int32 → Int32 → Option (Int32)) (hk78 : ∀ (l1 : Int32) (l2 : Int32) (l3 : Int32) (H : Heap) (locs : List Loc) (ls : Array Slot), va_P G.1 vwCl [o12 h x_thrown a_s a_image x_hasImage x_act x_spot x_end x_isWrong x_open a_by a_truths x_turn x_lean x_last x_angle x_asLay x_ticks a_bodies x_ran x_kind x_number x_tellsV, aI G a_s 1394 f_s] H → va_D A [o12 h x_thrown a_s a_image x_hasImage x_act x_spot x_end x_isWrong x_open a_by a_truths x_turn x_lean x_last x_angle x_asLay x_ticks a_bodies x_ran x_kind x_number x_tellsV, aI G a_s 1394 f_s] → va_S A s.heap H locs → lv_has ls 6 [(1, .int l1), (2, .int l2), (3, .int l3)] → k78 l1 l2 l3 = some (z) → W p l e (rm_X12_differ) s m args below meth c H locs 0 0 (MQ below (QI G [o12 h x_thrown a_s a_image x_hasImage x_act x_spot x_end x_isWrong x_open a_by a_truths x_turn x_lean x_last x_angle x_asLay x_ticks a_bodies x_ran x_kind x_number x_tellsV, aI G a_s 1394 f_s] z A) args s 0 0 A) (F0 m 78 ls [])) (n : Nat) (l1 : Int32) (l2 : Int32) (l3 : Int32) (l4 : Int32) (H : Heap) (locs : List Loc) (ls : Array Slot), va_P G.1 vwCl [o12 h x_thrown a_s a_image x_hasImage x_act x_spot x_end x_isWrong x_open a_by a_truths x_turn x_lean x_last x_angle x_asLay x_ticks a_bodies x_ran x_kind x_number x_tellsV, aI G a_s 1394 f_s] H → va_D A [o12 h x_thrown a_s a_image x_hasImage x_act x_spot x_end x_isWrong x_open a_by a_truths x_turn x_lean x_last x_angle x_asLay x_ticks a_bodies x_ran x_kind x_number x_tellsV, aI G a_s 1394 f_s] → va_S A s.heap H locs → lv_has ls 6 [(0, .ref h), (1, .int l1), (2, .int l2), (3, .int l3), (4, .int l4)] → fX12_differ_L9 k78 f_s n l1 l2 l3 l4 = some (z) → W p l e (rm_X12_differ) s m args below meth c H locs 0 0 (MQ below (QI G [o12 h x_thrown a_s a_image x_hasImage x_act x_spot x_end x_isWrong x_open a_by a_truths x_turn x_lean x_last x_angle x_asLay x_ticks a_bodies x_ran x_kind x_number x_tellsV, aI G a_s 1394 f_s] z A) args s 0 0 A) (F0 m 9 ls []) := by
    intro k78 hk78 n
    induction n with
    | zero =>
      intro l1 l2 l3 l4 H locs ls hP hD hS hl hF
      cases hF
    | succ n ih =>
      have B62 : ∀ (l1 : Int32) (l2 : Int32) (l4 : Int32) (l5 : Int32) (H : Heap) (locs : List Loc) (ls : Array Slot), va_P G.1 vwCl [o12 h x_thrown a_s a_image x_hasImage x_act x_spot x_end x_isWrong x_open a_by a_truths x_turn x_lean x_last x_angle x_asLay x_ticks a_bodies x_ran x_kind x_number x_tellsV, aI G a_s 1394 f_s] H → va_D A [o12 h x_thrown a_s a_image x_hasImage x_act x_spot x_end x_isWrong x_open a_by a_truths x_turn x_lean x_last x_angle x_asLay x_ticks a_bodies x_ran x_kind x_number x_tellsV, aI G a_s 1394 f_s] → va_S A s.heap H locs → lv_has ls 6 [(0, .ref h), (1, .int l1), (2, .int l2), (4, .int l4), (5, .int l5)] → fX12_differ_b62 (fX12_differ_L9 k78 f_s n) k78 f_s l1 l2 l4 l5 = some (z) → W p l e (rm_X12_differ) s m args below meth c H locs 0 0 (MQ below (QI G [o12 h x_thrown a_s a_image x_hasImage x_act x_spot x_end x_isWrong x_open a_by a_truths x_turn x_lean x_last x_angle x_asLay x_ticks a_bodies x_ran x_kind x_number x_tellsV, aI G a_s 1394 f_s] z A) args s 0 0 A) (F0 m 62 ls []) := by
        intro l1 l2 l4 l5 H locs ls hP hD hS hl hF
        unfold fX12_differ_b62 at hF
        refine lv_iload hx hb dX12_differ_62 (lv_at hl 4 rfl) ?_
        refine lv_goto (tgt := 68) hx hb dX12_differ_64 (by decide) ?_
        refine lv_istore_n (lv' := [(3, .int l5), (0, .ref h), (1, .int l1), (2, .int l2), (4, .int l4), (5, .int l5)]) hx hb dX12_differ_68 rfl hl (by decide) rfl (fun ls hl => ?_)
        refine lv_iinc (v := l1 + 1) (lv' := [(1, .int (l1 + 1)), (3, .int l5), (0, .ref h), (2, .int l2), (4, .int l4), (5, .int l5)]) hx hb dX12_differ_69 hl (k := 2) rfl rfl (by decide) rfl (fun ls hl => ?_)
        refine lv_iinc (v := l4 + 1) (lv' := [(4, .int (l4 + 1)), (1, .int (l1 + 1)), (3, .int l5), (0, .ref h), (2, .int l2), (5, .int l5)]) hx hb dX12_differ_72 hl (k := 4) rfl rfl (by decide) rfl (fun ls hl => ?_)
        refine lv_goto (tgt := 9) hx hb dX12_differ_75 (by decide) ?_
        exact ih _ _ _ _ H locs ls hP hD hS (lv_sub hl [3, 1, 4, 2, 0] rfl) hF
      have B51 : ∀ (l1 : Int32) (l3 : Int32) (l4 : Int32) (l5 : Int32) (s0 : Int32) (H : Heap) (locs : List Loc) (ls : Array Slot), va_P G.1 vwCl [o12 h x_thrown a_s a_image x_hasImage x_act x_spot x_end x_isWrong x_open a_by a_truths x_turn x_lean x_last x_angle x_asLay x_ticks a_bodies x_ran x_kind x_number x_tellsV, aI G a_s 1394 f_s] H → va_D A [o12 h x_thrown a_s a_image x_hasImage x_act x_spot x_end x_isWrong x_open a_by a_truths x_turn x_lean x_last x_angle x_asLay x_ticks a_bodies x_ran x_kind x_number x_tellsV, aI G a_s 1394 f_s] → va_S A s.heap H locs → lv_has ls 6 [(0, .ref h), (1, .int l1), (3, .int l3), (4, .int l4), (5, .int l5)] → fX12_differ_b51 (fX12_differ_L9 k78 f_s n) k78 f_s l1 l3 l4 l5 s0 = some (z) → W p l e (rm_X12_differ) s m args below meth c H locs 0 0 (MQ below (QI G [o12 h x_thrown a_s a_image x_hasImage x_act x_spot x_end x_isWrong x_open a_by a_truths x_turn x_lean x_last x_angle x_asLay x_ticks a_bodies x_ran x_kind x_number x_tellsV, aI G a_s 1394 f_s] z A) args s 0 0 A) (F0 m 51 ls [.int s0]) := by
        intro l1 l3 l4 l5 s0 H locs ls hP hD hS hl hF
        unfold fX12_differ_b51 at hF
        refine lv_istore_n (lv' := [(2, .int s0), (0, .ref h), (1, .int l1), (3, .int l3), (4, .int l4), (5, .int l5)]) hx hb dX12_differ_51 rfl hl (by decide) rfl (fun ls hl => ?_)
        refine lv_iload_n hx hb dX12_differ_52 rfl (lv_at hl 2 rfl) ?_
        refine lv_if_eq (tgt := 62) hx hb dX12_differ_53 (by decide) (fun c6 => ?_) (fun c6 => ?_)
        · rw [if_pos c6] at hF
          exact B62 _ _ _ _ H locs ls hP hD hS (lv_sub hl [1, 2, 0, 4, 5] rfl) hF
        rw [if_neg c6] at hF
        refine lv_iload hx hb dX12_differ_56 (lv_at hl 5 rfl) ?_
        refine lv_iload_n hx hb dX12_differ_58 rfl (lv_at hl 3 rfl) ?_
        refine lv_icmp_ge (tgt := 67) hx hb dX12_differ_59 (by decide) (fun c7 => ?_) (fun c7 => ?_)
        · rw [if_pos c7] at hF
          refine lv_iload_n hx hb dX12_differ_67 rfl (lv_at hl 3 rfl) ?_
          refine lv_istore_n (lv' := [(3, .int l3), (2, .int s0), (0, .ref h), (1, .int l1), (4, .int l4), (5, .int l5)]) hx hb dX12_differ_68 rfl hl (by decide) rfl (fun ls hl => ?_)
          refine lv_iinc (v := l1 + 1) (lv' := [(1, .int (l1 + 1)), (3, .int l3), (2, .int s0), (0, .ref h), (4, .int l4), (5, .int l5)]) hx hb dX12_differ_69 hl (k := 3) rfl rfl (by decide) rfl (fun ls hl => ?_)
          refine lv_iinc (v := l4 + 1) (lv' := [(4, .int (l4 + 1)), (1, .int (l1 + 1)), (3, .int l3), (2, .int s0), (0, .ref h), (5, .int l5)]) hx hb dX12_differ_72 hl (k := 4) rfl rfl (by decide) rfl (fun ls hl => ?_)
          refine lv_goto (tgt := 9) hx hb dX12_differ_75 (by decide) ?_
          exact ih _ _ _ _ H locs ls hP hD hS (lv_sub hl [4, 1, 3, 2, 0] rfl) hF
        rw [if_neg c7] at hF
        exact B62 _ _ _ _ H locs ls hP hD hS (lv_sub hl [1, 2, 0, 4, 5] rfl) hF
      have B45 : ∀ (l1 : Int32) (l3 : Int32) (l4 : Int32) (l5 : Int32) (H : Heap) (locs : List Loc) (ls : Array Slot), va_P G.1 vwCl [o12 h x_thrown a_s a_image x_hasImage x_act x_spot x_end x_isWrong x_open a_by a_truths x_turn x_lean x_last x_angle x_asLay x_ticks a_bodies x_ran x_kind x_number x_tellsV, aI G a_s 1394 f_s] H → va_D A [o12 h x_thrown a_s a_image x_hasImage x_act x_spot x_end x_isWrong x_open a_by a_truths x_turn x_lean x_last x_angle x_asLay x_ticks a_bodies x_ran x_kind x_number x_tellsV, aI G a_s 1394 f_s] → va_S A s.heap H locs → lv_has ls 6 [(0, .ref h), (1, .int l1), (3, .int l3), (4, .int l4), (5, .int l5)] → fX12_differ_b45 (fX12_differ_L9 k78 f_s n) k78 f_s l1 l3 l4 l5 = some (z) → W p l e (rm_X12_differ) s m args below meth c H locs 0 0 (MQ below (QI G [o12 h x_thrown a_s a_image x_hasImage x_act x_spot x_end x_isWrong x_open a_by a_truths x_turn x_lean x_last x_angle x_asLay x_ticks a_bodies x_ran x_kind x_number x_tellsV, aI G a_s 1394 f_s] z A) args s 0 0 A) (F0 m 45 ls []) := by
        intro l1 l3 l4 l5 H locs ls hP hD hS hl hF
        unfold fX12_differ_b45 at hF
        refine lv_iload hx hb dX12_differ_45 (lv_at hl 4 rfl) ?_
        refine lv_goto (tgt := 51) hx hb dX12_differ_47 (by decide) ?_
        exact B51 _ _ _ _ _ H locs ls hP hD hS (lv_sub hl [0, 1, 2, 3, 4] rfl) hF
      intro l1 l2 l3 l4 H locs ls hP hD hS hl hF
      rw [fX12_differ_L9] at hF
      refine lv_iload hx hb dX12_differ_9 (lv_at hl 4 rfl) ?_
      refine lv_aload_n hx hb dX12_differ_11 rfl (lv_at hl 0 rfl) ?_
      refine va_get (D := G.1) (ci := 12) (v := .ref a_s) (C := RX12) (T := TX12) (N := 22) hx hb hts hin12 hown hK hP 0 rfl rfl 1 (by decide) lk_9 (fun _ h9 => h9) rfl dX12_differ_12 ?_
      refine lv_iconst (v := 1) hx hb dX12_differ_15 (by decide) ?_
      refine va_iald (D := G.1) hx hb hK hP 1 0 rfl rfl (by unfold vp_in; decide) dX12_differ_16 ?_
      refine lv_eqi (y := f_s 1) rfl ?_
      refine lv_icmp_ge (tgt := 78) hx hb dX12_differ_17 (by decide) (fun c1 => ?_) (fun c1 => ?_)
      · rw [if_pos c1] at hF
        exact hk78 _ _ _ H locs ls hP hD hS (lv_sub hl [1, 2, 3] rfl) hF
      rw [if_neg c1] at hF
      refine lv_aload_n hx hb dX12_differ_20 rfl (lv_at hl 0 rfl) ?_
      refine lv_iload hx hb dX12_differ_21 (lv_at hl 4 rfl) ?_
      obtain ⟨r2, hc3, hF⟩ := bd_some hF
      have hPc := hP.sub (ws' := [o12 h x_thrown a_s a_image x_hasImage x_act x_spot x_end x_isWrong x_open a_by a_truths x_turn x_lean x_last x_angle x_asLay x_ticks a_bodies x_ran x_kind x_number x_tellsV, aI G a_s 1394 f_s]) [0, 1] rfl
      have hDc := hD.sub (ws' := [o12 h x_thrown a_s a_image x_hasImage x_act x_spot x_end x_isWrong x_open a_by a_truths x_turn x_lean x_last x_angle x_asLay x_ticks a_bodies x_ran x_kind x_number x_tellsV, aI G a_s 1394 f_s]) [0, 1] (by decide) rfl
      have hFc := va_free (wc := [o12 h x_thrown a_s a_image x_hasImage x_act x_spot x_end x_isWrong x_open a_by a_truths x_turn x_lean x_last x_angle x_asLay x_ticks a_bodies x_ran x_kind x_number x_tellsV, aI G a_s 1394 f_s]) hD hS hA [0, 1] rfl
      have hM := c_X12_leansOf l G h a_s a_image a_by a_truths a_bodies x_thrown x_hasImage x_act x_spot x_end x_isWrong x_open x_turn x_lean x_last x_angle x_asLay x_ticks x_ran x_kind x_number x_tellsV f_s l4 r2 hc3 H.size
      refine cl_i (w1 := [o12 h x_thrown a_s a_image x_hasImage x_act x_spot x_end x_isWrong x_open a_by a_truths x_turn x_lean x_last x_angle x_asLay x_ticks a_bodies x_ran x_kind x_number x_tellsV, aI G a_s 1394 f_s]) (ws' := [o12 h x_thrown a_s a_image x_hasImage x_act x_spot x_end x_isWrong x_open a_by a_truths x_turn x_lean x_last x_angle x_asLay x_ticks a_bodies x_ran x_kind x_number x_tellsV, aI G a_s 1394 f_s]) hP hD hS hFc [0, 1] rfl rfl rfl (va_runV (As := [.int l4]) (rest := []) ⟨hx, hb, hml, hown, hts⟩ hM (cwV 1 hts gX12_differ_X12_leansOf rfl rfl rfl (by decide +kernel) ⟨Nat.le_of_ble_eq_true rfl, Nat.le_of_ble_eq_true rfl⟩) (cp_V hK hE hS hPc hDc hFc (va_recv hK hPc (ci := 12) (q0 := 0) rfl rfl)) rfl rfl hl.1 rfl (lv_room (Nat.le_of_ble_eq_true rfl)) dX12_differ_23 ⟨Nat.zero_le _, Nat.zero_le _⟩) (fun H locs hP hD hS => ?_)
      refine lv_istore (lv' := [(5, .int r2), (0, .ref h), (1, .int l1), (2, .int l2), (3, .int l3), (4, .int l4)]) hx hb dX12_differ_26 hl (by decide) rfl (fun ls hl => ?_)
      refine lv_iload hx hb dX12_differ_28 (lv_at hl 0 rfl) ?_
      refine lv_bipush (v := (-5)) hx hb dX12_differ_30 (by decide) ?_
      refine lv_icmp_eq (tgt := 72) hx hb dX12_differ_32 (by decide) (fun c4 => ?_) (fun c4 => ?_)
      · rw [if_pos c4] at hF
        refine W.eq (g2 := F0 m 72 ls []) rfl ?_
        refine lv_iinc (v := l4 + 1) (lv' := [(4, .int (l4 + 1)), (5, .int r2), (0, .ref h), (1, .int l1), (2, .int l2), (3, .int l3)]) hx hb dX12_differ_72 hl (k := 5) rfl rfl (by decide) rfl (fun ls hl => ?_)
        refine lv_goto (tgt := 9) hx hb dX12_differ_75 (by decide) ?_
        exact ih _ _ _ _ H locs ls hP hD hS (lv_sub hl [2, 3, 4, 5, 0] rfl) hF
      rw [if_neg c4] at hF
      refine W.eq (g2 := F0 m 35 ls []) rfl ?_
      refine lv_iload_n hx hb dX12_differ_35 rfl (lv_at hl 2 rfl) ?_
      refine lv_if_eq (tgt := 45) hx hb dX12_differ_36 (by decide) (fun c5 => ?_) (fun c5 => ?_)
      · rw [if_pos c5] at hF
        exact B45 _ _ _ _ H locs ls hP hD hS (lv_sub hl [1, 2, 4, 5, 0] rfl) hF
      rw [if_neg c5] at hF
      refine lv_iload hx hb dX12_differ_39 (lv_at hl 0 rfl) ?_
      refine lv_iload_n hx hb dX12_differ_41 rfl (lv_at hl 3 rfl) ?_
      refine lv_icmp_le (tgt := 50) hx hb dX12_differ_42 (by decide) (fun c8 => ?_) (fun c8 => ?_)
      · rw [if_pos c8] at hF
        refine lv_iload_n hx hb dX12_differ_50 rfl (lv_at hl 3 rfl) ?_
        exact B51 _ _ _ _ _ H locs ls hP hD hS (lv_sub hl [1, 2, 4, 5, 0] rfl) hF
      rw [if_neg c8] at hF
      exact B45 _ _ _ _ H locs ls hP hD hS (lv_sub hl [1, 2, 4, 5, 0] rfl) hF
  intro hF
  unfold fX12_differ at hF
  refine lv_iconst (v := 0) hx hb dX12_differ_0 (by decide) ?_
  refine lv_istore_n (lv' := [(1, .int 0), (0, .ref h)]) hx hb dX12_differ_1 rfl hl (by decide) rfl (fun ls hl => ?_)
  refine lv_iconst (v := 0) hx hb dX12_differ_2 (by decide) ?_
  refine lv_istore_n (lv' := [(2, .int 0), (1, .int 0), (0, .ref h)]) hx hb dX12_differ_3 rfl hl (by decide) rfl (fun ls hl => ?_)
  refine lv_iconst (v := 0) hx hb dX12_differ_4 (by decide) ?_
  refine lv_istore_n (lv' := [(3, .int 0), (2, .int 0), (1, .int 0), (0, .ref h)]) hx hb dX12_differ_5 rfl hl (by decide) rfl (fun ls hl => ?_)
  refine lv_iconst (v := 0) hx hb dX12_differ_6 (by decide) ?_
  refine lv_istore (lv' := [(4, .int 0), (3, .int 0), (2, .int 0), (1, .int 0), (0, .ref h)]) hx hb dX12_differ_7 hl (by decide) rfl (fun ls hl => ?_)
  refine LP9 _ (fun l1_9 l2_10 l3_11 H locs ls hP hD hS hl hF => ?_) _ _ _ _ _ H locs ls hP hD hS (lv_sub hl [4, 3, 2, 1, 0] rfl) hF
  refine lv_iload_n hx hb dX12_differ_78 rfl (lv_at hl 0 rfl) ?_
  refine lv_iconst (v := 2) hx hb dX12_differ_79 (by decide) ?_
  refine lv_icmp_ge (tgt := 88) hx hb dX12_differ_80 (by decide) (fun c12 => ?_) (fun c12 => ?_)
  · rw [if_pos c12] at hF
    refine lv_iload_n hx hb dX12_differ_88 rfl (lv_at hl 1 rfl) ?_
    refine lv_iload_n hx hb dX12_differ_89 rfl (lv_at hl 2 rfl) ?_
    refine W.eq (g2 := F0 m 90 ls [.int l3_11, .int l2_10]) rfl ?_
    refine lv_isub hx hb dX12_differ_90 ?_
    injection hF with hz
    subst hz
    exact cm_reti hx hb hr rfl hlk hK hP hD hS dX12_differ_91
  rw [if_neg c12] at hF
  refine lv_bipush (v := (-5)) hx hb dX12_differ_83 (by decide) ?_
  refine lv_goto (tgt := 91) hx hb dX12_differ_85 (by decide) ?_
  refine W.eq (g2 := F0 m 91 ls [.int (-5)]) rfl ?_
  injection hF with hz
  subst hz
  exact cm_reti hx hb hr rfl hlk hK hP hD hS dX12_differ_91

/-! HeadsByHairModel.choose(II)J -/
abbrev rm_X12_choose : Room := { frames := 0, cells := 0, slots := 0, locals := 0 }
set_option maxHeartbeats 4000000 in
set_option maxRecDepth 100000 in
theorem c_X12_choose (l : Launch) (G : GG) (l0 : Int32) (l1 : Int32) (z : Int64) (hF : fX12_choose l0 l1 = some (z)) : CMl l yX12_choose wsX12_choose rm_X12_choose G [] [] [.int l0, .int l1] z := by
  refine cm_start (cc := cX12_choose) (maxL := 5) (ret := (some .long)) (Qc := fun A => QL G [] z A) (by decide +kernel) rfl (Nat.le_of_ble_eq_true rfl) ?_
  intro p e s m args below meth c A hx hb hr hlk hml hown hnm hts hA H locs hP hK hD hE hS ls hl
  have hown : s.vm.findClass RX12 = some m.cls := hown
  have hl : lv_has ls 5 [(0, .int l0), (1, .int l1)] := hl
  revert hF
  have LP5 : ∀ (l0 : Int32) (l1 : Int32) (n : Nat) (l2 : Int64) (l4 : Int32) (H : Heap) (locs : List Loc) (ls : Array Slot), va_P G.1 vwCl [] H → va_D A [] → va_S A s.heap H locs → lv_has ls 5 [(0, .int l0), (1, .int l1), (2, .long l2), (4, .int l4)] → fX12_choose_L5 l0 l1 n l2 l4 = some (z) → W p l e (rm_X12_choose) s m args below meth c H locs 0 0 (MQ below (QL G [] z A) args s 0 0 A) (F0 m 5 ls []) := by
    intro l0 l1 n
    induction n with
    | zero =>
      intro l2 l4 H locs ls hP hD hS hl hF
      cases hF
    | succ n ih =>
      intro l2 l4 H locs ls hP hD hS hl hF
      rw [fX12_choose_L5] at hF
      refine lv_iload hx hb dX12_choose_5 (lv_at hl 3 rfl) ?_
      refine lv_iload_n hx hb dX12_choose_7 rfl (lv_at hl 1 rfl) ?_
      refine lv_icmp_ge (tgt := 31) hx hb dX12_choose_8 (by decide) (fun c1 => ?_) (fun c1 => ?_)
      · rw [if_pos c1] at hF
        refine lv_lload_n hx hb dX12_choose_31 rfl (lv_at hl 2 rfl) ?_
        injection hF with hz
        subst hz
        exact cm_retl hx hb hr hlk hK hP hD hS dX12_choose_32
      rw [if_neg c1] at hF
      refine lv_lload_n hx hb dX12_choose_11 rfl (lv_at hl 2 rfl) ?_
      refine lv_iload_n hx hb dX12_choose_12 rfl (lv_at hl 0 rfl) ?_
      refine lv_iload hx hb dX12_choose_13 (lv_at hl 3 rfl) ?_
      refine lv_isub hx hb dX12_choose_15 ?_
      refine lv_i2l (v := (l0 - l4).toInt64) hx hb dX12_choose_16 rfl ?_
      refine lv_lmul hx hb dX12_choose_17 ?_
      refine lv_iload hx hb dX12_choose_18 (lv_at hl 3 rfl) ?_
      refine lv_iconst (v := 1) hx hb dX12_choose_20 (by decide) ?_
      refine lv_iadd hx hb dX12_choose_21 ?_
      refine lv_i2l (v := (l4 + 1).toInt64) hx hb dX12_choose_22 rfl ?_
      refine W.eq (g2 := F0 m 23 ls [.long ((l4 + 1).toInt64), .long (l2 * ((l0 - l4).toInt64))]) rfl ?_
      obtain ⟨hz2, hF⟩ := ck_some hF
      refine lv_ldiv hx hb dX12_choose_23 hz2 ?_
      refine lv_lstore_n (lv' := [(2, .long ((l2 * ((l0 - l4).toInt64)) / ((l4 + 1).toInt64))), (0, .int l0), (1, .int l1), (4, .int l4)]) hx hb dX12_choose_24 rfl hl (by decide) rfl (fun ls hl => ?_)
      refine lv_iinc (v := l4 + 1) (lv' := [(4, .int (l4 + 1)), (2, .long ((l2 * ((l0 - l4).toInt64)) / ((l4 + 1).toInt64))), (0, .int l0), (1, .int l1)]) hx hb dX12_choose_25 hl (k := 3) rfl rfl (by decide) rfl (fun ls hl => ?_)
      refine lv_goto (tgt := 5) hx hb dX12_choose_28 (by decide) ?_
      exact ih _ _ H locs ls hP hD hS (lv_sub hl [2, 3, 1, 0] rfl) hF
  intro hF
  unfold fX12_choose at hF
  refine lv_lconst (v := 1) hx hb dX12_choose_0 (by decide) ?_
  refine lv_lstore_n (lv' := [(2, .long 1), (0, .int l0), (1, .int l1)]) hx hb dX12_choose_1 rfl hl (by decide) rfl (fun ls hl => ?_)
  refine lv_iconst (v := 0) hx hb dX12_choose_2 (by decide) ?_
  refine lv_istore (lv' := [(4, .int 0), (2, .long 1), (0, .int l0), (1, .int l1)]) hx hb dX12_choose_3 hl (by decide) rfl (fun ls hl => ?_)
  refine LP5 _ _ _ _ _ H locs ls hP hD hS (lv_sub hl [2, 3, 1, 0] rfl) hF

/-! HeadsByHairModel.far(III)J -/
abbrev rm_X12_far : Room := { frames := 2, cells := 0, slots := 0, locals := 53 }
set_option maxHeartbeats 4000000 in
set_option maxRecDepth 100000 in
theorem c_X12_far (l : Launch) (G : GG) (h a_s a_image a_by a_truths a_bodies : Nat) (x_thrown x_hasImage x_act x_spot x_end x_isWrong x_open x_turn x_lean x_last x_angle x_asLay x_ticks x_ran x_kind x_number x_tellsV : Int32) (f_s : Nat → Int32) (l1 : Int32) (l2 : Int32) (l3 : Int32) (z : Int64) (hF : fX12_far f_s l1 l2 l3 = some (z)) : CMl l yX12_far wsX12_far rm_X12_far G [o12 h x_thrown a_s a_image x_hasImage x_act x_spot x_end x_isWrong x_open a_by a_truths x_turn x_lean x_last x_angle x_asLay x_ticks a_bodies x_ran x_kind x_number x_tellsV, aI G a_s 1394 f_s] [o12 h x_thrown a_s a_image x_hasImage x_act x_spot x_end x_isWrong x_open a_by a_truths x_turn x_lean x_last x_angle x_asLay x_ticks a_bodies x_ran x_kind x_number x_tellsV, aI G a_s 1394 f_s] [.ref h, .int l1, .int l2, .int l3] z := by
  refine cm_start (cc := cX12_far) (maxL := 9) (ret := (some .long)) (Qc := fun A => QL G [o12 h x_thrown a_s a_image x_hasImage x_act x_spot x_end x_isWrong x_open a_by a_truths x_turn x_lean x_last x_angle x_asLay x_ticks a_bodies x_ran x_kind x_number x_tellsV, aI G a_s 1394 f_s] z A) (by decide +kernel) rfl (Nat.le_of_ble_eq_true rfl) ?_
  intro p e s m args below meth c A hx hb hr hlk hml hown hnm hts hA H locs hP hK hD hE hS ls hl
  have hown : s.vm.findClass RX12 = some m.cls := hown
  have hl : lv_has ls 9 [(0, .ref h), (1, .int l1), (2, .int l2), (3, .int l3)] := hl
  have lc_167 := hts (.constantLong RX12 167 (-9223372036854775808)) (by decide +kernel)
  revert hF
  have LP70 : ∀ (l2 : Int32) (l3 : Int32) (l4 : Int32) (l5 : Int32) (k104 : Int64 → Option (Int64)) (hk104 : ∀ (l6 : Int64) (H : Heap) (locs : List Loc) (ls : Array Slot), va_P G.1 vwCl [o12 h x_thrown a_s a_image x_hasImage x_act x_spot x_end x_isWrong x_open a_by a_truths x_turn x_lean x_last x_angle x_asLay x_ticks a_bodies x_ran x_kind x_number x_tellsV, aI G a_s 1394 f_s] H → va_D A [o12 h x_thrown a_s a_image x_hasImage x_act x_spot x_end x_isWrong x_open a_by a_truths x_turn x_lean x_last x_angle x_asLay x_ticks a_bodies x_ran x_kind x_number x_tellsV, aI G a_s 1394 f_s] → va_S A s.heap H locs → lv_has ls 9 [(3, .int l3), (4, .int l4), (6, .long l6)] → k104 l6 = some (z) → W p l e (rm_X12_far) s m args below meth c H locs 0 0 (MQ below (QL G [o12 h x_thrown a_s a_image x_hasImage x_act x_spot x_end x_isWrong x_open a_by a_truths x_turn x_lean x_last x_angle x_asLay x_ticks a_bodies x_ran x_kind x_number x_tellsV, aI G a_s 1394 f_s] z A) args s 0 0 A) (F0 m 104 ls [])) (n : Nat) (l6 : Int64) (l8 : Int32) (H : Heap) (locs : List Loc) (ls : Array Slot), va_P G.1 vwCl [o12 h x_thrown a_s a_image x_hasImage x_act x_spot x_end x_isWrong x_open a_by a_truths x_turn x_lean x_last x_angle x_asLay x_ticks a_bodies x_ran x_kind x_number x_tellsV, aI G a_s 1394 f_s] H → va_D A [o12 h x_thrown a_s a_image x_hasImage x_act x_spot x_end x_isWrong x_open a_by a_truths x_turn x_lean x_last x_angle x_asLay x_ticks a_bodies x_ran x_kind x_number x_tellsV, aI G a_s 1394 f_s] → va_S A s.heap H locs → lv_has ls 9 [(2, .int l2), (3, .int l3), (4, .int l4), (5, .int l5), (6, .long l6), (8, .int l8)] → fX12_far_L70 k104 f_s l2 l3 l4 l5 n l6 l8 = some (z) → W p l e (rm_X12_far) s m args below meth c H locs 0 0 (MQ below (QL G [o12 h x_thrown a_s a_image x_hasImage x_act x_spot x_end x_isWrong x_open a_by a_truths x_turn x_lean x_last x_angle x_asLay x_ticks a_bodies x_ran x_kind x_number x_tellsV, aI G a_s 1394 f_s] z A) args s 0 0 A) (F0 m 70 ls []) := by
    intro l2 l3 l4 l5 k104 hk104 n
    induction n with
    | zero =>
      intro l6 l8 H locs ls hP hD hS hl hF
      cases hF
    | succ n ih =>
      have B83 : ∀ (l6 : Int64) (l8 : Int32) (s0 : Int32) (s1 : Int32) (H : Heap) (locs : List Loc) (ls : Array Slot), va_P G.1 vwCl [o12 h x_thrown a_s a_image x_hasImage x_act x_spot x_end x_isWrong x_open a_by a_truths x_turn x_lean x_last x_angle x_asLay x_ticks a_bodies x_ran x_kind x_number x_tellsV, aI G a_s 1394 f_s] H → va_D A [o12 h x_thrown a_s a_image x_hasImage x_act x_spot x_end x_isWrong x_open a_by a_truths x_turn x_lean x_last x_angle x_asLay x_ticks a_bodies x_ran x_kind x_number x_tellsV, aI G a_s 1394 f_s] → va_S A s.heap H locs → lv_has ls 9 [(2, .int l2), (3, .int l3), (4, .int l4), (5, .int l5), (6, .long l6), (8, .int l8)] → fX12_far_b83 (fX12_far_L70 k104 f_s l2 l3 l4 l5 n) k104 f_s l2 l3 l4 l5 l6 l8 s0 s1 = some (z) → W p l e (rm_X12_far) s m args below meth c H locs 0 0 (MQ below (QL G [o12 h x_thrown a_s a_image x_hasImage x_act x_spot x_end x_isWrong x_open a_by a_truths x_turn x_lean x_last x_angle x_asLay x_ticks a_bodies x_ran x_kind x_number x_tellsV, aI G a_s 1394 f_s] z A) args s 0 0 A) (F0 m 83 ls [.int s1, .int s0]) := by
        intro l6 l8 s0 s1 H locs ls hP hD hS hl hF
        unfold fX12_far_b83 at hF
        refine lv_icmp_gt (tgt := 104) hx hb dX12_far_83 (by decide) (fun c18 => ?_) (fun c18 => ?_)
        · rw [if_pos c18] at hF
          exact hk104 _ H locs ls hP hD hS (lv_sub hl [1, 2, 4] rfl) hF
        rw [if_neg c18] at hF
        refine lv_lload hx hb dX12_far_86 (lv_at hl 4 rfl) ?_
        refine lv_iload hx hb dX12_far_88 (lv_at hl 2 rfl) ?_
        refine lv_iload hx hb dX12_far_90 (lv_at hl 5 rfl) ?_
        obtain ⟨r19, hc20, hF⟩ := bd_some hF
        have hPc := hP.sub (ws' := []) [] rfl
        have hDc := hD.sub (ws' := []) [] (by decide) rfl
        have hFc := va_free (wc := []) hD hS hA [] rfl
        have hM := c_X12_choose l G l4 l8 r19 hc20 H.size
        refine cl_l (w1 := []) (ws' := [o12 h x_thrown a_s a_image x_hasImage x_act x_spot x_end x_isWrong x_open a_by a_truths x_turn x_lean x_last x_angle x_asLay x_ticks a_bodies x_ran x_kind x_number x_tellsV, aI G a_s 1394 f_s]) hP hD hS hFc [] rfl rfl rfl (va_runS (As := [.int l4, .int l8]) (rest := [.long l6]) ⟨hx, hb, hml, hown, hts⟩ hM (va_cwS 2 hts gX12_far_X12_choose rfl rfl rfl (by decide +kernel) ⟨Nat.le_of_ble_eq_true rfl, Nat.le_of_ble_eq_true rfl⟩) (cp_S hK hE hS hPc hDc hFc) rfl rfl hl.1 rfl (lv_room (Nat.le_of_ble_eq_true rfl)) dX12_far_92 ⟨Nat.zero_le _, Nat.zero_le _⟩) (fun H locs hP hD hS => ?_)
        refine lv_ladd hx hb dX12_far_95 ?_
        refine lv_lstore (lv' := [(6, .long (l6 + r19)), (2, .int l2), (3, .int l3), (4, .int l4), (5, .int l5), (8, .int l8)]) hx hb dX12_far_96 hl (by decide) rfl (fun ls hl => ?_)
        refine lv_iinc (v := l8 + 1) (lv' := [(8, .int (l8 + 1)), (6, .long (l6 + r19)), (2, .int l2), (3, .int l3), (4, .int l4), (5, .int l5)]) hx hb dX12_far_98 hl (k := 5) rfl rfl (by decide) rfl (fun ls hl => ?_)
        refine lv_goto (tgt := 70) hx hb dX12_far_101 (by decide) ?_
        exact ih _ _ H locs ls hP hD hS (lv_sub hl [2, 3, 4, 5, 1, 0] rfl) hF
      intro l6 l8 H locs ls hP hD hS hl hF
      rw [fX12_far_L70] at hF
      refine lv_iload hx hb dX12_far_70 (lv_at hl 5 rfl) ?_
      refine lv_iload_n hx hb dX12_far_72 rfl (lv_at hl 0 rfl) ?_
      refine lv_if_ne (tgt := 81) hx hb dX12_far_73 (by decide) (fun c17 => ?_) (fun c17 => ?_)
      · rw [if_neg c17] at hF
        refine lv_iload hx hb dX12_far_81 (lv_at hl 2 rfl) ?_
        exact B83 _ _ _ _ H locs ls hP hD hS (lv_sub hl [0, 1, 2, 3, 4, 5] rfl) hF
      rw [if_pos c17] at hF
      refine lv_iload hx hb dX12_far_76 (lv_at hl 3 rfl) ?_
      refine lv_goto (tgt := 83) hx hb dX12_far_78 (by decide) ?_
      exact B83 _ _ _ _ H locs ls hP hD hS (lv_sub hl [0, 1, 2, 3, 4, 5] rfl) hF
  intro hF
  unfold fX12_far at hF
  refine lv_aload_n hx hb dX12_far_0 rfl (lv_at hl 0 rfl) ?_
  refine lv_iload_n hx hb dX12_far_1 rfl (lv_at hl 1 rfl) ?_
  obtain ⟨r1, hc2, hF⟩ := bd_some hF
  have hPc := hP.sub (ws' := [o12 h x_thrown a_s a_image x_hasImage x_act x_spot x_end x_isWrong x_open a_by a_truths x_turn x_lean x_last x_angle x_asLay x_ticks a_bodies x_ran x_kind x_number x_tellsV, aI G a_s 1394 f_s]) [0, 1] rfl
  have hDc := hD.sub (ws' := [o12 h x_thrown a_s a_image x_hasImage x_act x_spot x_end x_isWrong x_open a_by a_truths x_turn x_lean x_last x_angle x_asLay x_ticks a_bodies x_ran x_kind x_number x_tellsV, aI G a_s 1394 f_s]) [0, 1] (by decide) rfl
  have hFc := va_free (wc := [o12 h x_thrown a_s a_image x_hasImage x_act x_spot x_end x_isWrong x_open a_by a_truths x_turn x_lean x_last x_angle x_asLay x_ticks a_bodies x_ran x_kind x_number x_tellsV, aI G a_s 1394 f_s]) hD hS hA [0, 1] rfl
  have hM := c_X12_isHand l G h a_s a_image a_by a_truths a_bodies x_thrown x_hasImage x_act x_spot x_end x_isWrong x_open x_turn x_lean x_last x_angle x_asLay x_ticks x_ran x_kind x_number x_tellsV f_s l1 r1 hc2 H.size
  refine cl_i (w1 := [o12 h x_thrown a_s a_image x_hasImage x_act x_spot x_end x_isWrong x_open a_by a_truths x_turn x_lean x_last x_angle x_asLay x_ticks a_bodies x_ran x_kind x_number x_tellsV, aI G a_s 1394 f_s]) (ws' := [o12 h x_thrown a_s a_image x_hasImage x_act x_spot x_end x_isWrong x_open a_by a_truths x_turn x_lean x_last x_angle x_asLay x_ticks a_bodies x_ran x_kind x_number x_tellsV, aI G a_s 1394 f_s]) hP hD hS hFc [0, 1] rfl rfl rfl (va_runV (As := [.int l1]) (rest := []) ⟨hx, hb, hml, hown, hts⟩ hM (cwV 1 hts gX12_far_X12_isHand rfl rfl rfl (by decide +kernel) ⟨Nat.le_of_ble_eq_true rfl, Nat.le_of_ble_eq_true rfl⟩) (cp_V hK hE hS hPc hDc hFc (va_recv hK hPc (ci := 12) (q0 := 0) rfl rfl)) rfl rfl hl.1 rfl (lv_room (Nat.le_of_ble_eq_true rfl)) dX12_far_2 ⟨Nat.zero_le _, Nat.zero_le _⟩) (fun H locs hP hD hS => ?_)
  refine lv_if_eq (tgt := 39) hx hb dX12_far_5 (by decide) (fun c3 => ?_) (fun c3 => ?_)
  · rw [if_pos c3] at hF
    refine lv_ldc2 hx hb hown lc_167 dX12_far_39 ?_
    injection hF with hz
    subst hz
    exact cm_retl hx hb hr hlk hK hP hD hS dX12_far_42
  rw [if_neg c3] at hF
  refine lv_iload_n hx hb dX12_far_8 rfl (lv_at hl 2 rfl) ?_
  refine lv_iconst (v := 0) hx hb dX12_far_9 (by decide) ?_
  refine lv_iconst (v := 1) hx hb dX12_far_10 (by decide) ?_
  obtain ⟨r4, hc5, hF⟩ := bd_some hF
  have hPc := hP.sub (ws' := []) [] rfl
  have hDc := hD.sub (ws' := []) [] (by decide) rfl
  have hFc := va_free (wc := []) hD hS hA [] rfl
  have hM := c_X12_in l G l2 (0 : Int32) (1 : Int32) r4 hc5 H.size
  refine cl_i (w1 := []) (ws' := [o12 h x_thrown a_s a_image x_hasImage x_act x_spot x_end x_isWrong x_open a_by a_truths x_turn x_lean x_last x_angle x_asLay x_ticks a_bodies x_ran x_kind x_number x_tellsV, aI G a_s 1394 f_s]) hP hD hS hFc [] rfl rfl rfl (va_runS (As := [.int l2, .int 0, .int 1]) (rest := []) ⟨hx, hb, hml, hown, hts⟩ hM (va_cwS 3 hts gX12_far_X12_in rfl rfl rfl (by decide +kernel) ⟨Nat.le_of_ble_eq_true rfl, Nat.le_of_ble_eq_true rfl⟩) (cp_S hK hE hS hPc hDc hFc) rfl rfl hl.1 rfl (lv_room (Nat.le_of_ble_eq_true rfl)) dX12_far_11 ⟨Nat.zero_le _, Nat.zero_le _⟩) (fun H locs hP hD hS => ?_)
  refine lv_if_eq (tgt := 39) hx hb dX12_far_14 (by decide) (fun c6 => ?_) (fun c6 => ?_)
  · rw [if_pos c6] at hF
    refine lv_ldc2 hx hb hown lc_167 dX12_far_39 ?_
    injection hF with hz
    subst hz
    exact cm_retl hx hb hr hlk hK hP hD hS dX12_far_42
  rw [if_neg c6] at hF
  refine lv_iload_n hx hb dX12_far_17 rfl (lv_at hl 3 rfl) ?_
  refine lv_iconst (v := 0) hx hb dX12_far_18 (by decide) ?_
  refine lv_iconst (v := 1) hx hb dX12_far_19 (by decide) ?_
  obtain ⟨r7, hc8, hF⟩ := bd_some hF
  have hPc := hP.sub (ws' := []) [] rfl
  have hDc := hD.sub (ws' := []) [] (by decide) rfl
  have hFc := va_free (wc := []) hD hS hA [] rfl
  have hM := c_X12_in l G l3 (0 : Int32) (1 : Int32) r7 hc8 H.size
  refine cl_i (w1 := []) (ws' := [o12 h x_thrown a_s a_image x_hasImage x_act x_spot x_end x_isWrong x_open a_by a_truths x_turn x_lean x_last x_angle x_asLay x_ticks a_bodies x_ran x_kind x_number x_tellsV, aI G a_s 1394 f_s]) hP hD hS hFc [] rfl rfl rfl (va_runS (As := [.int l3, .int 0, .int 1]) (rest := []) ⟨hx, hb, hml, hown, hts⟩ hM (va_cwS 3 hts gX12_far_X12_in rfl rfl rfl (by decide +kernel) ⟨Nat.le_of_ble_eq_true rfl, Nat.le_of_ble_eq_true rfl⟩) (cp_S hK hE hS hPc hDc hFc) rfl rfl hl.1 rfl (lv_room (Nat.le_of_ble_eq_true rfl)) dX12_far_20 ⟨Nat.zero_le _, Nat.zero_le _⟩) (fun H locs hP hD hS => ?_)
  refine W.eq (g2 := F0 m 23 ls [.int r7]) rfl ?_
  refine lv_if_eq (tgt := 39) hx hb dX12_far_23 (by decide) (fun c9 => ?_) (fun c9 => ?_)
  · rw [if_pos c9] at hF
    refine lv_ldc2 hx hb hown lc_167 dX12_far_39 ?_
    injection hF with hz
    subst hz
    exact cm_retl hx hb hr hlk hK hP hD hS dX12_far_42
  rw [if_neg c9] at hF
  refine lv_aload_n hx hb dX12_far_26 rfl (lv_at hl 0 rfl) ?_
  refine lv_sipush (v := 154) hx hb dX12_far_27 (by decide) ?_
  refine lv_iload_n hx hb dX12_far_30 rfl (lv_at hl 1 rfl) ?_
  obtain ⟨r10, hc11, hF⟩ := bd_some hF
  have hPc := hP.sub (ws' := [o12 h x_thrown a_s a_image x_hasImage x_act x_spot x_end x_isWrong x_open a_by a_truths x_turn x_lean x_last x_angle x_asLay x_ticks a_bodies x_ran x_kind x_number x_tellsV, aI G a_s 1394 f_s]) [0, 1] rfl
  have hDc := hD.sub (ws' := [o12 h x_thrown a_s a_image x_hasImage x_act x_spot x_end x_isWrong x_open a_by a_truths x_turn x_lean x_last x_angle x_asLay x_ticks a_bodies x_ran x_kind x_number x_tellsV, aI G a_s 1394 f_s]) [0, 1] (by decide) rfl
  have hFc := va_free (wc := [o12 h x_thrown a_s a_image x_hasImage x_act x_spot x_end x_isWrong x_open a_by a_truths x_turn x_lean x_last x_angle x_asLay x_ticks a_bodies x_ran x_kind x_number x_tellsV, aI G a_s 1394 f_s]) hD hS hA [0, 1] rfl
  have hM := c_X12_allOf l G h a_s a_image a_by a_truths a_bodies x_thrown x_hasImage x_act x_spot x_end x_isWrong x_open x_turn x_lean x_last x_angle x_asLay x_ticks x_ran x_kind x_number x_tellsV f_s (154 : Int32) l1 r10 hc11 H.size
  refine cl_i (w1 := [o12 h x_thrown a_s a_image x_hasImage x_act x_spot x_end x_isWrong x_open a_by a_truths x_turn x_lean x_last x_angle x_asLay x_ticks a_bodies x_ran x_kind x_number x_tellsV, aI G a_s 1394 f_s]) (ws' := [o12 h x_thrown a_s a_image x_hasImage x_act x_spot x_end x_isWrong x_open a_by a_truths x_turn x_lean x_last x_angle x_asLay x_ticks a_bodies x_ran x_kind x_number x_tellsV, aI G a_s 1394 f_s]) hP hD hS hFc [0, 1] rfl rfl rfl (va_runV (As := [.int 154, .int l1]) (rest := []) ⟨hx, hb, hml, hown, hts⟩ hM (cwV 2 hts gX12_far_X12_allOf rfl rfl rfl (by decide +kernel) ⟨Nat.le_of_ble_eq_true rfl, Nat.le_of_ble_eq_true rfl⟩) (cp_V hK hE hS hPc hDc hFc (va_recv hK hPc (ci := 12) (q0 := 0) rfl rfl)) rfl rfl hl.1 rfl (lv_room (Nat.le_of_ble_eq_true rfl)) dX12_far_31 ⟨Nat.zero_le _, Nat.zero_le _⟩) (fun H locs hP hD hS => ?_)
  refine lv_bipush (v := 30) hx hb dX12_far_34 (by decide) ?_
  refine lv_icmp_le (tgt := 43) hx hb dX12_far_36 (by decide) (fun c12 => ?_) (fun c12 => ?_)
  · rw [if_pos c12] at hF
    refine lv_aload_n hx hb dX12_far_43 rfl (lv_at hl 0 rfl) ?_
    refine lv_sipush (v := 154) hx hb dX12_far_44 (by decide) ?_
    refine lv_iload_n hx hb dX12_far_47 rfl (lv_at hl 1 rfl) ?_
    obtain ⟨r13, hc14, hF⟩ := bd_some hF
    have hPc := hP.sub (ws' := [o12 h x_thrown a_s a_image x_hasImage x_act x_spot x_end x_isWrong x_open a_by a_truths x_turn x_lean x_last x_angle x_asLay x_ticks a_bodies x_ran x_kind x_number x_tellsV, aI G a_s 1394 f_s]) [0, 1] rfl
    have hDc := hD.sub (ws' := [o12 h x_thrown a_s a_image x_hasImage x_act x_spot x_end x_isWrong x_open a_by a_truths x_turn x_lean x_last x_angle x_asLay x_ticks a_bodies x_ran x_kind x_number x_tellsV, aI G a_s 1394 f_s]) [0, 1] (by decide) rfl
    have hFc := va_free (wc := [o12 h x_thrown a_s a_image x_hasImage x_act x_spot x_end x_isWrong x_open a_by a_truths x_turn x_lean x_last x_angle x_asLay x_ticks a_bodies x_ran x_kind x_number x_tellsV, aI G a_s 1394 f_s]) hD hS hA [0, 1] rfl
    have hM := c_X12_allOf l G h a_s a_image a_by a_truths a_bodies x_thrown x_hasImage x_act x_spot x_end x_isWrong x_open x_turn x_lean x_last x_angle x_asLay x_ticks x_ran x_kind x_number x_tellsV f_s (154 : Int32) l1 r13 hc14 H.size
    refine cl_i (w1 := [o12 h x_thrown a_s a_image x_hasImage x_act x_spot x_end x_isWrong x_open a_by a_truths x_turn x_lean x_last x_angle x_asLay x_ticks a_bodies x_ran x_kind x_number x_tellsV, aI G a_s 1394 f_s]) (ws' := [o12 h x_thrown a_s a_image x_hasImage x_act x_spot x_end x_isWrong x_open a_by a_truths x_turn x_lean x_last x_angle x_asLay x_ticks a_bodies x_ran x_kind x_number x_tellsV, aI G a_s 1394 f_s]) hP hD hS hFc [0, 1] rfl rfl rfl (va_runV (As := [.int 154, .int l1]) (rest := []) ⟨hx, hb, hml, hown, hts⟩ hM (cwV 2 hts gX12_far_X12_allOf rfl rfl rfl (by decide +kernel) ⟨Nat.le_of_ble_eq_true rfl, Nat.le_of_ble_eq_true rfl⟩) (cp_V hK hE hS hPc hDc hFc (va_recv hK hPc (ci := 12) (q0 := 0) rfl rfl)) rfl rfl hl.1 rfl (lv_room (Nat.le_of_ble_eq_true rfl)) dX12_far_48 ⟨Nat.zero_le _, Nat.zero_le _⟩) (fun H locs hP hD hS => ?_)
    refine lv_istore (lv' := [(4, .int r13), (0, .ref h), (1, .int l1), (2, .int l2), (3, .int l3)]) hx hb dX12_far_51 hl (by decide) rfl (fun ls hl => ?_)
    refine lv_aload_n hx hb dX12_far_53 rfl (lv_at hl 1 rfl) ?_
    refine lv_sipush (v := 190) hx hb dX12_far_54 (by decide) ?_
    refine W.eq (g2 := F0 m 57 ls [.int 190, .ref h]) rfl ?_
    refine lv_iload_n hx hb dX12_far_57 rfl (lv_at hl 2 rfl) ?_
    obtain ⟨r15, hc16, hF⟩ := bd_some hF
    have hPc := hP.sub (ws' := [o12 h x_thrown a_s a_image x_hasImage x_act x_spot x_end x_isWrong x_open a_by a_truths x_turn x_lean x_last x_angle x_asLay x_ticks a_bodies x_ran x_kind x_number x_tellsV, aI G a_s 1394 f_s]) [0, 1] rfl
    have hDc := hD.sub (ws' := [o12 h x_thrown a_s a_image x_hasImage x_act x_spot x_end x_isWrong x_open a_by a_truths x_turn x_lean x_last x_angle x_asLay x_ticks a_bodies x_ran x_kind x_number x_tellsV, aI G a_s 1394 f_s]) [0, 1] (by decide) rfl
    have hFc := va_free (wc := [o12 h x_thrown a_s a_image x_hasImage x_act x_spot x_end x_isWrong x_open a_by a_truths x_turn x_lean x_last x_angle x_asLay x_ticks a_bodies x_ran x_kind x_number x_tellsV, aI G a_s 1394 f_s]) hD hS hA [0, 1] rfl
    have hM := c_X12_allOf l G h a_s a_image a_by a_truths a_bodies x_thrown x_hasImage x_act x_spot x_end x_isWrong x_open x_turn x_lean x_last x_angle x_asLay x_ticks x_ran x_kind x_number x_tellsV f_s (190 : Int32) l1 r15 hc16 H.size
    refine cl_i (w1 := [o12 h x_thrown a_s a_image x_hasImage x_act x_spot x_end x_isWrong x_open a_by a_truths x_turn x_lean x_last x_angle x_asLay x_ticks a_bodies x_ran x_kind x_number x_tellsV, aI G a_s 1394 f_s]) (ws' := [o12 h x_thrown a_s a_image x_hasImage x_act x_spot x_end x_isWrong x_open a_by a_truths x_turn x_lean x_last x_angle x_asLay x_ticks a_bodies x_ran x_kind x_number x_tellsV, aI G a_s 1394 f_s]) hP hD hS hFc [0, 1] rfl rfl rfl (va_runV (As := [.int 190, .int l1]) (rest := []) ⟨hx, hb, hml, hown, hts⟩ hM (cwV 2 hts gX12_far_X12_allOf rfl rfl rfl (by decide +kernel) ⟨Nat.le_of_ble_eq_true rfl, Nat.le_of_ble_eq_true rfl⟩) (cp_V hK hE hS hPc hDc hFc (va_recv hK hPc (ci := 12) (q0 := 0) rfl rfl)) rfl rfl hl.1 rfl (lv_room (Nat.le_of_ble_eq_true rfl)) dX12_far_58 ⟨Nat.zero_le _, Nat.zero_le _⟩) (fun H locs hP hD hS => ?_)
    refine lv_istore (lv' := [(5, .int r15), (4, .int r13), (0, .ref h), (1, .int l1), (2, .int l2), (3, .int l3)]) hx hb dX12_far_61 hl (by decide) rfl (fun ls hl => ?_)
    refine lv_lconst (v := 0) hx hb dX12_far_63 (by decide) ?_
    refine lv_lstore (lv' := [(6, .long 0), (5, .int r15), (4, .int r13), (0, .ref h), (1, .int l1), (2, .int l2), (3, .int l3)]) hx hb dX12_far_64 hl (by decide) rfl (fun ls hl => ?_)
    refine lv_iload hx hb dX12_far_66 (lv_at hl 1 rfl) ?_
    refine lv_istore (lv' := [(8, .int r15), (6, .long 0), (5, .int r15), (4, .int r13), (0, .ref h), (1, .int l1), (2, .int l2), (3, .int l3)]) hx hb dX12_far_68 hl (by decide) rfl (fun ls hl => ?_)
    refine LP70 _ _ _ _ _ (fun l6_21 H locs ls hP hD hS hl hF => ?_) _ _ _ H locs ls hP hD hS (lv_sub hl [6, 7, 3, 2, 1, 0] rfl) hF
    refine lv_lload hx hb dX12_far_104 (lv_at hl 2 rfl) ?_
    refine lv_lconst (v := 1) hx hb dX12_far_106 (by decide) ?_
    refine lv_iload hx hb dX12_far_107 (lv_at hl 1 rfl) ?_
    refine lv_lshl (v := ((1 : Int64) <<< (r13.toInt64 &&& 63))) hx hb dX12_far_109 rfl ?_
    refine lv_iload_n hx hb dX12_far_110 rfl (lv_at hl 0 rfl) ?_
    obtain ⟨r22, hc23, hF⟩ := bd_some hF
    have hPc := hP.sub (ws' := []) [] rfl
    have hDc := hD.sub (ws' := []) [] (by decide) rfl
    have hFc := va_free (wc := []) hD hS hA [] rfl
    have hM := c_X12_lowest l G l6_21 ((1 : Int64) <<< (r13.toInt64 &&& 63)) l3 r22 hc23 H.size
    refine cl_l (w1 := []) (ws' := [o12 h x_thrown a_s a_image x_hasImage x_act x_spot x_end x_isWrong x_open a_by a_truths x_turn x_lean x_last x_angle x_asLay x_ticks a_bodies x_ran x_kind x_number x_tellsV, aI G a_s 1394 f_s]) hP hD hS hFc [] rfl rfl rfl (va_runS (As := [.long l6_21, .long ((1 : Int64) <<< (r13.toInt64 &&& 63)), .int l3]) (rest := []) ⟨hx, hb, hml, hown, hts⟩ hM (va_cwS 3 hts gX12_far_X12_lowest rfl rfl rfl (by decide +kernel) ⟨Nat.le_of_ble_eq_true rfl, Nat.le_of_ble_eq_true rfl⟩) (cp_S hK hE hS hPc hDc hFc) rfl rfl hl.1 rfl (lv_room (Nat.le_of_ble_eq_true rfl)) dX12_far_111 ⟨Nat.zero_le _, Nat.zero_le _⟩) (fun H locs hP hD hS => ?_)
    injection hF with hz
    subst hz
    exact cm_retl hx hb hr hlk hK hP hD hS dX12_far_114
  rw [if_neg c12] at hF
  refine lv_ldc2 hx hb hown lc_167 dX12_far_39 ?_
  injection hF with hz
  subst hz
  exact cm_retl hx hb hr hlk hK hP hD hS dX12_far_42

/-! HeadsByHairModel.power(JI)J -/
abbrev rm_X12_power : Room := { frames := 0, cells := 0, slots := 0, locals := 0 }
set_option maxHeartbeats 4000000 in
set_option maxRecDepth 100000 in
theorem c_X12_power (l : Launch) (G : GG) (l0 : Int64) (l2 : Int32) (z : Int64) (hF : fX12_power l0 l2 = some (z)) : CMl l yX12_power wsX12_power rm_X12_power G [] [] [.long l0, .int l2] z := by
  refine cm_start (cc := cX12_power) (maxL := 6) (ret := (some .long)) (Qc := fun A => QL G [] z A) (by decide +kernel) rfl (Nat.le_of_ble_eq_true rfl) ?_
  intro p e s m args below meth c A hx hb hr hlk hml hown hnm hts hA H locs hP hK hD hE hS ls hl
  have hown : s.vm.findClass RX12 = some m.cls := hown
  have hl : lv_has ls 6 [(0, .long l0), (2, .int l2)] := hl
  revert hF
  have LP5 : ∀ (l0 : Int64) (l2 : Int32) (n : Nat) (l3 : Int64) (l5 : Int32) (H : Heap) (locs : List Loc) (ls : Array Slot), va_P G.1 vwCl [] H → va_D A [] → va_S A s.heap H locs → lv_has ls 6 [(0, .long l0), (2, .int l2), (3, .long l3), (5, .int l5)] → fX12_power_L5 l0 l2 n l3 l5 = some (z) → W p l e (rm_X12_power) s m args below meth c H locs 0 0 (MQ below (QL G [] z A) args s 0 0 A) (F0 m 5 ls []) := by
    intro l0 l2 n
    induction n with
    | zero =>
      intro l3 l5 H locs ls hP hD hS hl hF
      cases hF
    | succ n ih =>
      intro l3 l5 H locs ls hP hD hS hl hF
      rw [fX12_power_L5] at hF
      refine lv_iload hx hb dX12_power_5 (lv_at hl 3 rfl) ?_
      refine lv_iload_n hx hb dX12_power_7 rfl (lv_at hl 1 rfl) ?_
      refine lv_icmp_ge (tgt := 21) hx hb dX12_power_8 (by decide) (fun c1 => ?_) (fun c1 => ?_)
      · rw [if_pos c1] at hF
        refine lv_lload_n hx hb dX12_power_21 rfl (lv_at hl 2 rfl) ?_
        injection hF with hz
        subst hz
        exact cm_retl hx hb hr hlk hK hP hD hS dX12_power_22
      rw [if_neg c1] at hF
      refine lv_lload_n hx hb dX12_power_11 rfl (lv_at hl 2 rfl) ?_
      refine lv_lload_n hx hb dX12_power_12 rfl (lv_at hl 0 rfl) ?_
      refine lv_lmul hx hb dX12_power_13 ?_
      refine lv_lstore_n (lv' := [(3, .long (l3 * l0)), (0, .long l0), (2, .int l2), (5, .int l5)]) hx hb dX12_power_14 rfl hl (by decide) rfl (fun ls hl => ?_)
      refine lv_iinc (v := l5 + 1) (lv' := [(5, .int (l5 + 1)), (3, .long (l3 * l0)), (0, .long l0), (2, .int l2)]) hx hb dX12_power_15 hl (k := 3) rfl rfl (by decide) rfl (fun ls hl => ?_)
      refine lv_goto (tgt := 5) hx hb dX12_power_18 (by decide) ?_
      exact ih _ _ H locs ls hP hD hS (lv_sub hl [2, 3, 1, 0] rfl) hF
  intro hF
  unfold fX12_power at hF
  refine lv_lconst (v := 1) hx hb dX12_power_0 (by decide) ?_
  refine lv_lstore_n (lv' := [(3, .long 1), (0, .long l0), (2, .int l2)]) hx hb dX12_power_1 rfl hl (by decide) rfl (fun ls hl => ?_)
  refine lv_iconst (v := 0) hx hb dX12_power_2 (by decide) ?_
  refine lv_istore (lv' := [(5, .int 0), (3, .long 1), (0, .long l0), (2, .int l2)]) hx hb dX12_power_3 hl (by decide) rfl (fun ls hl => ?_)
  refine LP5 _ _ _ _ _ H locs ls hP hD hS (lv_sub hl [2, 3, 1, 0] rfl) hF

/-! HeadsByHairModel.need(III)I -/
abbrev rm_X12_need : Room := { frames := 1, cells := 0, slots := 0, locals := 25 }
set_option maxHeartbeats 4000000 in
set_option maxRecDepth 100000 in
theorem c_X12_need (l : Launch) (G : GG) (h : Nat) (l1 : Int32) (l2 : Int32) (l3 : Int32) (z : Int32) (hF : fX12_need l1 l2 l3 = some (z)) : CMi l yX12_need wsX12_need rm_X12_need G [] [] [.ref h, .int l1, .int l2, .int l3] z := by
  refine cm_start (cc := cX12_need) (maxL := 11) (ret := (some .int)) (Qc := fun A => QI G [] z A) (by decide +kernel) rfl (Nat.le_of_ble_eq_true rfl) ?_
  intro p e s m args below meth c A hx hb hr hlk hml hown hnm hts hA H locs hP hK hD hE hS ls hl
  have hown : s.vm.findClass RX12 = some m.cls := hown
  have hl : lv_has ls 11 [(0, .ref h), (1, .int l1), (2, .int l2), (3, .int l3)] := hl
  have lc_177 := hts (.constantLong RX12 177 (100)) (by decide +kernel)
  have lc_187 := hts (.constantLong RX12 187 (2)) (by decide +kernel)
  revert hF
  have LP63 : ∀ (l1 : Int32) (l2 : Int32) (l3 : Int32) (l4 : Int32) (l5 : Int32) (k122 : Int64 → Int64 → Option (Int32)) (hk122 : ∀ (l6 : Int64) (l8 : Int64) (H : Heap) (locs : List Loc) (ls : Array Slot), va_P G.1 vwCl [] H → va_D A [] → va_S A s.heap H locs → lv_has ls 11 [(1, .int l1), (2, .int l2), (3, .int l3), (4, .int l4), (5, .int l5), (6, .long l6), (8, .long l8)] → k122 l6 l8 = some (z) → W p l e (rm_X12_need) s m args below meth c H locs 0 0 (MQ below (QI G [] z A) args s 0 0 A) (F0 m 122 ls [])) (n : Nat) (l6 : Int64) (l8 : Int64) (l10 : Int32) (H : Heap) (locs : List Loc) (ls : Array Slot), va_P G.1 vwCl [] H → va_D A [] → va_S A s.heap H locs → lv_has ls 11 [(1, .int l1), (2, .int l2), (3, .int l3), (4, .int l4), (5, .int l5), (6, .long l6), (8, .long l8), (10, .int l10)] → fX12_need_L63 k122 l1 l2 l3 l4 l5 n l6 l8 l10 = some (z) → W p l e (rm_X12_need) s m args below meth c H locs 0 0 (MQ below (QI G [] z A) args s 0 0 A) (F0 m 63 ls []) := by
    intro l1 l2 l3 l4 l5 k122 hk122 n
    induction n with
    | zero =>
      intro l6 l8 l10 H locs ls hP hD hS hl hF
      cases hF
    | succ n ih =>
      intro l6 l8 l10 H locs ls hP hD hS hl hF
      rw [fX12_need_L63] at hF
      refine lv_iload hx hb dX12_need_63 (lv_at hl 7 rfl) ?_
      refine lv_iload hx hb dX12_need_65 (lv_at hl 3 rfl) ?_
      refine lv_icmp_gt (tgt := 122) hx hb dX12_need_67 (by decide) (fun c12 => ?_) (fun c12 => ?_)
      · rw [if_pos c12] at hF
        exact hk122 _ _ H locs ls hP hD hS (lv_sub hl [0, 1, 2, 3, 4, 5, 6] rfl) hF
      rw [if_neg c12] at hF
      refine lv_lload hx hb dX12_need_70 (lv_at hl 5 rfl) ?_
      refine lv_iload hx hb dX12_need_72 (lv_at hl 3 rfl) ?_
      refine lv_iload hx hb dX12_need_74 (lv_at hl 7 rfl) ?_
      obtain ⟨r13, hc14, hF⟩ := bd_some hF
      have hPc := hP.sub (ws' := []) [] rfl
      have hDc := hD.sub (ws' := []) [] (by decide) rfl
      have hFc := va_free (wc := []) hD hS hA [] rfl
      have hM := c_X12_choose l G l4 l10 r13 hc14 H.size
      refine cl_l (w1 := []) (ws' := []) hP hD hS hFc [] rfl rfl rfl (va_runS (As := [.int l4, .int l10]) (rest := [.long l6]) ⟨hx, hb, hml, hown, hts⟩ hM (va_cwS 2 hts gX12_need_X12_choose rfl rfl rfl (by decide +kernel) ⟨Nat.le_of_ble_eq_true rfl, Nat.le_of_ble_eq_true rfl⟩) (cp_S hK hE hS hPc hDc hFc) rfl rfl hl.1 rfl (lv_room (Nat.le_of_ble_eq_true rfl)) dX12_need_76 ⟨Nat.zero_le _, Nat.zero_le _⟩) (fun H locs hP hD hS => ?_)
      refine lv_iload_n hx hb dX12_need_79 rfl (lv_at hl 0 rfl) ?_
      refine lv_i2l (v := l1.toInt64) hx hb dX12_need_80 rfl ?_
      refine lv_iload hx hb dX12_need_81 (lv_at hl 7 rfl) ?_
      obtain ⟨r15, hc16, hF⟩ := bd_some hF
      have hPc := hP.sub (ws' := []) [] rfl
      have hDc := hD.sub (ws' := []) [] (by decide) rfl
      have hFc := va_free (wc := []) hD hS hA [] rfl
      have hM := c_X12_power l G l1.toInt64 l10 r15 hc16 H.size
      refine cl_l (w1 := []) (ws' := []) hP hD hS hFc [] rfl rfl rfl (va_runS (As := [.long l1.toInt64, .int l10]) (rest := [.long r13, .long l6]) ⟨hx, hb, hml, hown, hts⟩ hM (va_cwS 2 hts gX12_need_X12_power rfl rfl rfl (by decide +kernel) ⟨Nat.le_of_ble_eq_true rfl, Nat.le_of_ble_eq_true rfl⟩) (cp_S hK hE hS hPc hDc hFc) rfl rfl hl.1 rfl (lv_room (Nat.le_of_ble_eq_true rfl)) dX12_need_83 ⟨Nat.zero_le _, Nat.zero_le _⟩) (fun H locs hP hD hS => ?_)
      refine lv_lmul hx hb dX12_need_86 ?_
      refine lv_bipush (v := 100) hx hb dX12_need_87 (by decide) ?_
      refine W.eq (g2 := F0 m 89 ls [.int 100, .long (r13 * r15), .long l6]) rfl ?_
      refine lv_iload_n hx hb dX12_need_89 rfl (lv_at hl 0 rfl) ?_
      refine lv_isub hx hb dX12_need_90 ?_
      refine lv_i2l (v := (100 - l1).toInt64) hx hb dX12_need_91 rfl ?_
      refine lv_iload hx hb dX12_need_92 (lv_at hl 3 rfl) ?_
      refine lv_iload hx hb dX12_need_94 (lv_at hl 7 rfl) ?_
      refine lv_isub hx hb dX12_need_96 ?_
      obtain ⟨r17, hc18, hF⟩ := bd_some hF
      have hPc := hP.sub (ws' := []) [] rfl
      have hDc := hD.sub (ws' := []) [] (by decide) rfl
      have hFc := va_free (wc := []) hD hS hA [] rfl
      have hM := c_X12_power l G ((100 - l1).toInt64) (l4 - l10) r17 hc18 H.size
      refine cl_l (w1 := []) (ws' := []) hP hD hS hFc [] rfl rfl rfl (va_runS (As := [.long ((100 - l1).toInt64), .int (l4 - l10)]) (rest := [.long (r13 * r15), .long l6]) ⟨hx, hb, hml, hown, hts⟩ hM (va_cwS 2 hts gX12_need_X12_power rfl rfl rfl (by decide +kernel) ⟨Nat.le_of_ble_eq_true rfl, Nat.le_of_ble_eq_true rfl⟩) (cp_S hK hE hS hPc hDc hFc) rfl rfl hl.1 rfl (lv_room (Nat.le_of_ble_eq_true rfl)) dX12_need_97 ⟨Nat.zero_le _, Nat.zero_le _⟩) (fun H locs hP hD hS => ?_)
      refine lv_lmul hx hb dX12_need_100 ?_
      refine lv_ladd hx hb dX12_need_101 ?_
      refine lv_lstore (lv' := [(6, .long (l6 + ((r13 * r15) * r17))), (1, .int l1), (2, .int l2), (3, .int l3), (4, .int l4), (5, .int l5), (8, .long l8), (10, .int l10)]) hx hb dX12_need_102 hl (by decide) rfl (fun ls hl => ?_)
      refine lv_lload hx hb dX12_need_104 (lv_at hl 6 rfl) ?_
      refine lv_iload hx hb dX12_need_106 (lv_at hl 4 rfl) ?_
      refine lv_iload hx hb dX12_need_108 (lv_at hl 7 rfl) ?_
      obtain ⟨r19, hc20, hF⟩ := bd_some hF
      have hPc := hP.sub (ws' := []) [] rfl
      have hDc := hD.sub (ws' := []) [] (by decide) rfl
      have hFc := va_free (wc := []) hD hS hA [] rfl
      have hM := c_X12_choose l G l4 l10 r19 hc20 H.size
      refine cl_l (w1 := []) (ws' := []) hP hD hS hFc [] rfl rfl rfl (va_runS (As := [.int l4, .int l10]) (rest := [.long l8]) ⟨hx, hb, hml, hown, hts⟩ hM (va_cwS 2 hts gX12_need_X12_choose rfl rfl rfl (by decide +kernel) ⟨Nat.le_of_ble_eq_true rfl, Nat.le_of_ble_eq_true rfl⟩) (cp_S hK hE hS hPc hDc hFc) rfl rfl hl.1 rfl (lv_room (Nat.le_of_ble_eq_true rfl)) dX12_need_110 ⟨Nat.zero_le _, Nat.zero_le _⟩) (fun H locs hP hD hS => ?_)
      refine W.eq (g2 := F0 m 113 ls [.long r19, .long l8]) rfl ?_
      refine lv_ladd hx hb dX12_need_113 ?_
      refine lv_lstore (lv' := [(8, .long (l8 + r19)), (6, .long (l6 + ((r13 * r15) * r17))), (1, .int l1), (2, .int l2), (3, .int l3), (4, .int l4), (5, .int l5), (10, .int l10)]) hx hb dX12_need_114 hl (by decide) rfl (fun ls hl => ?_)
      refine lv_iinc (v := l10 + 1) (lv' := [(10, .int (l10 + 1)), (8, .long (l8 + r19)), (6, .long (l6 + ((r13 * r15) * r17))), (1, .int l1), (2, .int l2), (3, .int l3), (4, .int l4), (5, .int l5)]) hx hb dX12_need_116 hl (k := 7) rfl rfl (by decide) rfl (fun ls hl => ?_)
      refine lv_goto (tgt := 63) hx hb dX12_need_119 (by decide) ?_
      exact ih _ _ _ H locs ls hP hD hS (lv_sub hl [3, 4, 5, 6, 7, 2, 1, 0] rfl) hF
  have LP46 : ∀ (l1 : Int32) (l2 : Int32) (l3 : Int32) (l4 : Int32) (k179 : Option (Int32)) (hk179 : ∀ (H : Heap) (locs : List Loc) (ls : Array Slot), va_P G.1 vwCl [] H → va_D A [] → va_S A s.heap H locs → lv_has ls 11 [(1, .int l1), (2, .int l2), (3, .int l3), (4, .int l4)] → k179 = some (z) → W p l e (rm_X12_need) s m args below meth c H locs 0 0 (MQ below (QI G [] z A) args s 0 0 A) (F0 m 179 ls [])) (n : Nat) (l5 : Int32) (H : Heap) (locs : List Loc) (ls : Array Slot), va_P G.1 vwCl [] H → va_D A [] → va_S A s.heap H locs → lv_has ls 11 [(1, .int l1), (2, .int l2), (3, .int l3), (4, .int l4), (5, .int l5)] → fX12_need_L46 k179 l1 l2 l3 l4 n l5 = some (z) → W p l e (rm_X12_need) s m args below meth c H locs 0 0 (MQ below (QI G [] z A) args s 0 0 A) (F0 m 46 ls []) := by
    intro l1 l2 l3 l4 k179 hk179 n
    induction n with
    | zero =>
      intro l5 H locs ls hP hD hS hl hF
      cases hF
    | succ n ih =>
      intro l5 H locs ls hP hD hS hl hF
      rw [fX12_need_L46] at hF
      refine lv_iload hx hb dX12_need_46 (lv_at hl 4 rfl) ?_
      refine lv_iload hx hb dX12_need_48 (lv_at hl 3 rfl) ?_
      refine lv_icmp_gt (tgt := 179) hx hb dX12_need_50 (by decide) (fun c11 => ?_) (fun c11 => ?_)
      · rw [if_pos c11] at hF
        exact hk179 H locs ls hP hD hS (lv_sub hl [0, 1, 2, 3] rfl) hF
      rw [if_neg c11] at hF
      refine lv_lconst (v := 0) hx hb dX12_need_53 (by decide) ?_
      refine lv_lstore (lv' := [(6, .long 0), (1, .int l1), (2, .int l2), (3, .int l3), (4, .int l4), (5, .int l5)]) hx hb dX12_need_54 hl (by decide) rfl (fun ls hl => ?_)
      refine lv_lconst (v := 0) hx hb dX12_need_56 (by decide) ?_
      refine lv_lstore (lv' := [(8, .long 0), (6, .long 0), (1, .int l1), (2, .int l2), (3, .int l3), (4, .int l4), (5, .int l5)]) hx hb dX12_need_57 hl (by decide) rfl (fun ls hl => ?_)
      refine lv_iload hx hb dX12_need_59 (lv_at hl 6 rfl) ?_
      refine lv_istore (lv' := [(10, .int l5), (8, .long 0), (6, .long 0), (1, .int l1), (2, .int l2), (3, .int l3), (4, .int l4), (5, .int l5)]) hx hb dX12_need_61 hl (by decide) rfl (fun ls hl => ?_)
      refine LP63 _ _ _ _ _ _ (fun l6_21 l8_22 H locs ls hP hD hS hl hF => ?_) _ _ _ _ H locs ls hP hD hS (lv_sub hl [3, 4, 5, 6, 7, 2, 1, 0] rfl) hF
      refine lv_lload hx hb dX12_need_122 (lv_at hl 5 rfl) ?_
      refine lv_ldc2 hx hb hown lc_177 dX12_need_124 ?_
      refine lv_lmul hx hb dX12_need_127 ?_
      refine lv_iload_n hx hb dX12_need_128 rfl (lv_at hl 1 rfl) ?_
      refine W.eq (g2 := F0 m 129 ls [.int l2, .long (l6_21 * 100)]) rfl ?_
      refine lv_i2l (v := l2.toInt64) hx hb dX12_need_129 rfl ?_
      refine lv_ldc2 hx hb hown lc_177 dX12_need_130 ?_
      refine lv_iload hx hb dX12_need_133 (lv_at hl 3 rfl) ?_
      obtain ⟨r23, hc24, hF⟩ := bd_some hF
      have hPc := hP.sub (ws' := []) [] rfl
      have hDc := hD.sub (ws' := []) [] (by decide) rfl
      have hFc := va_free (wc := []) hD hS hA [] rfl
      have hM := c_X12_power l G (100 : Int64) l4 r23 hc24 H.size
      refine cl_l (w1 := []) (ws' := []) hP hD hS hFc [] rfl rfl rfl (va_runS (As := [.long 100, .int l4]) (rest := [.long l2.toInt64, .long (l6_21 * 100)]) ⟨hx, hb, hml, hown, hts⟩ hM (va_cwS 2 hts gX12_need_X12_power rfl rfl rfl (by decide +kernel) ⟨Nat.le_of_ble_eq_true rfl, Nat.le_of_ble_eq_true rfl⟩) (cp_S hK hE hS hPc hDc hFc) rfl rfl hl.1 rfl (lv_room (Nat.le_of_ble_eq_true rfl)) dX12_need_135 ⟨Nat.zero_le _, Nat.zero_le _⟩) (fun H locs hP hD hS => ?_)
      refine lv_lmul hx hb dX12_need_138 ?_
      refine W.lcmp hx hb dX12_need_139 ?_
      refine lv_if_lt (tgt := 173) hx hb dX12_need_140 (by decide) (fun c25 => ?_) (fun c25 => ?_)
      · rw [if_pos c25] at hF
        refine lv_iinc (v := l5 + 1) (lv' := [(5, .int (l5 + 1)), (1, .int l1), (2, .int l2), (3, .int l3), (4, .int l4), (6, .long l6_21), (8, .long l8_22)]) hx hb dX12_need_173 hl (k := 4) rfl rfl (by decide) rfl (fun ls hl => ?_)
        refine lv_goto (tgt := 46) hx hb dX12_need_176 (by decide) ?_
        exact ih _ H locs ls hP hD hS (lv_sub hl [1, 2, 3, 4, 0] rfl) hF
      rw [if_neg c25] at hF
      refine lv_lload hx hb dX12_need_143 (lv_at hl 6 rfl) ?_
      refine lv_ldc2 hx hb hown lc_177 dX12_need_145 ?_
      refine lv_lmul hx hb dX12_need_148 ?_
      refine lv_iload_n hx hb dX12_need_149 rfl (lv_at hl 2 rfl) ?_
      refine lv_i2l (v := l3.toInt64) hx hb dX12_need_150 rfl ?_
      refine lv_ldc2 hx hb hown lc_187 dX12_need_151 ?_
      refine lv_iload hx hb dX12_need_154 (lv_at hl 3 rfl) ?_
      refine W.eq (g2 := F0 m 156 ls [.int l4, .long 2, .long l3.toInt64, .long (l8_22 * 100)]) rfl ?_
      obtain ⟨r26, hc27, hF⟩ := bd_some hF
      have hPc := hP.sub (ws' := []) [] rfl
      have hDc := hD.sub (ws' := []) [] (by decide) rfl
      have hFc := va_free (wc := []) hD hS hA [] rfl
      have hM := c_X12_power l G (2 : Int64) l4 r26 hc27 H.size
      refine cl_l (w1 := []) (ws' := []) hP hD hS hFc [] rfl rfl rfl (va_runS (As := [.long 2, .int l4]) (rest := [.long l3.toInt64, .long (l8_22 * 100)]) ⟨hx, hb, hml, hown, hts⟩ hM (va_cwS 2 hts gX12_need_X12_power rfl rfl rfl (by decide +kernel) ⟨Nat.le_of_ble_eq_true rfl, Nat.le_of_ble_eq_true rfl⟩) (cp_S hK hE hS hPc hDc hFc) rfl rfl hl.1 rfl (lv_room (Nat.le_of_ble_eq_true rfl)) dX12_need_156 ⟨Nat.zero_le _, Nat.zero_le _⟩) (fun H locs hP hD hS => ?_)
      refine lv_lmul hx hb dX12_need_159 ?_
      refine W.lcmp hx hb dX12_need_160 ?_
      refine lv_if_gt (tgt := 173) hx hb dX12_need_161 (by decide) (fun c28 => ?_) (fun c28 => ?_)
      · rw [if_pos c28] at hF
        refine lv_iinc (v := l5 + 1) (lv' := [(5, .int (l5 + 1)), (1, .int l1), (2, .int l2), (3, .int l3), (4, .int l4), (6, .long l6_21), (8, .long l8_22)]) hx hb dX12_need_173 hl (k := 4) rfl rfl (by decide) rfl (fun ls hl => ?_)
        refine lv_goto (tgt := 46) hx hb dX12_need_176 (by decide) ?_
        exact ih _ H locs ls hP hD hS (lv_sub hl [1, 2, 3, 4, 0] rfl) hF
      rw [if_neg c28] at hF
      refine lv_bipush (v := 10) hx hb dX12_need_164 (by decide) ?_
      refine lv_iload hx hb dX12_need_166 (lv_at hl 3 rfl) ?_
      refine lv_imul hx hb dX12_need_168 ?_
      refine lv_iload hx hb dX12_need_169 (lv_at hl 4 rfl) ?_
      refine lv_iadd hx hb dX12_need_171 ?_
      injection hF with hz
      subst hz
      exact cm_reti hx hb hr rfl hlk hK hP hD hS dX12_need_172
  have LP36 : ∀ (l1 : Int32) (l2 : Int32) (l3 : Int32) (n : Nat) (l4 : Int32) (H : Heap) (locs : List Loc) (ls : Array Slot), va_P G.1 vwCl [] H → va_D A [] → va_S A s.heap H locs → lv_has ls 11 [(1, .int l1), (2, .int l2), (3, .int l3), (4, .int l4)] → fX12_need_L36 l1 l2 l3 n l4 = some (z) → W p l e (rm_X12_need) s m args below meth c H locs 0 0 (MQ below (QI G [] z A) args s 0 0 A) (F0 m 36 ls []) := by
    intro l1 l2 l3 n
    induction n with
    | zero =>
      intro l4 H locs ls hP hD hS hl hF
      cases hF
    | succ n ih =>
      intro l4 H locs ls hP hD hS hl hF
      rw [fX12_need_L36] at hF
      refine lv_iload hx hb dX12_need_36 (lv_at hl 3 rfl) ?_
      refine lv_bipush (v := 8) hx hb dX12_need_38 (by decide) ?_
      refine lv_icmp_gt (tgt := 185) hx hb dX12_need_40 (by decide) (fun c10 => ?_) (fun c10 => ?_)
      · rw [if_pos c10] at hF
        refine lv_bipush (v := (-5)) hx hb dX12_need_185 (by decide) ?_
        injection hF with hz
        subst hz
        exact cm_reti hx hb hr rfl hlk hK hP hD hS dX12_need_187
      rw [if_neg c10] at hF
      refine lv_iconst (v := 0) hx hb dX12_need_43 (by decide) ?_
      refine lv_istore (lv' := [(5, .int 0), (1, .int l1), (2, .int l2), (3, .int l3), (4, .int l4)]) hx hb dX12_need_44 hl (by decide) rfl (fun ls hl => ?_)
      refine LP46 _ _ _ _ _ (fun  H locs ls hP hD hS hl hF => ?_) _ _ H locs ls hP hD hS (lv_sub hl [1, 2, 3, 4, 0] rfl) hF
      refine lv_iinc (v := l4 + 1) (lv' := [(4, .int (l4 + 1)), (1, .int l1), (2, .int l2), (3, .int l3)]) hx hb dX12_need_179 hl (k := 3) rfl rfl (by decide) rfl (fun ls hl => ?_)
      refine lv_goto (tgt := 36) hx hb dX12_need_182 (by decide) ?_
      exact ih _ H locs ls hP hD hS (lv_sub hl [1, 2, 3, 0] rfl) hF
  intro hF
  unfold fX12_need at hF
  refine lv_iload_n hx hb dX12_need_0 rfl (lv_at hl 1 rfl) ?_
  refine lv_iconst (v := 0) hx hb dX12_need_1 (by decide) ?_
  refine lv_bipush (v := 100) hx hb dX12_need_2 (by decide) ?_
  obtain ⟨r1, hc2, hF⟩ := bd_some hF
  have hPc := hP.sub (ws' := []) [] rfl
  have hDc := hD.sub (ws' := []) [] (by decide) rfl
  have hFc := va_free (wc := []) hD hS hA [] rfl
  have hM := c_X12_in l G l1 (0 : Int32) (100 : Int32) r1 hc2 H.size
  refine cl_i (w1 := []) (ws' := []) hP hD hS hFc [] rfl rfl rfl (va_runS (As := [.int l1, .int 0, .int 100]) (rest := []) ⟨hx, hb, hml, hown, hts⟩ hM (va_cwS 3 hts gX12_need_X12_in rfl rfl rfl (by decide +kernel) ⟨Nat.le_of_ble_eq_true rfl, Nat.le_of_ble_eq_true rfl⟩) (cp_S hK hE hS hPc hDc hFc) rfl rfl hl.1 rfl (lv_room (Nat.le_of_ble_eq_true rfl)) dX12_need_4 ⟨Nat.zero_le _, Nat.zero_le _⟩) (fun H locs hP hD hS => ?_)
  refine lv_if_eq (tgt := 30) hx hb dX12_need_7 (by decide) (fun c3 => ?_) (fun c3 => ?_)
  · rw [if_pos c3] at hF
    refine lv_bipush (v := (-2)) hx hb dX12_need_30 (by decide) ?_
    injection hF with hz
    subst hz
    exact cm_reti hx hb hr rfl hlk hK hP hD hS dX12_need_32
  rw [if_neg c3] at hF
  refine lv_iload_n hx hb dX12_need_10 rfl (lv_at hl 2 rfl) ?_
  refine lv_iconst (v := 0) hx hb dX12_need_11 (by decide) ?_
  refine lv_bipush (v := 100) hx hb dX12_need_12 (by decide) ?_
  obtain ⟨r4, hc5, hF⟩ := bd_some hF
  have hPc := hP.sub (ws' := []) [] rfl
  have hDc := hD.sub (ws' := []) [] (by decide) rfl
  have hFc := va_free (wc := []) hD hS hA [] rfl
  have hM := c_X12_in l G l2 (0 : Int32) (100 : Int32) r4 hc5 H.size
  refine cl_i (w1 := []) (ws' := []) hP hD hS hFc [] rfl rfl rfl (va_runS (As := [.int l2, .int 0, .int 100]) (rest := []) ⟨hx, hb, hml, hown, hts⟩ hM (va_cwS 3 hts gX12_need_X12_in rfl rfl rfl (by decide +kernel) ⟨Nat.le_of_ble_eq_true rfl, Nat.le_of_ble_eq_true rfl⟩) (cp_S hK hE hS hPc hDc hFc) rfl rfl hl.1 rfl (lv_room (Nat.le_of_ble_eq_true rfl)) dX12_need_14 ⟨Nat.zero_le _, Nat.zero_le _⟩) (fun H locs hP hD hS => ?_)
  refine lv_if_eq (tgt := 30) hx hb dX12_need_17 (by decide) (fun c6 => ?_) (fun c6 => ?_)
  · rw [if_pos c6] at hF
    refine lv_bipush (v := (-2)) hx hb dX12_need_30 (by decide) ?_
    injection hF with hz
    subst hz
    exact cm_reti hx hb hr rfl hlk hK hP hD hS dX12_need_32
  rw [if_neg c6] at hF
  refine lv_iload_n hx hb dX12_need_20 rfl (lv_at hl 3 rfl) ?_
  refine lv_iconst (v := 0) hx hb dX12_need_21 (by decide) ?_
  refine lv_bipush (v := 100) hx hb dX12_need_22 (by decide) ?_
  refine W.eq (g2 := F0 m 24 ls [.int 100, .int 0, .int l3]) rfl ?_
  obtain ⟨r7, hc8, hF⟩ := bd_some hF
  have hPc := hP.sub (ws' := []) [] rfl
  have hDc := hD.sub (ws' := []) [] (by decide) rfl
  have hFc := va_free (wc := []) hD hS hA [] rfl
  have hM := c_X12_in l G l3 (0 : Int32) (100 : Int32) r7 hc8 H.size
  refine cl_i (w1 := []) (ws' := []) hP hD hS hFc [] rfl rfl rfl (va_runS (As := [.int l3, .int 0, .int 100]) (rest := []) ⟨hx, hb, hml, hown, hts⟩ hM (va_cwS 3 hts gX12_need_X12_in rfl rfl rfl (by decide +kernel) ⟨Nat.le_of_ble_eq_true rfl, Nat.le_of_ble_eq_true rfl⟩) (cp_S hK hE hS hPc hDc hFc) rfl rfl hl.1 rfl (lv_room (Nat.le_of_ble_eq_true rfl)) dX12_need_24 ⟨Nat.zero_le _, Nat.zero_le _⟩) (fun H locs hP hD hS => ?_)
  refine lv_if_ne (tgt := 33) hx hb dX12_need_27 (by decide) (fun c9 => ?_) (fun c9 => ?_)
  · rw [if_neg c9] at hF
    refine lv_iconst (v := 1) hx hb dX12_need_33 (by decide) ?_
    refine lv_istore (lv' := [(4, .int 1), (0, .ref h), (1, .int l1), (2, .int l2), (3, .int l3)]) hx hb dX12_need_34 hl (by decide) rfl (fun ls hl => ?_)
    refine LP36 _ _ _ _ _ H locs ls hP hD hS (lv_sub hl [2, 3, 4, 0] rfl) hF
  rw [if_pos c9] at hF
  refine lv_bipush (v := (-2)) hx hb dX12_need_30 (by decide) ?_
  injection hF with hz
  subst hz
  exact cm_reti hx hb hr rfl hlk hK hP hD hS dX12_need_32
