abbrev aI (G : GG) (a n : Nat) (f : Nat → Int32) : Nat × va_E := (a, .inl (gI G, n, .inl f))
abbrev aZ (G : GG) (a n : Nat) (f : Nat → Int32) : Nat × va_E := (a, .inl (gZ G, n, .inl f))
abbrev aT (G : GG) (a n : Nat) (f : Nat → Option Nat) : Nat × va_E := (a, .inl (gT G, n, .inr (.inr (.inr (.inr f)))))
abbrev o0 (h : Nat) (x_kind : Int32) (x_number : Int32) (x_v : Int32) (x_caught : Int32) (x_steps : Nat) : Nat × va_E := (h, .inr (0, [.int x_kind, .int x_number, .int x_v, .int x_caught, .ref x_steps]))
abbrev o1 (h : Nat) (x_kind : Int32) (x_number : Int32) (x_v : Int32) (x_caught : Int32) (x_steps : Nat) : Nat × va_E := (h, .inr (1, [.int x_kind, .int x_number, .int x_v, .int x_caught, .ref x_steps]))
abbrev o2 (h : Nat) (x_hand : Int32) (x_edge : Int32) (x_bend : Int32) (x_rise : Int32) (x_last : Int32) (x_tick : Int32) (x_angle : Int32) (x_lean : Int32) : Nat × va_E := (h, .inr (2, [.int x_hand, .int x_edge, .int x_bend, .int x_rise, .int x_last, .int x_tick, .int x_angle, .int x_lean]))
abbrev o3 (h : Nat) (x_text : Nat) (x_steps : Nat) (x_size : Int32) (x_place : Int32) (x_stepCount : Int32) (x_number : Int32) (x_caught : Int32) : Nat × va_E := (h, .inr (3, [.ref x_text, .ref x_steps, .int x_size, .int x_place, .int x_stepCount, .int x_number, .int x_caught]))
abbrev o4 (h : Nat) (x_kind : Int32) (x_number : Int32) (x_v : Int32) (x_caught : Int32) (x_steps : Nat) : Nat × va_E := (h, .inr (4, [.int x_kind, .int x_number, .int x_v, .int x_caught, .ref x_steps]))
abbrev o5 (h : Nat) (x_kind : Int32) (x_number : Int32) (x_v : Int32) (x_caught : Int32) (x_steps : Nat) : Nat × va_E := (h, .inr (5, [.int x_kind, .int x_number, .int x_v, .int x_caught, .ref x_steps]))
abbrev o6 (h : Nat) (x_coins : Int32) (x_hands : Int32) (x_laws : Int32) (x_bytes : Int32) (x_sides : Int32) (x_edge : Nat) (x_bend : Nat) (x_rise : Nat) (x_wandering : Nat) (x_thrown : Nat) (x_alike : Nat) (x_law : Nat) (x_tape : Nat) (x_side : Nat) : Nat × va_E := (h, .inr (6, [.int x_coins, .int x_hands, .int x_laws, .int x_bytes, .int x_sides, .ref x_edge, .ref x_bend, .ref x_rise, .ref x_wandering, .ref x_thrown, .ref x_alike, .ref x_law, .ref x_tape, .ref x_side]))
abbrev o7 (h : Nat) (x_kind : Int32) (x_number : Int32) (x_v : Int32) (x_caught : Int32) (x_steps : Nat) : Nat × va_E := (h, .inr (7, [.int x_kind, .int x_number, .int x_v, .int x_caught, .ref x_steps]))
abbrev o8 (h : Nat) (x_body : Nat) (x_ran : Int32) : Nat × va_E := (h, .inr (8, [.ref x_body, .int x_ran]))
abbrev o9 (h : Nat) (x_kind : Int32) (x_number : Int32) (x_v : Int32) (x_caught : Int32) (x_steps : Nat) : Nat × va_E := (h, .inr (9, [.int x_kind, .int x_number, .int x_v, .int x_caught, .ref x_steps]))
abbrev o10 (h : Nat) (x_kind : Int32) (x_number : Int32) (x_v : Int32) (x_caught : Int32) (x_steps : Nat) : Nat × va_E := (h, .inr (10, [.int x_kind, .int x_number, .int x_v, .int x_caught, .ref x_steps]))
abbrev o11 (h : Nat) (x_now : Nat) (x_kept : Nat) (x_isKept : Int32) (x_reader : Nat) (x_flight : Nat) (x_latest : Nat) : Nat × va_E := (h, .inr (11, [.ref x_now, .ref x_kept, .int x_isKept, .ref x_reader, .ref x_flight, .ref x_latest]))
abbrev o12 (h : Nat) (x_thrown : Int32) (x_s : Nat) (x_image : Nat) (x_hasImage : Int32) (x_act : Int32) (x_spot : Int32) (x_end : Int32) (x_isWrong : Int32) (x_open : Int32) (x_by : Nat) (x_truths : Nat) (x_turn : Int32) (x_lean : Int32) (x_last : Int32) (x_angle : Int32) (x_asLay : Int32) (x_ticks : Int32) (x_bodies : Nat) (x_ran : Int32) (x_kind : Int32) (x_number : Int32) (x_tellsV : Int32) : Nat × va_E := (h, .inr (12, [.int x_thrown, .ref x_s, .ref x_image, .int x_hasImage, .int x_act, .int x_spot, .int x_end, .int x_isWrong, .int x_open, .ref x_by, .ref x_truths, .int x_turn, .int x_lean, .int x_last, .int x_angle, .int x_asLay, .int x_ticks, .ref x_bodies, .int x_ran, .int x_kind, .int x_number, .int x_tellsV]))
/-! HeadsByHairModel.in(III)Z -/
abbrev rm_X12_in : Room := { frames := 0, cells := 0, slots := 0, locals := 0 }
set_option maxHeartbeats 4000000 in
set_option maxRecDepth 100000 in
theorem c_X12_in (l : Launch) (G : GG) (l0 : Int32) (l1 : Int32) (l2 : Int32) (z : Int32) (hF : fX12_in l0 l1 l2 = some (z)) : CMi l yX12_in wsX12_in rm_X12_in G [] [] [.int l0, .int l1, .int l2] z := by
  refine cm_start (cc := cX12_in) (maxL := 3) (ret := (some .boolean)) (Qc := fun A => QI G [] z A) (by decide +kernel) rfl (Nat.le_of_ble_eq_true rfl) ?_
  intro p e s m args below meth c A hx hb hr hlk hml hown hnm hts hA H locs hP hK hD hE hS ls hl
  have hown : s.vm.findClass RX12 = some m.cls := hown
  have hl : lv_has ls 3 [(0, .int l0), (1, .int l1), (2, .int l2)] := hl
  revert hF
  intro hF
  unfold fX12_in at hF
  refine lv_iload_n hx hb dX12_in_0 rfl (lv_at hl 0 rfl) ?_
  refine lv_iload_n hx hb dX12_in_1 rfl (lv_at hl 1 rfl) ?_
  refine lv_icmp_lt (tgt := 14) hx hb dX12_in_2 (by decide) (fun c1 => ?_) (fun c1 => ?_)
  · rw [if_pos c1] at hF
    refine lv_iconst (v := 0) hx hb dX12_in_14 (by decide) ?_
    injection hF with hz
    subst hz
    exact cm_reti hx hb hr (by decide) hlk hK hP hD hS dX12_in_15
  rw [if_neg c1] at hF
  refine lv_iload_n hx hb dX12_in_5 rfl (lv_at hl 0 rfl) ?_
  refine lv_iload_n hx hb dX12_in_6 rfl (lv_at hl 2 rfl) ?_
  refine lv_icmp_gt (tgt := 14) hx hb dX12_in_7 (by decide) (fun c2 => ?_) (fun c2 => ?_)
  · rw [if_pos c2] at hF
    refine lv_iconst (v := 0) hx hb dX12_in_14 (by decide) ?_
    injection hF with hz
    subst hz
    exact cm_reti hx hb hr (by decide) hlk hK hP hD hS dX12_in_15
  rw [if_neg c2] at hF
  refine lv_iconst (v := 1) hx hb dX12_in_10 (by decide) ?_
  refine lv_goto (tgt := 15) hx hb dX12_in_11 (by decide) ?_
  injection hF with hz
  subst hz
  exact cm_reti hx hb hr (by decide) hlk hK hP hD hS dX12_in_15

/-! HeadsByHairModel.isCoin(I)Z -/
abbrev rm_X12_isCoin : Room := { frames := 1, cells := 0, slots := 0, locals := 22 }
set_option maxHeartbeats 4000000 in
set_option maxRecDepth 100000 in
theorem c_X12_isCoin (l : Launch) (G : GG) (h a_s a_image a_by a_truths a_bodies : Nat) (x_thrown x_hasImage x_act x_spot x_end x_isWrong x_open x_turn x_lean x_last x_angle x_asLay x_ticks x_ran x_kind x_number x_tellsV : Int32) (f_s : Nat → Int32) (l1 : Int32) (z : Int32) (hF : fX12_isCoin f_s l1 = some (z)) : CMi l yX12_isCoin wsX12_isCoin rm_X12_isCoin G [o12 h x_thrown a_s a_image x_hasImage x_act x_spot x_end x_isWrong x_open a_by a_truths x_turn x_lean x_last x_angle x_asLay x_ticks a_bodies x_ran x_kind x_number x_tellsV, aI G a_s 1394 f_s] [o12 h x_thrown a_s a_image x_hasImage x_act x_spot x_end x_isWrong x_open a_by a_truths x_turn x_lean x_last x_angle x_asLay x_ticks a_bodies x_ran x_kind x_number x_tellsV, aI G a_s 1394 f_s] [.ref h, .int l1] z := by
  refine cm_start (cc := cX12_isCoin) (maxL := 2) (ret := (some .boolean)) (Qc := fun A => QI G [o12 h x_thrown a_s a_image x_hasImage x_act x_spot x_end x_isWrong x_open a_by a_truths x_turn x_lean x_last x_angle x_asLay x_ticks a_bodies x_ran x_kind x_number x_tellsV, aI G a_s 1394 f_s] z A) (by decide +kernel) rfl (Nat.le_of_ble_eq_true rfl) ?_
  intro p e s m args below meth c A hx hb hr hlk hml hown hnm hts hA H locs hP hK hD hE hS ls hl
  have hown : s.vm.findClass RX12 = some m.cls := hown
  have hl : lv_has ls 2 [(0, .ref h), (1, .int l1)] := hl
  have hin12 : ∀ w ∈ wsX120, w ∈ wsX12_isCoin := by decide +kernel
  have lk_9 := hts (.fieldLink RX12 9 "HeadsByHairModel" "s" "[I") (by decide +kernel)
  revert hF
  intro hF
  unfold fX12_isCoin at hF
  refine lv_iload_n hx hb dX12_isCoin_0 rfl (lv_at hl 1 rfl) ?_
  refine lv_iconst (v := 0) hx hb dX12_isCoin_1 (by decide) ?_
  refine lv_aload_n hx hb dX12_isCoin_2 rfl (lv_at hl 0 rfl) ?_
  refine va_get (D := G.1) (ci := 12) (v := .ref a_s) (C := RX12) (T := TX12) (N := 22) hx hb hts hin12 hown hK hP 0 rfl rfl 1 (by decide) lk_9 (fun _ h9 => h9) rfl dX12_isCoin_3 ?_
  refine lv_iconst (v := 0) hx hb dX12_isCoin_6 (by decide) ?_
  refine va_iald (D := G.1) hx hb hK hP 1 0 rfl rfl (by unfold vp_in; decide) dX12_isCoin_7 ?_
  refine lv_eqi (y := f_s 0) rfl ?_
  refine lv_iconst (v := 1) hx hb dX12_isCoin_8 (by decide) ?_
  refine lv_isub hx hb dX12_isCoin_9 ?_
  obtain ⟨r1, hc2, hF⟩ := bd_some hF
  have hPc := hP.sub (ws' := []) [] rfl
  have hDc := hD.sub (ws' := []) [] (by decide) rfl
  have hFc := va_free (wc := []) hD hS hA [] rfl
  have hM := c_X12_in l G l1 (0 : Int32) ((f_s 0) - 1) r1 hc2 H.size
  refine cl_i (w1 := []) (ws' := [o12 h x_thrown a_s a_image x_hasImage x_act x_spot x_end x_isWrong x_open a_by a_truths x_turn x_lean x_last x_angle x_asLay x_ticks a_bodies x_ran x_kind x_number x_tellsV, aI G a_s 1394 f_s]) hP hD hS hFc [] rfl rfl rfl (va_runS (As := [.int l1, .int 0, .int ((f_s 0) - 1)]) (rest := []) ⟨hx, hb, hml, hown, hts⟩ hM (va_cwS 3 hts gX12_isCoin_X12_in rfl rfl rfl (by decide +kernel) ⟨Nat.le_of_ble_eq_true rfl, Nat.le_of_ble_eq_true rfl⟩) (cp_S hK hE hS hPc hDc hFc) rfl rfl hl.1 rfl (lv_room (Nat.le_of_ble_eq_true rfl)) dX12_isCoin_10 ⟨Nat.zero_le _, Nat.zero_le _⟩) (fun H locs hP hD hS => ?_)
  obtain ⟨hb3, hF⟩ := ck_some hF
  injection hF with hz
  subst hz
  exact cm_reti hx hb hr (nb_ok hb3).1 hlk hK hP hD hS dX12_isCoin_13

/-! HeadsByHairModel.isHand(I)Z -/
abbrev rm_X12_isHand : Room := { frames := 1, cells := 0, slots := 0, locals := 22 }
set_option maxHeartbeats 4000000 in
set_option maxRecDepth 100000 in
theorem c_X12_isHand (l : Launch) (G : GG) (h a_s a_image a_by a_truths a_bodies : Nat) (x_thrown x_hasImage x_act x_spot x_end x_isWrong x_open x_turn x_lean x_last x_angle x_asLay x_ticks x_ran x_kind x_number x_tellsV : Int32) (f_s : Nat → Int32) (l1 : Int32) (z : Int32) (hF : fX12_isHand f_s l1 = some (z)) : CMi l yX12_isHand wsX12_isHand rm_X12_isHand G [o12 h x_thrown a_s a_image x_hasImage x_act x_spot x_end x_isWrong x_open a_by a_truths x_turn x_lean x_last x_angle x_asLay x_ticks a_bodies x_ran x_kind x_number x_tellsV, aI G a_s 1394 f_s] [o12 h x_thrown a_s a_image x_hasImage x_act x_spot x_end x_isWrong x_open a_by a_truths x_turn x_lean x_last x_angle x_asLay x_ticks a_bodies x_ran x_kind x_number x_tellsV, aI G a_s 1394 f_s] [.ref h, .int l1] z := by
  refine cm_start (cc := cX12_isHand) (maxL := 2) (ret := (some .boolean)) (Qc := fun A => QI G [o12 h x_thrown a_s a_image x_hasImage x_act x_spot x_end x_isWrong x_open a_by a_truths x_turn x_lean x_last x_angle x_asLay x_ticks a_bodies x_ran x_kind x_number x_tellsV, aI G a_s 1394 f_s] z A) (by decide +kernel) rfl (Nat.le_of_ble_eq_true rfl) ?_
  intro p e s m args below meth c A hx hb hr hlk hml hown hnm hts hA H locs hP hK hD hE hS ls hl
  have hown : s.vm.findClass RX12 = some m.cls := hown
  have hl : lv_has ls 2 [(0, .ref h), (1, .int l1)] := hl
  have hin12 : ∀ w ∈ wsX120, w ∈ wsX12_isHand := by decide +kernel
  have lk_9 := hts (.fieldLink RX12 9 "HeadsByHairModel" "s" "[I") (by decide +kernel)
  revert hF
  intro hF
  unfold fX12_isHand at hF
  refine lv_iload_n hx hb dX12_isHand_0 rfl (lv_at hl 1 rfl) ?_
  refine lv_iconst (v := 0) hx hb dX12_isHand_1 (by decide) ?_
  refine lv_aload_n hx hb dX12_isHand_2 rfl (lv_at hl 0 rfl) ?_
  refine va_get (D := G.1) (ci := 12) (v := .ref a_s) (C := RX12) (T := TX12) (N := 22) hx hb hts hin12 hown hK hP 0 rfl rfl 1 (by decide) lk_9 (fun _ h9 => h9) rfl dX12_isHand_3 ?_
  refine lv_iconst (v := 1) hx hb dX12_isHand_6 (by decide) ?_
  refine va_iald (D := G.1) hx hb hK hP 1 0 rfl rfl (by unfold vp_in; decide) dX12_isHand_7 ?_
  refine lv_eqi (y := f_s 1) rfl ?_
  refine lv_iconst (v := 1) hx hb dX12_isHand_8 (by decide) ?_
  refine lv_isub hx hb dX12_isHand_9 ?_
  obtain ⟨r1, hc2, hF⟩ := bd_some hF
  have hPc := hP.sub (ws' := []) [] rfl
  have hDc := hD.sub (ws' := []) [] (by decide) rfl
  have hFc := va_free (wc := []) hD hS hA [] rfl
  have hM := c_X12_in l G l1 (0 : Int32) ((f_s 1) - 1) r1 hc2 H.size
  refine cl_i (w1 := []) (ws' := [o12 h x_thrown a_s a_image x_hasImage x_act x_spot x_end x_isWrong x_open a_by a_truths x_turn x_lean x_last x_angle x_asLay x_ticks a_bodies x_ran x_kind x_number x_tellsV, aI G a_s 1394 f_s]) hP hD hS hFc [] rfl rfl rfl (va_runS (As := [.int l1, .int 0, .int ((f_s 1) - 1)]) (rest := []) ⟨hx, hb, hml, hown, hts⟩ hM (va_cwS 3 hts gX12_isHand_X12_in rfl rfl rfl (by decide +kernel) ⟨Nat.le_of_ble_eq_true rfl, Nat.le_of_ble_eq_true rfl⟩) (cp_S hK hE hS hPc hDc hFc) rfl rfl hl.1 rfl (lv_room (Nat.le_of_ble_eq_true rfl)) dX12_isHand_10 ⟨Nat.zero_le _, Nat.zero_le _⟩) (fun H locs hP hD hS => ?_)
  obtain ⟨hb3, hF⟩ := ck_some hF
  injection hF with hz
  subst hz
  exact cm_reti hx hb hr (nb_ok hb3).1 hlk hK hP hD hS dX12_isHand_13

/-! HeadsByHairModel.isLaw(I)Z -/
abbrev rm_X12_isLaw : Room := { frames := 1, cells := 0, slots := 0, locals := 22 }
set_option maxHeartbeats 4000000 in
set_option maxRecDepth 100000 in
theorem c_X12_isLaw (l : Launch) (G : GG) (h a_s a_image a_by a_truths a_bodies : Nat) (x_thrown x_hasImage x_act x_spot x_end x_isWrong x_open x_turn x_lean x_last x_angle x_asLay x_ticks x_ran x_kind x_number x_tellsV : Int32) (f_s : Nat → Int32) (l1 : Int32) (z : Int32) (hF : fX12_isLaw f_s l1 = some (z)) : CMi l yX12_isLaw wsX12_isLaw rm_X12_isLaw G [o12 h x_thrown a_s a_image x_hasImage x_act x_spot x_end x_isWrong x_open a_by a_truths x_turn x_lean x_last x_angle x_asLay x_ticks a_bodies x_ran x_kind x_number x_tellsV, aI G a_s 1394 f_s] [o12 h x_thrown a_s a_image x_hasImage x_act x_spot x_end x_isWrong x_open a_by a_truths x_turn x_lean x_last x_angle x_asLay x_ticks a_bodies x_ran x_kind x_number x_tellsV, aI G a_s 1394 f_s] [.ref h, .int l1] z := by
  refine cm_start (cc := cX12_isLaw) (maxL := 2) (ret := (some .boolean)) (Qc := fun A => QI G [o12 h x_thrown a_s a_image x_hasImage x_act x_spot x_end x_isWrong x_open a_by a_truths x_turn x_lean x_last x_angle x_asLay x_ticks a_bodies x_ran x_kind x_number x_tellsV, aI G a_s 1394 f_s] z A) (by decide +kernel) rfl (Nat.le_of_ble_eq_true rfl) ?_
  intro p e s m args below meth c A hx hb hr hlk hml hown hnm hts hA H locs hP hK hD hE hS ls hl
  have hown : s.vm.findClass RX12 = some m.cls := hown
  have hl : lv_has ls 2 [(0, .ref h), (1, .int l1)] := hl
  have hin12 : ∀ w ∈ wsX120, w ∈ wsX12_isLaw := by decide +kernel
  have lk_9 := hts (.fieldLink RX12 9 "HeadsByHairModel" "s" "[I") (by decide +kernel)
  revert hF
  intro hF
  unfold fX12_isLaw at hF
  refine lv_iload_n hx hb dX12_isLaw_0 rfl (lv_at hl 1 rfl) ?_
  refine lv_iconst (v := 0) hx hb dX12_isLaw_1 (by decide) ?_
  refine lv_aload_n hx hb dX12_isLaw_2 rfl (lv_at hl 0 rfl) ?_
  refine va_get (D := G.1) (ci := 12) (v := .ref a_s) (C := RX12) (T := TX12) (N := 22) hx hb hts hin12 hown hK hP 0 rfl rfl 1 (by decide) lk_9 (fun _ h9 => h9) rfl dX12_isLaw_3 ?_
  refine lv_iconst (v := 2) hx hb dX12_isLaw_6 (by decide) ?_
  refine va_iald (D := G.1) hx hb hK hP 1 0 rfl rfl (by unfold vp_in; decide) dX12_isLaw_7 ?_
  refine lv_eqi (y := f_s 2) rfl ?_
  refine lv_iconst (v := 1) hx hb dX12_isLaw_8 (by decide) ?_
  refine lv_isub hx hb dX12_isLaw_9 ?_
  obtain ⟨r1, hc2, hF⟩ := bd_some hF
  have hPc := hP.sub (ws' := []) [] rfl
  have hDc := hD.sub (ws' := []) [] (by decide) rfl
  have hFc := va_free (wc := []) hD hS hA [] rfl
  have hM := c_X12_in l G l1 (0 : Int32) ((f_s 2) - 1) r1 hc2 H.size
  refine cl_i (w1 := []) (ws' := [o12 h x_thrown a_s a_image x_hasImage x_act x_spot x_end x_isWrong x_open a_by a_truths x_turn x_lean x_last x_angle x_asLay x_ticks a_bodies x_ran x_kind x_number x_tellsV, aI G a_s 1394 f_s]) hP hD hS hFc [] rfl rfl rfl (va_runS (As := [.int l1, .int 0, .int ((f_s 2) - 1)]) (rest := []) ⟨hx, hb, hml, hown, hts⟩ hM (va_cwS 3 hts gX12_isLaw_X12_in rfl rfl rfl (by decide +kernel) ⟨Nat.le_of_ble_eq_true rfl, Nat.le_of_ble_eq_true rfl⟩) (cp_S hK hE hS hPc hDc hFc) rfl rfl hl.1 rfl (lv_room (Nat.le_of_ble_eq_true rfl)) dX12_isLaw_10 ⟨Nat.zero_le _, Nat.zero_le _⟩) (fun H locs hP hD hS => ?_)
  obtain ⟨hb3, hF⟩ := ck_some hF
  injection hF with hz
  subst hz
  exact cm_reti hx hb hr (nb_ok hb3).1 hlk hK hP hD hS dX12_isLaw_13

/-! HeadsByHairModel.areThere(III)Z -/
abbrev rm_X12_areThere : Room := { frames := 2, cells := 0, slots := 0, locals := 43 }
set_option maxHeartbeats 4000000 in
set_option maxRecDepth 100000 in
theorem c_X12_areThere (l : Launch) (G : GG) (h a_s a_image a_by a_truths a_bodies : Nat) (x_thrown x_hasImage x_act x_spot x_end x_isWrong x_open x_turn x_lean x_last x_angle x_asLay x_ticks x_ran x_kind x_number x_tellsV : Int32) (f_s : Nat → Int32) (l1 : Int32) (l2 : Int32) (l3 : Int32) (z : Int32) (hF : fX12_areThere f_s l1 l2 l3 = some (z)) : CMi l yX12_areThere wsX12_areThere rm_X12_areThere G [o12 h x_thrown a_s a_image x_hasImage x_act x_spot x_end x_isWrong x_open a_by a_truths x_turn x_lean x_last x_angle x_asLay x_ticks a_bodies x_ran x_kind x_number x_tellsV, aI G a_s 1394 f_s] [o12 h x_thrown a_s a_image x_hasImage x_act x_spot x_end x_isWrong x_open a_by a_truths x_turn x_lean x_last x_angle x_asLay x_ticks a_bodies x_ran x_kind x_number x_tellsV, aI G a_s 1394 f_s] [.ref h, .int l1, .int l2, .int l3] z := by
  refine cm_start (cc := cX12_areThere) (maxL := 4) (ret := (some .boolean)) (Qc := fun A => QI G [o12 h x_thrown a_s a_image x_hasImage x_act x_spot x_end x_isWrong x_open a_by a_truths x_turn x_lean x_last x_angle x_asLay x_ticks a_bodies x_ran x_kind x_number x_tellsV, aI G a_s 1394 f_s] z A) (by decide +kernel) rfl (Nat.le_of_ble_eq_true rfl) ?_
  intro p e s m args below meth c A hx hb hr hlk hml hown hnm hts hA H locs hP hK hD hE hS ls hl
  have hown : s.vm.findClass RX12 = some m.cls := hown
  have hl : lv_has ls 4 [(0, .ref h), (1, .int l1), (2, .int l2), (3, .int l3)] := hl
  revert hF
  intro hF
  unfold fX12_areThere at hF
  refine lv_aload_n hx hb dX12_areThere_0 rfl (lv_at hl 0 rfl) ?_
  refine lv_iload_n hx hb dX12_areThere_1 rfl (lv_at hl 1 rfl) ?_
  obtain ⟨r1, hc2, hF⟩ := bd_some hF
  have hPc := hP.sub (ws' := [o12 h x_thrown a_s a_image x_hasImage x_act x_spot x_end x_isWrong x_open a_by a_truths x_turn x_lean x_last x_angle x_asLay x_ticks a_bodies x_ran x_kind x_number x_tellsV, aI G a_s 1394 f_s]) [0, 1] rfl
  have hDc := hD.sub (ws' := [o12 h x_thrown a_s a_image x_hasImage x_act x_spot x_end x_isWrong x_open a_by a_truths x_turn x_lean x_last x_angle x_asLay x_ticks a_bodies x_ran x_kind x_number x_tellsV, aI G a_s 1394 f_s]) [0, 1] (by decide) rfl
  have hFc := va_free (wc := [o12 h x_thrown a_s a_image x_hasImage x_act x_spot x_end x_isWrong x_open a_by a_truths x_turn x_lean x_last x_angle x_asLay x_ticks a_bodies x_ran x_kind x_number x_tellsV, aI G a_s 1394 f_s]) hD hS hA [0, 1] rfl
  have hM := c_X12_isLaw l G h a_s a_image a_by a_truths a_bodies x_thrown x_hasImage x_act x_spot x_end x_isWrong x_open x_turn x_lean x_last x_angle x_asLay x_ticks x_ran x_kind x_number x_tellsV f_s l1 r1 hc2 H.size
  refine cl_i (w1 := [o12 h x_thrown a_s a_image x_hasImage x_act x_spot x_end x_isWrong x_open a_by a_truths x_turn x_lean x_last x_angle x_asLay x_ticks a_bodies x_ran x_kind x_number x_tellsV, aI G a_s 1394 f_s]) (ws' := [o12 h x_thrown a_s a_image x_hasImage x_act x_spot x_end x_isWrong x_open a_by a_truths x_turn x_lean x_last x_angle x_asLay x_ticks a_bodies x_ran x_kind x_number x_tellsV, aI G a_s 1394 f_s]) hP hD hS hFc [0, 1] rfl rfl rfl (va_runV (As := [.int l1]) (rest := []) ⟨hx, hb, hml, hown, hts⟩ hM (cwV 1 hts gX12_areThere_X12_isLaw rfl rfl rfl (by decide +kernel) ⟨Nat.le_of_ble_eq_true rfl, Nat.le_of_ble_eq_true rfl⟩) (cp_V hK hE hS hPc hDc hFc (va_recv hK hPc (ci := 12) (q0 := 0) rfl rfl)) rfl rfl hl.1 rfl (lv_room (Nat.le_of_ble_eq_true rfl)) dX12_areThere_2 ⟨Nat.zero_le _, Nat.zero_le _⟩) (fun H locs hP hD hS => ?_)
  refine lv_if_eq (tgt := 28) hx hb dX12_areThere_5 (by decide) (fun c3 => ?_) (fun c3 => ?_)
  · rw [if_pos c3] at hF
    refine lv_iconst (v := 0) hx hb dX12_areThere_28 (by decide) ?_
    injection hF with hz
    subst hz
    exact cm_reti hx hb hr (by decide) hlk hK hP hD hS dX12_areThere_29
  rw [if_neg c3] at hF
  refine lv_aload_n hx hb dX12_areThere_8 rfl (lv_at hl 0 rfl) ?_
  refine lv_iload_n hx hb dX12_areThere_9 rfl (lv_at hl 2 rfl) ?_
  obtain ⟨r4, hc5, hF⟩ := bd_some hF
  have hPc := hP.sub (ws' := [o12 h x_thrown a_s a_image x_hasImage x_act x_spot x_end x_isWrong x_open a_by a_truths x_turn x_lean x_last x_angle x_asLay x_ticks a_bodies x_ran x_kind x_number x_tellsV, aI G a_s 1394 f_s]) [0, 1] rfl
  have hDc := hD.sub (ws' := [o12 h x_thrown a_s a_image x_hasImage x_act x_spot x_end x_isWrong x_open a_by a_truths x_turn x_lean x_last x_angle x_asLay x_ticks a_bodies x_ran x_kind x_number x_tellsV, aI G a_s 1394 f_s]) [0, 1] (by decide) rfl
  have hFc := va_free (wc := [o12 h x_thrown a_s a_image x_hasImage x_act x_spot x_end x_isWrong x_open a_by a_truths x_turn x_lean x_last x_angle x_asLay x_ticks a_bodies x_ran x_kind x_number x_tellsV, aI G a_s 1394 f_s]) hD hS hA [0, 1] rfl
  have hM := c_X12_isHand l G h a_s a_image a_by a_truths a_bodies x_thrown x_hasImage x_act x_spot x_end x_isWrong x_open x_turn x_lean x_last x_angle x_asLay x_ticks x_ran x_kind x_number x_tellsV f_s l2 r4 hc5 H.size
  refine cl_i (w1 := [o12 h x_thrown a_s a_image x_hasImage x_act x_spot x_end x_isWrong x_open a_by a_truths x_turn x_lean x_last x_angle x_asLay x_ticks a_bodies x_ran x_kind x_number x_tellsV, aI G a_s 1394 f_s]) (ws' := [o12 h x_thrown a_s a_image x_hasImage x_act x_spot x_end x_isWrong x_open a_by a_truths x_turn x_lean x_last x_angle x_asLay x_ticks a_bodies x_ran x_kind x_number x_tellsV, aI G a_s 1394 f_s]) hP hD hS hFc [0, 1] rfl rfl rfl (va_runV (As := [.int l2]) (rest := []) ⟨hx, hb, hml, hown, hts⟩ hM (cwV 1 hts gX12_areThere_X12_isHand rfl rfl rfl (by decide +kernel) ⟨Nat.le_of_ble_eq_true rfl, Nat.le_of_ble_eq_true rfl⟩) (cp_V hK hE hS hPc hDc hFc (va_recv hK hPc (ci := 12) (q0 := 0) rfl rfl)) rfl rfl hl.1 rfl (lv_room (Nat.le_of_ble_eq_true rfl)) dX12_areThere_10 ⟨Nat.zero_le _, Nat.zero_le _⟩) (fun H locs hP hD hS => ?_)
  refine lv_if_eq (tgt := 28) hx hb dX12_areThere_13 (by decide) (fun c6 => ?_) (fun c6 => ?_)
  · rw [if_pos c6] at hF
    refine lv_iconst (v := 0) hx hb dX12_areThere_28 (by decide) ?_
    injection hF with hz
    subst hz
    exact cm_reti hx hb hr (by decide) hlk hK hP hD hS dX12_areThere_29
  rw [if_neg c6] at hF
  refine lv_aload_n hx hb dX12_areThere_16 rfl (lv_at hl 0 rfl) ?_
  refine lv_iload_n hx hb dX12_areThere_17 rfl (lv_at hl 3 rfl) ?_
  obtain ⟨r7, hc8, hF⟩ := bd_some hF
  have hPc := hP.sub (ws' := [o12 h x_thrown a_s a_image x_hasImage x_act x_spot x_end x_isWrong x_open a_by a_truths x_turn x_lean x_last x_angle x_asLay x_ticks a_bodies x_ran x_kind x_number x_tellsV, aI G a_s 1394 f_s]) [0, 1] rfl
  have hDc := hD.sub (ws' := [o12 h x_thrown a_s a_image x_hasImage x_act x_spot x_end x_isWrong x_open a_by a_truths x_turn x_lean x_last x_angle x_asLay x_ticks a_bodies x_ran x_kind x_number x_tellsV, aI G a_s 1394 f_s]) [0, 1] (by decide) rfl
  have hFc := va_free (wc := [o12 h x_thrown a_s a_image x_hasImage x_act x_spot x_end x_isWrong x_open a_by a_truths x_turn x_lean x_last x_angle x_asLay x_ticks a_bodies x_ran x_kind x_number x_tellsV, aI G a_s 1394 f_s]) hD hS hA [0, 1] rfl
  have hM := c_X12_isCoin l G h a_s a_image a_by a_truths a_bodies x_thrown x_hasImage x_act x_spot x_end x_isWrong x_open x_turn x_lean x_last x_angle x_asLay x_ticks x_ran x_kind x_number x_tellsV f_s l3 r7 hc8 H.size
  refine cl_i (w1 := [o12 h x_thrown a_s a_image x_hasImage x_act x_spot x_end x_isWrong x_open a_by a_truths x_turn x_lean x_last x_angle x_asLay x_ticks a_bodies x_ran x_kind x_number x_tellsV, aI G a_s 1394 f_s]) (ws' := [o12 h x_thrown a_s a_image x_hasImage x_act x_spot x_end x_isWrong x_open a_by a_truths x_turn x_lean x_last x_angle x_asLay x_ticks a_bodies x_ran x_kind x_number x_tellsV, aI G a_s 1394 f_s]) hP hD hS hFc [0, 1] rfl rfl rfl (va_runV (As := [.int l3]) (rest := []) ⟨hx, hb, hml, hown, hts⟩ hM (cwV 1 hts gX12_areThere_X12_isCoin rfl rfl rfl (by decide +kernel) ⟨Nat.le_of_ble_eq_true rfl, Nat.le_of_ble_eq_true rfl⟩) (cp_V hK hE hS hPc hDc hFc (va_recv hK hPc (ci := 12) (q0 := 0) rfl rfl)) rfl rfl hl.1 rfl (lv_room (Nat.le_of_ble_eq_true rfl)) dX12_areThere_18 ⟨Nat.zero_le _, Nat.zero_le _⟩) (fun H locs hP hD hS => ?_)
  refine lv_if_eq (tgt := 28) hx hb dX12_areThere_21 (by decide) (fun c9 => ?_) (fun c9 => ?_)
  · rw [if_pos c9] at hF
    refine lv_iconst (v := 0) hx hb dX12_areThere_28 (by decide) ?_
    refine W.eq (g2 := F0 m 29 ls [.int 0]) rfl ?_
    injection hF with hz
    subst hz
    exact cm_reti hx hb hr (by decide) hlk hK hP hD hS dX12_areThere_29
  rw [if_neg c9] at hF
  refine lv_iconst (v := 1) hx hb dX12_areThere_24 (by decide) ?_
  refine W.eq (g2 := F0 m 25 ls [.int 1]) rfl ?_
  refine lv_goto (tgt := 29) hx hb dX12_areThere_25 (by decide) ?_
  injection hF with hz
  subst hz
  exact cm_reti hx hb hr (by decide) hlk hK hP hD hS dX12_areThere_29

/-! HeadsByHairModel.coin(II)I -/
abbrev rm_X12_coin : Room := { frames := 1, cells := 0, slots := 0, locals := 22 }
set_option maxHeartbeats 4000000 in
set_option maxRecDepth 100000 in
theorem c_X12_coin (l : Launch) (G : GG) (h a_s a_image a_by a_truths a_bodies : Nat) (x_thrown x_hasImage x_act x_spot x_end x_isWrong x_open x_turn x_lean x_last x_angle x_asLay x_ticks x_ran x_kind x_number x_tellsV : Int32) (f_s : Nat → Int32) (l1 : Int32) (l2 : Int32) (z : Int32) (z_f_s : Nat → Int32) (hF : fX12_coin f_s l1 l2 = some (z, z_f_s)) : CMi l yX12_coin wsX12_coin rm_X12_coin G [o12 h x_thrown a_s a_image x_hasImage x_act x_spot x_end x_isWrong x_open a_by a_truths x_turn x_lean x_last x_angle x_asLay x_ticks a_bodies x_ran x_kind x_number x_tellsV, aI G a_s 1394 f_s] [o12 h x_thrown a_s a_image x_hasImage x_act x_spot x_end x_isWrong x_open a_by a_truths x_turn x_lean x_last x_angle x_asLay x_ticks a_bodies x_ran x_kind x_number x_tellsV, aI G a_s 1394 z_f_s] [.ref h, .int l1, .int l2] z := by
  refine cm_start (cc := cX12_coin) (maxL := 3) (ret := (some .int)) (Qc := fun A => QI G [o12 h x_thrown a_s a_image x_hasImage x_act x_spot x_end x_isWrong x_open a_by a_truths x_turn x_lean x_last x_angle x_asLay x_ticks a_bodies x_ran x_kind x_number x_tellsV, aI G a_s 1394 z_f_s] z A) (by decide +kernel) rfl (Nat.le_of_ble_eq_true rfl) ?_
  intro p e s m args below meth c A hx hb hr hlk hml hown hnm hts hA H locs hP hK hD hE hS ls hl
  have hown : s.vm.findClass RX12 = some m.cls := hown
  have hl : lv_has ls 3 [(0, .ref h), (1, .int l1), (2, .int l2)] := hl
  have hin12 : ∀ w ∈ wsX120, w ∈ wsX12_coin := by decide +kernel
  have lk_9 := hts (.fieldLink RX12 9 "HeadsByHairModel" "s" "[I") (by decide +kernel)
  revert hF
  intro hF
  unfold fX12_coin at hF
  refine lv_iload_n hx hb dX12_coin_0 rfl (lv_at hl 1 rfl) ?_
  refine lv_iconst (v := 0) hx hb dX12_coin_1 (by decide) ?_
  refine lv_bipush (v := 9) hx hb dX12_coin_2 (by decide) ?_
  obtain ⟨r1, hc2, hF⟩ := bd_some hF
  have hPc := hP.sub (ws' := []) [] rfl
  have hDc := hD.sub (ws' := []) [] (by decide) rfl
  have hFc := va_free (wc := []) hD hS hA [] rfl
  have hM := c_X12_in l G l1 (0 : Int32) (9 : Int32) r1 hc2 H.size
  refine cl_i (w1 := []) (ws' := [o12 h x_thrown a_s a_image x_hasImage x_act x_spot x_end x_isWrong x_open a_by a_truths x_turn x_lean x_last x_angle x_asLay x_ticks a_bodies x_ran x_kind x_number x_tellsV, aI G a_s 1394 f_s]) hP hD hS hFc [] rfl rfl rfl (va_runS (As := [.int l1, .int 0, .int 9]) (rest := []) ⟨hx, hb, hml, hown, hts⟩ hM (va_cwS 3 hts gX12_coin_X12_in rfl rfl rfl (by decide +kernel) ⟨Nat.le_of_ble_eq_true rfl, Nat.le_of_ble_eq_true rfl⟩) (cp_S hK hE hS hPc hDc hFc) rfl rfl hl.1 rfl (lv_room (Nat.le_of_ble_eq_true rfl)) dX12_coin_4 ⟨Nat.zero_le _, Nat.zero_le _⟩) (fun H locs hP hD hS => ?_)
  refine lv_if_eq (tgt := 20) hx hb dX12_coin_7 (by decide) (fun c3 => ?_) (fun c3 => ?_)
  · rw [if_pos c3] at hF
    refine lv_bipush (v := (-2)) hx hb dX12_coin_20 (by decide) ?_
    injection hF with hz
    injection hz with hq0 hz
    subst hq0
    subst hz
    exact cm_reti hx hb hr rfl hlk hK hP hD hS dX12_coin_22
  rw [if_neg c3] at hF
  refine lv_iload_n hx hb dX12_coin_10 rfl (lv_at hl 2 rfl) ?_
  refine lv_iconst (v := 0) hx hb dX12_coin_11 (by decide) ?_
  refine lv_bipush (v := 9) hx hb dX12_coin_12 (by decide) ?_
  obtain ⟨r4, hc5, hF⟩ := bd_some hF
  have hPc := hP.sub (ws' := []) [] rfl
  have hDc := hD.sub (ws' := []) [] (by decide) rfl
  have hFc := va_free (wc := []) hD hS hA [] rfl
  have hM := c_X12_in l G l2 (0 : Int32) (9 : Int32) r4 hc5 H.size
  refine cl_i (w1 := []) (ws' := [o12 h x_thrown a_s a_image x_hasImage x_act x_spot x_end x_isWrong x_open a_by a_truths x_turn x_lean x_last x_angle x_asLay x_ticks a_bodies x_ran x_kind x_number x_tellsV, aI G a_s 1394 f_s]) hP hD hS hFc [] rfl rfl rfl (va_runS (As := [.int l2, .int 0, .int 9]) (rest := []) ⟨hx, hb, hml, hown, hts⟩ hM (va_cwS 3 hts gX12_coin_X12_in rfl rfl rfl (by decide +kernel) ⟨Nat.le_of_ble_eq_true rfl, Nat.le_of_ble_eq_true rfl⟩) (cp_S hK hE hS hPc hDc hFc) rfl rfl hl.1 rfl (lv_room (Nat.le_of_ble_eq_true rfl)) dX12_coin_14 ⟨Nat.zero_le _, Nat.zero_le _⟩) (fun H locs hP hD hS => ?_)
  refine lv_if_ne (tgt := 23) hx hb dX12_coin_17 (by decide) (fun c6 => ?_) (fun c6 => ?_)
  · rw [if_neg c6] at hF
    refine lv_aload_n hx hb dX12_coin_23 rfl (lv_at hl 0 rfl) ?_
    refine va_get (D := G.1) (ci := 12) (v := .ref a_s) (C := RX12) (T := TX12) (N := 22) hx hb hts hin12 hown hK hP 0 rfl rfl 1 (by decide) lk_9 (fun _ h9 => h9) rfl dX12_coin_24 ?_
    refine lv_iconst (v := 0) hx hb dX12_coin_27 (by decide) ?_
    refine W.eq (g2 := F0 m 28 ls [.int 0, .ref a_s]) rfl ?_
    refine va_iald (D := G.1) hx hb hK hP 1 0 rfl rfl (by unfold vp_in; decide) dX12_coin_28 ?_
    refine lv_eqi (y := f_s 0) rfl ?_
    refine lv_bipush (v := 6) hx hb dX12_coin_29 (by decide) ?_
    refine lv_icmp_ne (tgt := 37) hx hb dX12_coin_31 (by decide) (fun c7 => ?_) (fun c7 => ?_)
    · rw [if_neg c7] at hF
      refine lv_aload_n hx hb dX12_coin_37 rfl (lv_at hl 0 rfl) ?_
      refine va_get (D := G.1) (ci := 12) (v := .ref a_s) (C := RX12) (T := TX12) (N := 22) hx hb hts hin12 hown hK hP 0 rfl rfl 1 (by decide) lk_9 (fun _ h9 => h9) rfl dX12_coin_38 ?_
      refine lv_sipush (v := 130) hx hb dX12_coin_41 (by decide) ?_
      refine lv_aload_n hx hb dX12_coin_44 rfl (lv_at hl 0 rfl) ?_
      refine va_get (D := G.1) (ci := 12) (v := .ref a_s) (C := RX12) (T := TX12) (N := 22) hx hb hts hin12 hown hK hP 0 rfl rfl 1 (by decide) lk_9 (fun _ h9 => h9) rfl dX12_coin_45 ?_
      refine lv_iconst (v := 0) hx hb dX12_coin_48 (by decide) ?_
      refine va_iald (D := G.1) hx hb hK hP 1 0 rfl rfl (by unfold vp_in; decide) dX12_coin_49 ?_
      refine lv_eqi (y := f_s 0) rfl ?_
      refine lv_iadd hx hb dX12_coin_50 ?_
      refine lv_iload_n hx hb dX12_coin_51 rfl (lv_at hl 1 rfl) ?_
      obtain ⟨hi8, hF⟩ := ck_some hF
      refine va_iast (D := G.1) hx hb hK hP hD hS 1 0 rfl rfl hi8 dX12_coin_52 (fun H locs hP hD hS => ?_)
      have hP : va_P G.1 vwCl [o12 h x_thrown a_s a_image x_hasImage x_act x_spot x_end x_isWrong x_open a_by a_truths x_turn x_lean x_last x_angle x_asLay x_ticks a_bodies x_ran x_kind x_number x_tellsV, aI G a_s 1394 (upd f_s (130 + (f_s 0)).toNatClampNeg l1)] H := hP
      have hD : va_D A [o12 h x_thrown a_s a_image x_hasImage x_act x_spot x_end x_isWrong x_open a_by a_truths x_turn x_lean x_last x_angle x_asLay x_ticks a_bodies x_ran x_kind x_number x_tellsV, aI G a_s 1394 (upd f_s (130 + (f_s 0)).toNatClampNeg l1)] := hD
      refine lv_aload_n hx hb dX12_coin_53 rfl (lv_at hl 0 rfl) ?_
      refine W.eq (g2 := F0 m 54 ls [.ref h]) rfl ?_
      refine va_get (D := G.1) (ci := 12) (v := .ref a_s) (C := RX12) (T := TX12) (N := 22) hx hb hts hin12 hown hK hP 0 rfl rfl 1 (by decide) lk_9 (fun _ h9 => h9) rfl dX12_coin_54 ?_
      refine lv_sipush (v := 136) hx hb dX12_coin_57 (by decide) ?_
      refine lv_aload_n hx hb dX12_coin_60 rfl (lv_at hl 0 rfl) ?_
      refine va_get (D := G.1) (ci := 12) (v := .ref a_s) (C := RX12) (T := TX12) (N := 22) hx hb hts hin12 hown hK hP 0 rfl rfl 1 (by decide) lk_9 (fun _ h9 => h9) rfl dX12_coin_61 ?_
      refine lv_iconst (v := 0) hx hb dX12_coin_64 (by decide) ?_
      refine va_iald (D := G.1) hx hb hK hP 1 0 rfl rfl (by unfold vp_in; decide) dX12_coin_65 ?_
      refine lv_eqi (y := (upd f_s (130 + (f_s 0)).toNatClampNeg l1) 0) rfl ?_
      refine lv_iadd hx hb dX12_coin_66 ?_
      refine lv_iload_n hx hb dX12_coin_67 rfl (lv_at hl 2 rfl) ?_
      obtain ⟨hi9, hF⟩ := ck_some hF
      refine va_iast (D := G.1) hx hb hK hP hD hS 1 0 rfl rfl hi9 dX12_coin_68 (fun H locs hP hD hS => ?_)
      have hP : va_P G.1 vwCl [o12 h x_thrown a_s a_image x_hasImage x_act x_spot x_end x_isWrong x_open a_by a_truths x_turn x_lean x_last x_angle x_asLay x_ticks a_bodies x_ran x_kind x_number x_tellsV, aI G a_s 1394 (upd (upd f_s (130 + (f_s 0)).toNatClampNeg l1) (136 + ((upd f_s (130 + (f_s 0)).toNatClampNeg l1) 0)).toNatClampNeg l2)] H := hP
      have hD : va_D A [o12 h x_thrown a_s a_image x_hasImage x_act x_spot x_end x_isWrong x_open a_by a_truths x_turn x_lean x_last x_angle x_asLay x_ticks a_bodies x_ran x_kind x_number x_tellsV, aI G a_s 1394 (upd (upd f_s (130 + (f_s 0)).toNatClampNeg l1) (136 + ((upd f_s (130 + (f_s 0)).toNatClampNeg l1) 0)).toNatClampNeg l2)] := hD
      refine lv_aload_n hx hb dX12_coin_69 rfl (lv_at hl 0 rfl) ?_
      refine va_get (D := G.1) (ci := 12) (v := .ref a_s) (C := RX12) (T := TX12) (N := 22) hx hb hts hin12 hown hK hP 0 rfl rfl 1 (by decide) lk_9 (fun _ h9 => h9) rfl dX12_coin_70 ?_
      refine lv_iconst (v := 0) hx hb dX12_coin_73 (by decide) ?_
      refine lv_dup2_11 hx hb dX12_coin_74 rfl rfl ?_
      refine va_iald (D := G.1) hx hb hK hP 1 0 rfl rfl (by unfold vp_in; decide) dX12_coin_75 ?_
      refine lv_eqi (y := (upd (upd f_s (130 + (f_s 0)).toNatClampNeg l1) (136 + ((upd f_s (130 + (f_s 0)).toNatClampNeg l1) 0)).toNatClampNeg l2) 0) rfl ?_
      refine W.eq (g2 := F0 m 76 ls [.int ((upd (upd f_s (130 + (f_s 0)).toNatClampNeg l1) (136 + ((upd f_s (130 + (f_s 0)).toNatClampNeg l1) 0)).toNatClampNeg l2) 0), .int 0, .ref a_s]) rfl ?_
      refine lv_iconst (v := 1) hx hb dX12_coin_76 (by decide) ?_
      refine lv_iadd hx hb dX12_coin_77 ?_
      refine va_iast (D := G.1) hx hb hK hP hD hS 1 0 rfl rfl (by unfold vp_in; decide) dX12_coin_78 (fun H locs hP hD hS => ?_)
      have hP : va_P G.1 vwCl [o12 h x_thrown a_s a_image x_hasImage x_act x_spot x_end x_isWrong x_open a_by a_truths x_turn x_lean x_last x_angle x_asLay x_ticks a_bodies x_ran x_kind x_number x_tellsV, aI G a_s 1394 (upd (upd (upd f_s (130 + (f_s 0)).toNatClampNeg l1) (136 + ((upd f_s (130 + (f_s 0)).toNatClampNeg l1) 0)).toNatClampNeg l2) 0 (((upd (upd f_s (130 + (f_s 0)).toNatClampNeg l1) (136 + ((upd f_s (130 + (f_s 0)).toNatClampNeg l1) 0)).toNatClampNeg l2) 0) + 1))] H := hP
      have hD : va_D A [o12 h x_thrown a_s a_image x_hasImage x_act x_spot x_end x_isWrong x_open a_by a_truths x_turn x_lean x_last x_angle x_asLay x_ticks a_bodies x_ran x_kind x_number x_tellsV, aI G a_s 1394 (upd (upd (upd f_s (130 + (f_s 0)).toNatClampNeg l1) (136 + ((upd f_s (130 + (f_s 0)).toNatClampNeg l1) 0)).toNatClampNeg l2) 0 (((upd (upd f_s (130 + (f_s 0)).toNatClampNeg l1) (136 + ((upd f_s (130 + (f_s 0)).toNatClampNeg l1) 0)).toNatClampNeg l2) 0) + 1))] := hD
      refine lv_aload_n hx hb dX12_coin_79 rfl (lv_at hl 0 rfl) ?_
      refine va_get (D := G.1) (ci := 12) (v := .ref a_s) (C := RX12) (T := TX12) (N := 22) hx hb hts hin12 hown hK hP 0 rfl rfl 1 (by decide) lk_9 (fun _ h9 => h9) rfl dX12_coin_80 ?_
      refine lv_iconst (v := 0) hx hb dX12_coin_83 (by decide) ?_
      refine va_iald (D := G.1) hx hb hK hP 1 0 rfl rfl (by unfold vp_in; decide) dX12_coin_84 ?_
      refine lv_eqi (y := (upd (upd (upd f_s (130 + (f_s 0)).toNatClampNeg l1) (136 + ((upd f_s (130 + (f_s 0)).toNatClampNeg l1) 0)).toNatClampNeg l2) 0 (((upd (upd f_s (130 + (f_s 0)).toNatClampNeg l1) (136 + ((upd f_s (130 + (f_s 0)).toNatClampNeg l1) 0)).toNatClampNeg l2) 0) + 1)) 0) rfl ?_
      refine lv_iconst (v := 1) hx hb dX12_coin_85 (by decide) ?_
      refine lv_isub hx hb dX12_coin_86 ?_
      injection hF with hz
      injection hz with hq0 hz
      subst hq0
      subst hz
      exact cm_reti hx hb hr rfl hlk hK hP hD hS dX12_coin_87
    rw [if_pos c7] at hF
    refine lv_bipush (v := (-4)) hx hb dX12_coin_34 (by decide) ?_
    injection hF with hz
    injection hz with hq0 hz
    subst hq0
    subst hz
    exact cm_reti hx hb hr rfl hlk hK hP hD hS dX12_coin_36
  rw [if_pos c6] at hF
  refine lv_bipush (v := (-2)) hx hb dX12_coin_20 (by decide) ?_
  injection hF with hz
  injection hz with hq0 hz
  subst hq0
  subst hz
  exact cm_reti hx hb hr rfl hlk hK hP hD hS dX12_coin_22

/-! HeadsByHairModel.hand(II)I -/
abbrev rm_X12_hand : Room := { frames := 1, cells := 0, slots := 0, locals := 22 }
set_option maxHeartbeats 4000000 in
set_option maxRecDepth 100000 in
theorem c_X12_hand (l : Launch) (G : GG) (h a_s a_image a_by a_truths a_bodies : Nat) (x_thrown x_hasImage x_act x_spot x_end x_isWrong x_open x_turn x_lean x_last x_angle x_asLay x_ticks x_ran x_kind x_number x_tellsV : Int32) (f_s : Nat → Int32) (l1 : Int32) (l2 : Int32) (z : Int32) (z_f_s : Nat → Int32) (hF : fX12_hand f_s l1 l2 = some (z, z_f_s)) : CMi l yX12_hand wsX12_hand rm_X12_hand G [o12 h x_thrown a_s a_image x_hasImage x_act x_spot x_end x_isWrong x_open a_by a_truths x_turn x_lean x_last x_angle x_asLay x_ticks a_bodies x_ran x_kind x_number x_tellsV, aI G a_s 1394 f_s] [o12 h x_thrown a_s a_image x_hasImage x_act x_spot x_end x_isWrong x_open a_by a_truths x_turn x_lean x_last x_angle x_asLay x_ticks a_bodies x_ran x_kind x_number x_tellsV, aI G a_s 1394 z_f_s] [.ref h, .int l1, .int l2] z := by
  refine cm_start (cc := cX12_hand) (maxL := 3) (ret := (some .int)) (Qc := fun A => QI G [o12 h x_thrown a_s a_image x_hasImage x_act x_spot x_end x_isWrong x_open a_by a_truths x_turn x_lean x_last x_angle x_asLay x_ticks a_bodies x_ran x_kind x_number x_tellsV, aI G a_s 1394 z_f_s] z A) (by decide +kernel) rfl (Nat.le_of_ble_eq_true rfl) ?_
  intro p e s m args below meth c A hx hb hr hlk hml hown hnm hts hA H locs hP hK hD hE hS ls hl
  have hown : s.vm.findClass RX12 = some m.cls := hown
  have hl : lv_has ls 3 [(0, .ref h), (1, .int l1), (2, .int l2)] := hl
  have hin12 : ∀ w ∈ wsX120, w ∈ wsX12_hand := by decide +kernel
  have lk_9 := hts (.fieldLink RX12 9 "HeadsByHairModel" "s" "[I") (by decide +kernel)
  revert hF
  intro hF
  unfold fX12_hand at hF
  refine lv_iload_n hx hb dX12_hand_0 rfl (lv_at hl 1 rfl) ?_
  refine lv_iconst (v := 1) hx hb dX12_hand_1 (by decide) ?_
  refine lv_bipush (v := 30) hx hb dX12_hand_2 (by decide) ?_
  obtain ⟨r1, hc2, hF⟩ := bd_some hF
  have hPc := hP.sub (ws' := []) [] rfl
  have hDc := hD.sub (ws' := []) [] (by decide) rfl
  have hFc := va_free (wc := []) hD hS hA [] rfl
  have hM := c_X12_in l G l1 (1 : Int32) (30 : Int32) r1 hc2 H.size
  refine cl_i (w1 := []) (ws' := [o12 h x_thrown a_s a_image x_hasImage x_act x_spot x_end x_isWrong x_open a_by a_truths x_turn x_lean x_last x_angle x_asLay x_ticks a_bodies x_ran x_kind x_number x_tellsV, aI G a_s 1394 f_s]) hP hD hS hFc [] rfl rfl rfl (va_runS (As := [.int l1, .int 1, .int 30]) (rest := []) ⟨hx, hb, hml, hown, hts⟩ hM (va_cwS 3 hts gX12_hand_X12_in rfl rfl rfl (by decide +kernel) ⟨Nat.le_of_ble_eq_true rfl, Nat.le_of_ble_eq_true rfl⟩) (cp_S hK hE hS hPc hDc hFc) rfl rfl hl.1 rfl (lv_room (Nat.le_of_ble_eq_true rfl)) dX12_hand_4 ⟨Nat.zero_le _, Nat.zero_le _⟩) (fun H locs hP hD hS => ?_)
  refine lv_if_eq (tgt := 20) hx hb dX12_hand_7 (by decide) (fun c3 => ?_) (fun c3 => ?_)
  · rw [if_pos c3] at hF
    refine lv_bipush (v := (-2)) hx hb dX12_hand_20 (by decide) ?_
    injection hF with hz
    injection hz with hq0 hz
    subst hq0
    subst hz
    exact cm_reti hx hb hr rfl hlk hK hP hD hS dX12_hand_22
  rw [if_neg c3] at hF
  refine lv_iload_n hx hb dX12_hand_10 rfl (lv_at hl 2 rfl) ?_
  refine lv_iconst (v := 0) hx hb dX12_hand_11 (by decide) ?_
  refine lv_bipush (v := 9) hx hb dX12_hand_12 (by decide) ?_
  obtain ⟨r4, hc5, hF⟩ := bd_some hF
  have hPc := hP.sub (ws' := []) [] rfl
  have hDc := hD.sub (ws' := []) [] (by decide) rfl
  have hFc := va_free (wc := []) hD hS hA [] rfl
  have hM := c_X12_in l G l2 (0 : Int32) (9 : Int32) r4 hc5 H.size
  refine cl_i (w1 := []) (ws' := [o12 h x_thrown a_s a_image x_hasImage x_act x_spot x_end x_isWrong x_open a_by a_truths x_turn x_lean x_last x_angle x_asLay x_ticks a_bodies x_ran x_kind x_number x_tellsV, aI G a_s 1394 f_s]) hP hD hS hFc [] rfl rfl rfl (va_runS (As := [.int l2, .int 0, .int 9]) (rest := []) ⟨hx, hb, hml, hown, hts⟩ hM (va_cwS 3 hts gX12_hand_X12_in rfl rfl rfl (by decide +kernel) ⟨Nat.le_of_ble_eq_true rfl, Nat.le_of_ble_eq_true rfl⟩) (cp_S hK hE hS hPc hDc hFc) rfl rfl hl.1 rfl (lv_room (Nat.le_of_ble_eq_true rfl)) dX12_hand_14 ⟨Nat.zero_le _, Nat.zero_le _⟩) (fun H locs hP hD hS => ?_)
  refine lv_if_ne (tgt := 23) hx hb dX12_hand_17 (by decide) (fun c6 => ?_) (fun c6 => ?_)
  · rw [if_neg c6] at hF
    refine lv_aload_n hx hb dX12_hand_23 rfl (lv_at hl 0 rfl) ?_
    refine va_get (D := G.1) (ci := 12) (v := .ref a_s) (C := RX12) (T := TX12) (N := 22) hx hb hts hin12 hown hK hP 0 rfl rfl 1 (by decide) lk_9 (fun _ h9 => h9) rfl dX12_hand_24 ?_
    refine lv_iconst (v := 1) hx hb dX12_hand_27 (by decide) ?_
    refine W.eq (g2 := F0 m 28 ls [.int 1, .ref a_s]) rfl ?_
    refine va_iald (D := G.1) hx hb hK hP 1 0 rfl rfl (by unfold vp_in; decide) dX12_hand_28 ?_
    refine lv_eqi (y := f_s 1) rfl ?_
    refine lv_bipush (v := 6) hx hb dX12_hand_29 (by decide) ?_
    refine lv_icmp_ne (tgt := 37) hx hb dX12_hand_31 (by decide) (fun c7 => ?_) (fun c7 => ?_)
    · rw [if_neg c7] at hF
      refine lv_aload_n hx hb dX12_hand_37 rfl (lv_at hl 0 rfl) ?_
      refine va_get (D := G.1) (ci := 12) (v := .ref a_s) (C := RX12) (T := TX12) (N := 22) hx hb hts hin12 hown hK hP 0 rfl rfl 1 (by decide) lk_9 (fun _ h9 => h9) rfl dX12_hand_38 ?_
      refine lv_sipush (v := 142) hx hb dX12_hand_41 (by decide) ?_
      refine lv_aload_n hx hb dX12_hand_44 rfl (lv_at hl 0 rfl) ?_
      refine va_get (D := G.1) (ci := 12) (v := .ref a_s) (C := RX12) (T := TX12) (N := 22) hx hb hts hin12 hown hK hP 0 rfl rfl 1 (by decide) lk_9 (fun _ h9 => h9) rfl dX12_hand_45 ?_
      refine lv_iconst (v := 1) hx hb dX12_hand_48 (by decide) ?_
      refine va_iald (D := G.1) hx hb hK hP 1 0 rfl rfl (by unfold vp_in; decide) dX12_hand_49 ?_
      refine lv_eqi (y := f_s 1) rfl ?_
      refine lv_iadd hx hb dX12_hand_50 ?_
      refine lv_iload_n hx hb dX12_hand_51 rfl (lv_at hl 1 rfl) ?_
      obtain ⟨hi8, hF⟩ := ck_some hF
      refine va_iast (D := G.1) hx hb hK hP hD hS 1 0 rfl rfl hi8 dX12_hand_52 (fun H locs hP hD hS => ?_)
      have hP : va_P G.1 vwCl [o12 h x_thrown a_s a_image x_hasImage x_act x_spot x_end x_isWrong x_open a_by a_truths x_turn x_lean x_last x_angle x_asLay x_ticks a_bodies x_ran x_kind x_number x_tellsV, aI G a_s 1394 (upd f_s (142 + (f_s 1)).toNatClampNeg l1)] H := hP
      have hD : va_D A [o12 h x_thrown a_s a_image x_hasImage x_act x_spot x_end x_isWrong x_open a_by a_truths x_turn x_lean x_last x_angle x_asLay x_ticks a_bodies x_ran x_kind x_number x_tellsV, aI G a_s 1394 (upd f_s (142 + (f_s 1)).toNatClampNeg l1)] := hD
      refine lv_aload_n hx hb dX12_hand_53 rfl (lv_at hl 0 rfl) ?_
      refine W.eq (g2 := F0 m 54 ls [.ref h]) rfl ?_
      refine va_get (D := G.1) (ci := 12) (v := .ref a_s) (C := RX12) (T := TX12) (N := 22) hx hb hts hin12 hown hK hP 0 rfl rfl 1 (by decide) lk_9 (fun _ h9 => h9) rfl dX12_hand_54 ?_
      refine lv_sipush (v := 148) hx hb dX12_hand_57 (by decide) ?_
      refine lv_aload_n hx hb dX12_hand_60 rfl (lv_at hl 0 rfl) ?_
      refine va_get (D := G.1) (ci := 12) (v := .ref a_s) (C := RX12) (T := TX12) (N := 22) hx hb hts hin12 hown hK hP 0 rfl rfl 1 (by decide) lk_9 (fun _ h9 => h9) rfl dX12_hand_61 ?_
      refine lv_iconst (v := 1) hx hb dX12_hand_64 (by decide) ?_
      refine va_iald (D := G.1) hx hb hK hP 1 0 rfl rfl (by unfold vp_in; decide) dX12_hand_65 ?_
      refine lv_eqi (y := (upd f_s (142 + (f_s 1)).toNatClampNeg l1) 1) rfl ?_
      refine lv_iadd hx hb dX12_hand_66 ?_
      refine lv_iload_n hx hb dX12_hand_67 rfl (lv_at hl 2 rfl) ?_
      obtain ⟨hi9, hF⟩ := ck_some hF
      refine va_iast (D := G.1) hx hb hK hP hD hS 1 0 rfl rfl hi9 dX12_hand_68 (fun H locs hP hD hS => ?_)
      have hP : va_P G.1 vwCl [o12 h x_thrown a_s a_image x_hasImage x_act x_spot x_end x_isWrong x_open a_by a_truths x_turn x_lean x_last x_angle x_asLay x_ticks a_bodies x_ran x_kind x_number x_tellsV, aI G a_s 1394 (upd (upd f_s (142 + (f_s 1)).toNatClampNeg l1) (148 + ((upd f_s (142 + (f_s 1)).toNatClampNeg l1) 1)).toNatClampNeg l2)] H := hP
      have hD : va_D A [o12 h x_thrown a_s a_image x_hasImage x_act x_spot x_end x_isWrong x_open a_by a_truths x_turn x_lean x_last x_angle x_asLay x_ticks a_bodies x_ran x_kind x_number x_tellsV, aI G a_s 1394 (upd (upd f_s (142 + (f_s 1)).toNatClampNeg l1) (148 + ((upd f_s (142 + (f_s 1)).toNatClampNeg l1) 1)).toNatClampNeg l2)] := hD
      refine lv_aload_n hx hb dX12_hand_69 rfl (lv_at hl 0 rfl) ?_
      refine va_get (D := G.1) (ci := 12) (v := .ref a_s) (C := RX12) (T := TX12) (N := 22) hx hb hts hin12 hown hK hP 0 rfl rfl 1 (by decide) lk_9 (fun _ h9 => h9) rfl dX12_hand_70 ?_
      refine lv_iconst (v := 1) hx hb dX12_hand_73 (by decide) ?_
      refine lv_dup2_11 hx hb dX12_hand_74 rfl rfl ?_
      refine va_iald (D := G.1) hx hb hK hP 1 0 rfl rfl (by unfold vp_in; decide) dX12_hand_75 ?_
      refine lv_eqi (y := (upd (upd f_s (142 + (f_s 1)).toNatClampNeg l1) (148 + ((upd f_s (142 + (f_s 1)).toNatClampNeg l1) 1)).toNatClampNeg l2) 1) rfl ?_
      refine W.eq (g2 := F0 m 76 ls [.int ((upd (upd f_s (142 + (f_s 1)).toNatClampNeg l1) (148 + ((upd f_s (142 + (f_s 1)).toNatClampNeg l1) 1)).toNatClampNeg l2) 1), .int 1, .ref a_s]) rfl ?_
      refine lv_iconst (v := 1) hx hb dX12_hand_76 (by decide) ?_
      refine lv_iadd hx hb dX12_hand_77 ?_
      refine va_iast (D := G.1) hx hb hK hP hD hS 1 0 rfl rfl (by unfold vp_in; decide) dX12_hand_78 (fun H locs hP hD hS => ?_)
      have hP : va_P G.1 vwCl [o12 h x_thrown a_s a_image x_hasImage x_act x_spot x_end x_isWrong x_open a_by a_truths x_turn x_lean x_last x_angle x_asLay x_ticks a_bodies x_ran x_kind x_number x_tellsV, aI G a_s 1394 (upd (upd (upd f_s (142 + (f_s 1)).toNatClampNeg l1) (148 + ((upd f_s (142 + (f_s 1)).toNatClampNeg l1) 1)).toNatClampNeg l2) 1 (((upd (upd f_s (142 + (f_s 1)).toNatClampNeg l1) (148 + ((upd f_s (142 + (f_s 1)).toNatClampNeg l1) 1)).toNatClampNeg l2) 1) + 1))] H := hP
      have hD : va_D A [o12 h x_thrown a_s a_image x_hasImage x_act x_spot x_end x_isWrong x_open a_by a_truths x_turn x_lean x_last x_angle x_asLay x_ticks a_bodies x_ran x_kind x_number x_tellsV, aI G a_s 1394 (upd (upd (upd f_s (142 + (f_s 1)).toNatClampNeg l1) (148 + ((upd f_s (142 + (f_s 1)).toNatClampNeg l1) 1)).toNatClampNeg l2) 1 (((upd (upd f_s (142 + (f_s 1)).toNatClampNeg l1) (148 + ((upd f_s (142 + (f_s 1)).toNatClampNeg l1) 1)).toNatClampNeg l2) 1) + 1))] := hD
      refine lv_aload_n hx hb dX12_hand_79 rfl (lv_at hl 0 rfl) ?_
      refine va_get (D := G.1) (ci := 12) (v := .ref a_s) (C := RX12) (T := TX12) (N := 22) hx hb hts hin12 hown hK hP 0 rfl rfl 1 (by decide) lk_9 (fun _ h9 => h9) rfl dX12_hand_80 ?_
      refine lv_iconst (v := 1) hx hb dX12_hand_83 (by decide) ?_
      refine va_iald (D := G.1) hx hb hK hP 1 0 rfl rfl (by unfold vp_in; decide) dX12_hand_84 ?_
      refine lv_eqi (y := (upd (upd (upd f_s (142 + (f_s 1)).toNatClampNeg l1) (148 + ((upd f_s (142 + (f_s 1)).toNatClampNeg l1) 1)).toNatClampNeg l2) 1 (((upd (upd f_s (142 + (f_s 1)).toNatClampNeg l1) (148 + ((upd f_s (142 + (f_s 1)).toNatClampNeg l1) 1)).toNatClampNeg l2) 1) + 1)) 1) rfl ?_
      refine lv_iconst (v := 1) hx hb dX12_hand_85 (by decide) ?_
      refine lv_isub hx hb dX12_hand_86 ?_
      injection hF with hz
      injection hz with hq0 hz
      subst hq0
      subst hz
      exact cm_reti hx hb hr rfl hlk hK hP hD hS dX12_hand_87
    rw [if_pos c7] at hF
    refine lv_bipush (v := (-4)) hx hb dX12_hand_34 (by decide) ?_
    injection hF with hz
    injection hz with hq0 hz
    subst hq0
    subst hz
    exact cm_reti hx hb hr rfl hlk hK hP hD hS dX12_hand_36
  rw [if_pos c6] at hF
  refine lv_bipush (v := (-2)) hx hb dX12_hand_20 (by decide) ?_
  injection hF with hz
  injection hz with hq0 hz
  subst hq0
  subst hz
  exact cm_reti hx hb hr rfl hlk hK hP hD hS dX12_hand_22

/-! HeadsByHairModel.allOf(II)I -/
abbrev rm_X12_allOf : Room := { frames := 0, cells := 0, slots := 0, locals := 0 }
set_option maxHeartbeats 4000000 in
set_option maxRecDepth 100000 in
theorem c_X12_allOf (l : Launch) (G : GG) (h a_s a_image a_by a_truths a_bodies : Nat) (x_thrown x_hasImage x_act x_spot x_end x_isWrong x_open x_turn x_lean x_last x_angle x_asLay x_ticks x_ran x_kind x_number x_tellsV : Int32) (f_s : Nat → Int32) (l1 : Int32) (l2 : Int32) (z : Int32) (hF : fX12_allOf f_s l1 l2 = some (z)) : CMi l yX12_allOf wsX12_allOf rm_X12_allOf G [o12 h x_thrown a_s a_image x_hasImage x_act x_spot x_end x_isWrong x_open a_by a_truths x_turn x_lean x_last x_angle x_asLay x_ticks a_bodies x_ran x_kind x_number x_tellsV, aI G a_s 1394 f_s] [o12 h x_thrown a_s a_image x_hasImage x_act x_spot x_end x_isWrong x_open a_by a_truths x_turn x_lean x_last x_angle x_asLay x_ticks a_bodies x_ran x_kind x_number x_tellsV, aI G a_s 1394 f_s] [.ref h, .int l1, .int l2] z := by
  refine cm_start (cc := cX12_allOf) (maxL := 5) (ret := (some .int)) (Qc := fun A => QI G [o12 h x_thrown a_s a_image x_hasImage x_act x_spot x_end x_isWrong x_open a_by a_truths x_turn x_lean x_last x_angle x_asLay x_ticks a_bodies x_ran x_kind x_number x_tellsV, aI G a_s 1394 f_s] z A) (by decide +kernel) rfl (Nat.le_of_ble_eq_true rfl) ?_
  intro p e s m args below meth c A hx hb hr hlk hml hown hnm hts hA H locs hP hK hD hE hS ls hl
  have hown : s.vm.findClass RX12 = some m.cls := hown
  have hl : lv_has ls 5 [(0, .ref h), (1, .int l1), (2, .int l2)] := hl
  have hin12 : ∀ w ∈ wsX120, w ∈ wsX12_allOf := by decide +kernel
  have lk_9 := hts (.fieldLink RX12 9 "HeadsByHairModel" "s" "[I") (by decide +kernel)
  revert hF
  have LP5 : ∀ (l1 : Int32) (l2 : Int32) (n : Nat) (l3 : Int32) (l4 : Int32) (H : Heap) (locs : List Loc) (ls : Array Slot), va_P G.1 vwCl [o12 h x_thrown a_s a_image x_hasImage x_act x_spot x_end x_isWrong x_open a_by a_truths x_turn x_lean x_last x_angle x_asLay x_ticks a_bodies x_ran x_kind x_number x_tellsV, aI G a_s 1394 f_s] H → va_D A [o12 h x_thrown a_s a_image x_hasImage x_act x_spot x_end x_isWrong x_open a_by a_truths x_turn x_lean x_last x_angle x_asLay x_ticks a_bodies x_ran x_kind x_number x_tellsV, aI G a_s 1394 f_s] → va_S A s.heap H locs → lv_has ls 5 [(0, .ref h), (1, .int l1), (2, .int l2), (3, .int l3), (4, .int l4)] → fX12_allOf_L5 f_s l1 l2 n l3 l4 = some (z) → W p l e (rm_X12_allOf) s m args below meth c H locs 0 0 (MQ below (QI G [o12 h x_thrown a_s a_image x_hasImage x_act x_spot x_end x_isWrong x_open a_by a_truths x_turn x_lean x_last x_angle x_asLay x_ticks a_bodies x_ran x_kind x_number x_tellsV, aI G a_s 1394 f_s] z A) args s 0 0 A) (F0 m 5 ls []) := by
    intro l1 l2 n
    induction n with
    | zero =>
      intro l3 l4 H locs ls hP hD hS hl hF
      cases hF
    | succ n ih =>
      intro l3 l4 H locs ls hP hD hS hl hF
      rw [fX12_allOf_L5] at hF
      refine lv_iload hx hb dX12_allOf_5 (lv_at hl 4 rfl) ?_
      refine lv_bipush (v := 6) hx hb dX12_allOf_7 (by decide) ?_
      refine lv_icmp_ge (tgt := 35) hx hb dX12_allOf_9 (by decide) (fun c1 => ?_) (fun c1 => ?_)
      · rw [if_pos c1] at hF
        refine lv_iload_n hx hb dX12_allOf_35 rfl (lv_at hl 3 rfl) ?_
        injection hF with hz
        subst hz
        exact cm_reti hx hb hr rfl hlk hK hP hD hS dX12_allOf_36
      rw [if_neg c1] at hF
      refine lv_iload_n hx hb dX12_allOf_12 rfl (lv_at hl 3 rfl) ?_
      refine lv_aload_n hx hb dX12_allOf_13 rfl (lv_at hl 0 rfl) ?_
      refine va_get (D := G.1) (ci := 12) (v := .ref a_s) (C := RX12) (T := TX12) (N := 22) hx hb hts hin12 hown hK hP 0 rfl rfl 1 (by decide) lk_9 (fun _ h9 => h9) rfl dX12_allOf_14 ?_
      refine lv_iload_n hx hb dX12_allOf_17 rfl (lv_at hl 1 rfl) ?_
      refine lv_bipush (v := 6) hx hb dX12_allOf_18 (by decide) ?_
      refine lv_iload_n hx hb dX12_allOf_20 rfl (lv_at hl 2 rfl) ?_
      refine lv_imul hx hb dX12_allOf_21 ?_
      refine lv_iadd hx hb dX12_allOf_22 ?_
      refine lv_iload hx hb dX12_allOf_23 (lv_at hl 4 rfl) ?_
      refine lv_iadd hx hb dX12_allOf_25 ?_
      refine W.eq (g2 := F0 m 26 ls [.int ((l1 + (6 * l2)) + l4), .ref a_s, .int l3]) rfl ?_
      obtain ⟨hi2, hF⟩ := ck_some hF
      refine va_iald (D := G.1) hx hb hK hP 1 0 rfl rfl hi2 dX12_allOf_26 ?_
      refine lv_iadd hx hb dX12_allOf_27 ?_
      refine lv_istore_n (lv' := [(3, .int (l3 + (f_s ((l1 + (6 * l2)) + l4).toNatClampNeg))), (0, .ref h), (1, .int l1), (2, .int l2), (4, .int l4)]) hx hb dX12_allOf_28 rfl hl (by decide) rfl (fun ls hl => ?_)
      refine lv_iinc (v := l4 + 1) (lv' := [(4, .int (l4 + 1)), (3, .int (l3 + (f_s ((l1 + (6 * l2)) + l4).toNatClampNeg))), (0, .ref h), (1, .int l1), (2, .int l2)]) hx hb dX12_allOf_29 hl (k := 4) rfl rfl (by decide) rfl (fun ls hl => ?_)
      refine lv_goto (tgt := 5) hx hb dX12_allOf_32 (by decide) ?_
      exact ih _ _ H locs ls hP hD hS (lv_sub hl [2, 3, 4, 1, 0] rfl) hF
  intro hF
  unfold fX12_allOf at hF
  refine lv_iconst (v := 0) hx hb dX12_allOf_0 (by decide) ?_
  refine lv_istore_n (lv' := [(3, .int 0), (0, .ref h), (1, .int l1), (2, .int l2)]) hx hb dX12_allOf_1 rfl hl (by decide) rfl (fun ls hl => ?_)
  refine lv_iconst (v := 0) hx hb dX12_allOf_2 (by decide) ?_
  refine lv_istore (lv' := [(4, .int 0), (3, .int 0), (0, .ref h), (1, .int l1), (2, .int l2)]) hx hb dX12_allOf_3 hl (by decide) rfl (fun ls hl => ?_)
  refine LP5 _ _ _ _ _ H locs ls hP hD hS (lv_sub hl [2, 3, 4, 1, 0] rfl) hF

/-! HeadsByHairModel.leansOf(I)I -/
abbrev rm_X12_leansOf : Room := { frames := 1, cells := 0, slots := 0, locals := 24 }
set_option maxHeartbeats 4000000 in
set_option maxRecDepth 100000 in
theorem c_X12_leansOf (l : Launch) (G : GG) (h a_s a_image a_by a_truths a_bodies : Nat) (x_thrown x_hasImage x_act x_spot x_end x_isWrong x_open x_turn x_lean x_last x_angle x_asLay x_ticks x_ran x_kind x_number x_tellsV : Int32) (f_s : Nat → Int32) (l1 : Int32) (z : Int32) (hF : fX12_leansOf f_s l1 = some (z)) : CMi l yX12_leansOf wsX12_leansOf rm_X12_leansOf G [o12 h x_thrown a_s a_image x_hasImage x_act x_spot x_end x_isWrong x_open a_by a_truths x_turn x_lean x_last x_angle x_asLay x_ticks a_bodies x_ran x_kind x_number x_tellsV, aI G a_s 1394 f_s] [o12 h x_thrown a_s a_image x_hasImage x_act x_spot x_end x_isWrong x_open a_by a_truths x_turn x_lean x_last x_angle x_asLay x_ticks a_bodies x_ran x_kind x_number x_tellsV, aI G a_s 1394 f_s] [.ref h, .int l1] z := by
  refine cm_start (cc := cX12_leansOf) (maxL := 3) (ret := (some .int)) (Qc := fun A => QI G [o12 h x_thrown a_s a_image x_hasImage x_act x_spot x_end x_isWrong x_open a_by a_truths x_turn x_lean x_last x_angle x_asLay x_ticks a_bodies x_ran x_kind x_number x_tellsV, aI G a_s 1394 f_s] z A) (by decide +kernel) rfl (Nat.le_of_ble_eq_true rfl) ?_
  intro p e s m args below meth c A hx hb hr hlk hml hown hnm hts hA H locs hP hK hD hE hS ls hl
  have hown : s.vm.findClass RX12 = some m.cls := hown
  have hl : lv_has ls 3 [(0, .ref h), (1, .int l1)] := hl
  revert hF
  intro hF
  unfold fX12_leansOf at hF
  refine lv_aload_n hx hb dX12_leansOf_0 rfl (lv_at hl 0 rfl) ?_
  refine lv_sipush (v := 154) hx hb dX12_leansOf_1 (by decide) ?_
  refine lv_iload_n hx hb dX12_leansOf_4 rfl (lv_at hl 1 rfl) ?_
  obtain ⟨r1, hc2, hF⟩ := bd_some hF
  have hPc := hP.sub (ws' := [o12 h x_thrown a_s a_image x_hasImage x_act x_spot x_end x_isWrong x_open a_by a_truths x_turn x_lean x_last x_angle x_asLay x_ticks a_bodies x_ran x_kind x_number x_tellsV, aI G a_s 1394 f_s]) [0, 1] rfl
  have hDc := hD.sub (ws' := [o12 h x_thrown a_s a_image x_hasImage x_act x_spot x_end x_isWrong x_open a_by a_truths x_turn x_lean x_last x_angle x_asLay x_ticks a_bodies x_ran x_kind x_number x_tellsV, aI G a_s 1394 f_s]) [0, 1] (by decide) rfl
  have hFc := va_free (wc := [o12 h x_thrown a_s a_image x_hasImage x_act x_spot x_end x_isWrong x_open a_by a_truths x_turn x_lean x_last x_angle x_asLay x_ticks a_bodies x_ran x_kind x_number x_tellsV, aI G a_s 1394 f_s]) hD hS hA [0, 1] rfl
  have hM := c_X12_allOf l G h a_s a_image a_by a_truths a_bodies x_thrown x_hasImage x_act x_spot x_end x_isWrong x_open x_turn x_lean x_last x_angle x_asLay x_ticks x_ran x_kind x_number x_tellsV f_s (154 : Int32) l1 r1 hc2 H.size
  refine cl_i (w1 := [o12 h x_thrown a_s a_image x_hasImage x_act x_spot x_end x_isWrong x_open a_by a_truths x_turn x_lean x_last x_angle x_asLay x_ticks a_bodies x_ran x_kind x_number x_tellsV, aI G a_s 1394 f_s]) (ws' := [o12 h x_thrown a_s a_image x_hasImage x_act x_spot x_end x_isWrong x_open a_by a_truths x_turn x_lean x_last x_angle x_asLay x_ticks a_bodies x_ran x_kind x_number x_tellsV, aI G a_s 1394 f_s]) hP hD hS hFc [0, 1] rfl rfl rfl (va_runV (As := [.int 154, .int l1]) (rest := []) ⟨hx, hb, hml, hown, hts⟩ hM (cwV 2 hts gX12_leansOf_X12_allOf rfl rfl rfl (by decide +kernel) ⟨Nat.le_of_ble_eq_true rfl, Nat.le_of_ble_eq_true rfl⟩) (cp_V hK hE hS hPc hDc hFc (va_recv hK hPc (ci := 12) (q0 := 0) rfl rfl)) rfl rfl hl.1 rfl (lv_room (Nat.le_of_ble_eq_true rfl)) dX12_leansOf_5 ⟨Nat.zero_le _, Nat.zero_le _⟩) (fun H locs hP hD hS => ?_)
  refine lv_istore_n (lv' := [(2, .int r1), (0, .ref h), (1, .int l1)]) hx hb dX12_leansOf_8 rfl hl (by decide) rfl (fun ls hl => ?_)
  refine lv_iload_n hx hb dX12_leansOf_9 rfl (lv_at hl 0 rfl) ?_
  refine lv_if_ne (tgt := 18) hx hb dX12_leansOf_10 (by decide) (fun c3 => ?_) (fun c3 => ?_)
  · rw [if_neg c3] at hF
    refine lv_sipush (v := 1000) hx hb dX12_leansOf_18 (by decide) ?_
    refine lv_aload_n hx hb dX12_leansOf_21 rfl (lv_at hl 1 rfl) ?_
    refine lv_sipush (v := 190) hx hb dX12_leansOf_22 (by decide) ?_
    refine lv_iload_n hx hb dX12_leansOf_25 rfl (lv_at hl 2 rfl) ?_
    obtain ⟨r4, hc5, hF⟩ := bd_some hF
    have hPc := hP.sub (ws' := [o12 h x_thrown a_s a_image x_hasImage x_act x_spot x_end x_isWrong x_open a_by a_truths x_turn x_lean x_last x_angle x_asLay x_ticks a_bodies x_ran x_kind x_number x_tellsV, aI G a_s 1394 f_s]) [0, 1] rfl
    have hDc := hD.sub (ws' := [o12 h x_thrown a_s a_image x_hasImage x_act x_spot x_end x_isWrong x_open a_by a_truths x_turn x_lean x_last x_angle x_asLay x_ticks a_bodies x_ran x_kind x_number x_tellsV, aI G a_s 1394 f_s]) [0, 1] (by decide) rfl
    have hFc := va_free (wc := [o12 h x_thrown a_s a_image x_hasImage x_act x_spot x_end x_isWrong x_open a_by a_truths x_turn x_lean x_last x_angle x_asLay x_ticks a_bodies x_ran x_kind x_number x_tellsV, aI G a_s 1394 f_s]) hD hS hA [0, 1] rfl
    have hM := c_X12_allOf l G h a_s a_image a_by a_truths a_bodies x_thrown x_hasImage x_act x_spot x_end x_isWrong x_open x_turn x_lean x_last x_angle x_asLay x_ticks x_ran x_kind x_number x_tellsV f_s (190 : Int32) l1 r4 hc5 H.size
    refine cl_i (w1 := [o12 h x_thrown a_s a_image x_hasImage x_act x_spot x_end x_isWrong x_open a_by a_truths x_turn x_lean x_last x_angle x_asLay x_ticks a_bodies x_ran x_kind x_number x_tellsV, aI G a_s 1394 f_s]) (ws' := [o12 h x_thrown a_s a_image x_hasImage x_act x_spot x_end x_isWrong x_open a_by a_truths x_turn x_lean x_last x_angle x_asLay x_ticks a_bodies x_ran x_kind x_number x_tellsV, aI G a_s 1394 f_s]) hP hD hS hFc [0, 1] rfl rfl rfl (va_runV (As := [.int 190, .int l1]) (rest := [.int 1000]) ⟨hx, hb, hml, hown, hts⟩ hM (cwV 2 hts gX12_leansOf_X12_allOf rfl rfl rfl (by decide +kernel) ⟨Nat.le_of_ble_eq_true rfl, Nat.le_of_ble_eq_true rfl⟩) (cp_V hK hE hS hPc hDc hFc (va_recv hK hPc (ci := 12) (q0 := 0) rfl rfl)) rfl rfl hl.1 rfl (lv_room (Nat.le_of_ble_eq_true rfl)) dX12_leansOf_26 ⟨Nat.zero_le _, Nat.zero_le _⟩) (fun H locs hP hD hS => ?_)
    refine lv_imul hx hb dX12_leansOf_29 ?_
    refine W.eq (g2 := F0 m 30 ls [.int (1000 * r4)]) rfl ?_
    refine lv_iload_n hx hb dX12_leansOf_30 rfl (lv_at hl 0 rfl) ?_
    obtain ⟨hz6, hF⟩ := ck_some hF
    refine lv_idiv hx hb dX12_leansOf_31 hz6 ?_
    injection hF with hz
    subst hz
    exact cm_reti hx hb hr rfl hlk hK hP hD hS dX12_leansOf_32
  rw [if_pos c3] at hF
  refine lv_bipush (v := (-5)) hx hb dX12_leansOf_13 (by decide) ?_
  refine lv_goto (tgt := 32) hx hb dX12_leansOf_15 (by decide) ?_
  injection hF with hz
  subst hz
  exact cm_reti hx hb hr rfl hlk hK hP hD hS dX12_leansOf_32

/-! HeadsByHairModel.of(II)I -/
abbrev rm_X12_of : Room := { frames := 2, cells := 0, slots := 0, locals := 46 }
set_option maxHeartbeats 4000000 in
set_option maxRecDepth 100000 in
theorem c_X12_of (l : Launch) (G : GG) (h a_s a_image a_by a_truths a_bodies : Nat) (x_thrown x_hasImage x_act x_spot x_end x_isWrong x_open x_turn x_lean x_last x_angle x_asLay x_ticks x_ran x_kind x_number x_tellsV : Int32) (f_s : Nat → Int32) (l1 : Int32) (l2 : Int32) (z : Int32) (hF : fX12_of f_s l1 l2 = some (z)) : CMi l yX12_of wsX12_of rm_X12_of G [o12 h x_thrown a_s a_image x_hasImage x_act x_spot x_end x_isWrong x_open a_by a_truths x_turn x_lean x_last x_angle x_asLay x_ticks a_bodies x_ran x_kind x_number x_tellsV, aI G a_s 1394 f_s] [o12 h x_thrown a_s a_image x_hasImage x_act x_spot x_end x_isWrong x_open a_by a_truths x_turn x_lean x_last x_angle x_asLay x_ticks a_bodies x_ran x_kind x_number x_tellsV, aI G a_s 1394 f_s] [.ref h, .int l1, .int l2] z := by
  refine cm_start (cc := cX12_of) (maxL := 3) (ret := (some .int)) (Qc := fun A => QI G [o12 h x_thrown a_s a_image x_hasImage x_act x_spot x_end x_isWrong x_open a_by a_truths x_turn x_lean x_last x_angle x_asLay x_ticks a_bodies x_ran x_kind x_number x_tellsV, aI G a_s 1394 f_s] z A) (by decide +kernel) rfl (Nat.le_of_ble_eq_true rfl) ?_
  intro p e s m args below meth c A hx hb hr hlk hml hown hnm hts hA H locs hP hK hD hE hS ls hl
  have hown : s.vm.findClass RX12 = some m.cls := hown
  have hl : lv_has ls 3 [(0, .ref h), (1, .int l1), (2, .int l2)] := hl
  have hin12 : ∀ w ∈ wsX120, w ∈ wsX12_of := by decide +kernel
  have lk_9 := hts (.fieldLink RX12 9 "HeadsByHairModel" "s" "[I") (by decide +kernel)
  revert hF
  intro hF
  unfold fX12_of at hF
  refine lv_aload_n hx hb dX12_of_0 rfl (lv_at hl 0 rfl) ?_
  refine lv_iload_n hx hb dX12_of_1 rfl (lv_at hl 1 rfl) ?_
  obtain ⟨r1, hc2, hF⟩ := bd_some hF
  have hPc := hP.sub (ws' := [o12 h x_thrown a_s a_image x_hasImage x_act x_spot x_end x_isWrong x_open a_by a_truths x_turn x_lean x_last x_angle x_asLay x_ticks a_bodies x_ran x_kind x_number x_tellsV, aI G a_s 1394 f_s]) [0, 1] rfl
  have hDc := hD.sub (ws' := [o12 h x_thrown a_s a_image x_hasImage x_act x_spot x_end x_isWrong x_open a_by a_truths x_turn x_lean x_last x_angle x_asLay x_ticks a_bodies x_ran x_kind x_number x_tellsV, aI G a_s 1394 f_s]) [0, 1] (by decide) rfl
  have hFc := va_free (wc := [o12 h x_thrown a_s a_image x_hasImage x_act x_spot x_end x_isWrong x_open a_by a_truths x_turn x_lean x_last x_angle x_asLay x_ticks a_bodies x_ran x_kind x_number x_tellsV, aI G a_s 1394 f_s]) hD hS hA [0, 1] rfl
  have hM := c_X12_isHand l G h a_s a_image a_by a_truths a_bodies x_thrown x_hasImage x_act x_spot x_end x_isWrong x_open x_turn x_lean x_last x_angle x_asLay x_ticks x_ran x_kind x_number x_tellsV f_s l1 r1 hc2 H.size
  refine cl_i (w1 := [o12 h x_thrown a_s a_image x_hasImage x_act x_spot x_end x_isWrong x_open a_by a_truths x_turn x_lean x_last x_angle x_asLay x_ticks a_bodies x_ran x_kind x_number x_tellsV, aI G a_s 1394 f_s]) (ws' := [o12 h x_thrown a_s a_image x_hasImage x_act x_spot x_end x_isWrong x_open a_by a_truths x_turn x_lean x_last x_angle x_asLay x_ticks a_bodies x_ran x_kind x_number x_tellsV, aI G a_s 1394 f_s]) hP hD hS hFc [0, 1] rfl rfl rfl (va_runV (As := [.int l1]) (rest := []) ⟨hx, hb, hml, hown, hts⟩ hM (cwV 1 hts gX12_of_X12_isHand rfl rfl rfl (by decide +kernel) ⟨Nat.le_of_ble_eq_true rfl, Nat.le_of_ble_eq_true rfl⟩) (cp_V hK hE hS hPc hDc hFc (va_recv hK hPc (ci := 12) (q0 := 0) rfl rfl)) rfl rfl hl.1 rfl (lv_room (Nat.le_of_ble_eq_true rfl)) dX12_of_2 ⟨Nat.zero_le _, Nat.zero_le _⟩) (fun H locs hP hD hS => ?_)
  refine lv_if_ne (tgt := 10) hx hb dX12_of_5 (by decide) (fun c3 => ?_) (fun c3 => ?_)
  · rw [if_neg c3] at hF
    refine lv_iload_n hx hb dX12_of_10 rfl (lv_at hl 2 rfl) ?_
    by_cases c4 : l2 = 0
    · rw [if_pos c4] at hF
      refine lv_eqi c4 ?_
      refine lv_tableIn (tgt := 44) (off := 33) hx hb dX12_of_11 (by decide) (by decide) (by decide) (by decide) ?_
      refine lv_aload_n hx hb dX12_of_44 rfl (lv_at hl 0 rfl) ?_
      refine va_get (D := G.1) (ci := 12) (v := .ref a_s) (C := RX12) (T := TX12) (N := 22) hx hb hts hin12 hown hK hP 0 rfl rfl 1 (by decide) lk_9 (fun _ h9 => h9) rfl dX12_of_45 ?_
      refine lv_sipush (v := 142) hx hb dX12_of_48 (by decide) ?_
      refine lv_iload_n hx hb dX12_of_51 rfl (lv_at hl 1 rfl) ?_
      refine lv_iadd hx hb dX12_of_52 ?_
      obtain ⟨hi5, hF⟩ := ck_some hF
      refine va_iald (D := G.1) hx hb hK hP 1 0 rfl rfl hi5 dX12_of_53 ?_
      injection hF with hz
      subst hz
      exact cm_reti hx hb hr rfl hlk hK hP hD hS dX12_of_54
    rw [if_neg c4] at hF
    by_cases c6 : l2 = 1
    · rw [if_pos c6] at hF
      refine lv_eqi c6 ?_
      refine lv_tableIn (tgt := 55) (off := 44) hx hb dX12_of_11 (by decide) (by decide) (by decide) (by decide) ?_
      refine lv_aload_n hx hb dX12_of_55 rfl (lv_at hl 0 rfl) ?_
      refine va_get (D := G.1) (ci := 12) (v := .ref a_s) (C := RX12) (T := TX12) (N := 22) hx hb hts hin12 hown hK hP 0 rfl rfl 1 (by decide) lk_9 (fun _ h9 => h9) rfl dX12_of_56 ?_
      refine lv_sipush (v := 148) hx hb dX12_of_59 (by decide) ?_
      refine lv_iload_n hx hb dX12_of_62 rfl (lv_at hl 1 rfl) ?_
      refine lv_iadd hx hb dX12_of_63 ?_
      obtain ⟨hi7, hF⟩ := ck_some hF
      refine va_iald (D := G.1) hx hb hK hP 1 0 rfl rfl hi7 dX12_of_64 ?_
      injection hF with hz
      subst hz
      exact cm_reti hx hb hr rfl hlk hK hP hD hS dX12_of_65
    rw [if_neg c6] at hF
    by_cases c8 : l2 = 2
    · rw [if_pos c8] at hF
      refine lv_eqi c8 ?_
      refine lv_tableIn (tgt := 66) (off := 55) hx hb dX12_of_11 (by decide) (by decide) (by decide) (by decide) ?_
      refine lv_aload_n hx hb dX12_of_66 rfl (lv_at hl 0 rfl) ?_
      refine lv_iload_n hx hb dX12_of_67 rfl (lv_at hl 1 rfl) ?_
      obtain ⟨r9, hc10, hF⟩ := bd_some hF
      have hPc := hP.sub (ws' := [o12 h x_thrown a_s a_image x_hasImage x_act x_spot x_end x_isWrong x_open a_by a_truths x_turn x_lean x_last x_angle x_asLay x_ticks a_bodies x_ran x_kind x_number x_tellsV, aI G a_s 1394 f_s]) [0, 1] rfl
      have hDc := hD.sub (ws' := [o12 h x_thrown a_s a_image x_hasImage x_act x_spot x_end x_isWrong x_open a_by a_truths x_turn x_lean x_last x_angle x_asLay x_ticks a_bodies x_ran x_kind x_number x_tellsV, aI G a_s 1394 f_s]) [0, 1] (by decide) rfl
      have hFc := va_free (wc := [o12 h x_thrown a_s a_image x_hasImage x_act x_spot x_end x_isWrong x_open a_by a_truths x_turn x_lean x_last x_angle x_asLay x_ticks a_bodies x_ran x_kind x_number x_tellsV, aI G a_s 1394 f_s]) hD hS hA [0, 1] rfl
      have hM := c_X12_leansOf l G h a_s a_image a_by a_truths a_bodies x_thrown x_hasImage x_act x_spot x_end x_isWrong x_open x_turn x_lean x_last x_angle x_asLay x_ticks x_ran x_kind x_number x_tellsV f_s l1 r9 hc10 H.size
      refine cl_i (w1 := [o12 h x_thrown a_s a_image x_hasImage x_act x_spot x_end x_isWrong x_open a_by a_truths x_turn x_lean x_last x_angle x_asLay x_ticks a_bodies x_ran x_kind x_number x_tellsV, aI G a_s 1394 f_s]) (ws' := [o12 h x_thrown a_s a_image x_hasImage x_act x_spot x_end x_isWrong x_open a_by a_truths x_turn x_lean x_last x_angle x_asLay x_ticks a_bodies x_ran x_kind x_number x_tellsV, aI G a_s 1394 f_s]) hP hD hS hFc [0, 1] rfl rfl rfl (va_runV (As := [.int l1]) (rest := []) ⟨hx, hb, hml, hown, hts⟩ hM (cwV 1 hts gX12_of_X12_leansOf rfl rfl rfl (by decide +kernel) ⟨Nat.le_of_ble_eq_true rfl, Nat.le_of_ble_eq_true rfl⟩) (cp_V hK hE hS hPc hDc hFc (va_recv hK hPc (ci := 12) (q0 := 0) rfl rfl)) rfl rfl hl.1 rfl (lv_room (Nat.le_of_ble_eq_true rfl)) dX12_of_68 ⟨Nat.zero_le _, Nat.zero_le _⟩) (fun H locs hP hD hS => ?_)
      injection hF with hz
      subst hz
      exact cm_reti hx hb hr rfl hlk hK hP hD hS dX12_of_71
    rw [if_neg c8] at hF
    by_cases c11 : l2 = 3
    · rw [if_pos c11] at hF
      refine lv_eqi c11 ?_
      refine lv_tableIn (tgt := 72) (off := 61) hx hb dX12_of_11 (by decide) (by decide) (by decide) (by decide) ?_
      refine lv_aload_n hx hb dX12_of_72 rfl (lv_at hl 0 rfl) ?_
      refine lv_sipush (v := 154) hx hb dX12_of_73 (by decide) ?_
      refine lv_iload_n hx hb dX12_of_76 rfl (lv_at hl 1 rfl) ?_
      obtain ⟨r12, hc13, hF⟩ := bd_some hF
      have hPc := hP.sub (ws' := [o12 h x_thrown a_s a_image x_hasImage x_act x_spot x_end x_isWrong x_open a_by a_truths x_turn x_lean x_last x_angle x_asLay x_ticks a_bodies x_ran x_kind x_number x_tellsV, aI G a_s 1394 f_s]) [0, 1] rfl
      have hDc := hD.sub (ws' := [o12 h x_thrown a_s a_image x_hasImage x_act x_spot x_end x_isWrong x_open a_by a_truths x_turn x_lean x_last x_angle x_asLay x_ticks a_bodies x_ran x_kind x_number x_tellsV, aI G a_s 1394 f_s]) [0, 1] (by decide) rfl
      have hFc := va_free (wc := [o12 h x_thrown a_s a_image x_hasImage x_act x_spot x_end x_isWrong x_open a_by a_truths x_turn x_lean x_last x_angle x_asLay x_ticks a_bodies x_ran x_kind x_number x_tellsV, aI G a_s 1394 f_s]) hD hS hA [0, 1] rfl
      have hM := c_X12_allOf l G h a_s a_image a_by a_truths a_bodies x_thrown x_hasImage x_act x_spot x_end x_isWrong x_open x_turn x_lean x_last x_angle x_asLay x_ticks x_ran x_kind x_number x_tellsV f_s (154 : Int32) l1 r12 hc13 H.size
      refine cl_i (w1 := [o12 h x_thrown a_s a_image x_hasImage x_act x_spot x_end x_isWrong x_open a_by a_truths x_turn x_lean x_last x_angle x_asLay x_ticks a_bodies x_ran x_kind x_number x_tellsV, aI G a_s 1394 f_s]) (ws' := [o12 h x_thrown a_s a_image x_hasImage x_act x_spot x_end x_isWrong x_open a_by a_truths x_turn x_lean x_last x_angle x_asLay x_ticks a_bodies x_ran x_kind x_number x_tellsV, aI G a_s 1394 f_s]) hP hD hS hFc [0, 1] rfl rfl rfl (va_runV (As := [.int 154, .int l1]) (rest := []) ⟨hx, hb, hml, hown, hts⟩ hM (cwV 2 hts gX12_of_X12_allOf rfl rfl rfl (by decide +kernel) ⟨Nat.le_of_ble_eq_true rfl, Nat.le_of_ble_eq_true rfl⟩) (cp_V hK hE hS hPc hDc hFc (va_recv hK hPc (ci := 12) (q0 := 0) rfl rfl)) rfl rfl hl.1 rfl (lv_room (Nat.le_of_ble_eq_true rfl)) dX12_of_77 ⟨Nat.zero_le _, Nat.zero_le _⟩) (fun H locs hP hD hS => ?_)
      injection hF with hz
      subst hz
      exact cm_reti hx hb hr rfl hlk hK hP hD hS dX12_of_80
    rw [if_neg c11] at hF
    by_cases c14 : l2 = 4
    · rw [if_pos c14] at hF
      refine lv_eqi c14 ?_
      refine lv_tableIn (tgt := 81) (off := 70) hx hb dX12_of_11 (by decide) (by decide) (by decide) (by decide) ?_
      refine lv_aload_n hx hb dX12_of_81 rfl (lv_at hl 0 rfl) ?_
      refine lv_sipush (v := 190) hx hb dX12_of_82 (by decide) ?_
      refine lv_iload_n hx hb dX12_of_85 rfl (lv_at hl 1 rfl) ?_
      obtain ⟨r15, hc16, hF⟩ := bd_some hF
      have hPc := hP.sub (ws' := [o12 h x_thrown a_s a_image x_hasImage x_act x_spot x_end x_isWrong x_open a_by a_truths x_turn x_lean x_last x_angle x_asLay x_ticks a_bodies x_ran x_kind x_number x_tellsV, aI G a_s 1394 f_s]) [0, 1] rfl
      have hDc := hD.sub (ws' := [o12 h x_thrown a_s a_image x_hasImage x_act x_spot x_end x_isWrong x_open a_by a_truths x_turn x_lean x_last x_angle x_asLay x_ticks a_bodies x_ran x_kind x_number x_tellsV, aI G a_s 1394 f_s]) [0, 1] (by decide) rfl
      have hFc := va_free (wc := [o12 h x_thrown a_s a_image x_hasImage x_act x_spot x_end x_isWrong x_open a_by a_truths x_turn x_lean x_last x_angle x_asLay x_ticks a_bodies x_ran x_kind x_number x_tellsV, aI G a_s 1394 f_s]) hD hS hA [0, 1] rfl
      have hM := c_X12_allOf l G h a_s a_image a_by a_truths a_bodies x_thrown x_hasImage x_act x_spot x_end x_isWrong x_open x_turn x_lean x_last x_angle x_asLay x_ticks x_ran x_kind x_number x_tellsV f_s (190 : Int32) l1 r15 hc16 H.size
      refine cl_i (w1 := [o12 h x_thrown a_s a_image x_hasImage x_act x_spot x_end x_isWrong x_open a_by a_truths x_turn x_lean x_last x_angle x_asLay x_ticks a_bodies x_ran x_kind x_number x_tellsV, aI G a_s 1394 f_s]) (ws' := [o12 h x_thrown a_s a_image x_hasImage x_act x_spot x_end x_isWrong x_open a_by a_truths x_turn x_lean x_last x_angle x_asLay x_ticks a_bodies x_ran x_kind x_number x_tellsV, aI G a_s 1394 f_s]) hP hD hS hFc [0, 1] rfl rfl rfl (va_runV (As := [.int 190, .int l1]) (rest := []) ⟨hx, hb, hml, hown, hts⟩ hM (cwV 2 hts gX12_of_X12_allOf rfl rfl rfl (by decide +kernel) ⟨Nat.le_of_ble_eq_true rfl, Nat.le_of_ble_eq_true rfl⟩) (cp_V hK hE hS hPc hDc hFc (va_recv hK hPc (ci := 12) (q0 := 0) rfl rfl)) rfl rfl hl.1 rfl (lv_room (Nat.le_of_ble_eq_true rfl)) dX12_of_86 ⟨Nat.zero_le _, Nat.zero_le _⟩) (fun H locs hP hD hS => ?_)
      injection hF with hz
      subst hz
      exact cm_reti hx hb hr rfl hlk hK hP hD hS dX12_of_89
    rw [if_neg c14] at hF
    refine lv_tableOut (tgt := 90) hx hb dX12_of_11 (by have a0 := lv_neT (k := 0) (a := 0) c4 (by decide); have a1 := lv_neT (k := 1) (a := 1) c6 (by decide); have a2 := lv_neT (k := 2) (a := 2) c8 (by decide); have a3 := lv_neT (k := 3) (a := 3) c11 (by decide); have a4 := lv_neT (k := 4) (a := 4) c14 (by decide); omega) (by decide) ?_
    refine lv_iconst (v := (-1)) hx hb dX12_of_90 (by decide) ?_
    injection hF with hz
    subst hz
    exact cm_reti hx hb hr rfl hlk hK hP hD hS dX12_of_91
  rw [if_pos c3] at hF
  refine lv_iconst (v := (-1)) hx hb dX12_of_8 (by decide) ?_
  injection hF with hz
  subst hz
  exact cm_reti hx hb hr rfl hlk hK hP hD hS dX12_of_9

/-! HeadsByHairModel.counts(IIII)I -/
abbrev rm_X12_counts : Room := { frames := 2, cells := 0, slots := 0, locals := 43 }
set_option maxHeartbeats 4000000 in
set_option maxRecDepth 100000 in
theorem c_X12_counts (l : Launch) (G : GG) (h a_s a_image a_by a_truths a_bodies : Nat) (x_thrown x_hasImage x_act x_spot x_end x_isWrong x_open x_turn x_lean x_last x_angle x_asLay x_ticks x_ran x_kind x_number x_tellsV : Int32) (f_s : Nat → Int32) (l1 : Int32) (l2 : Int32) (l3 : Int32) (l4 : Int32) (z : Int32) (z_f_s : Nat → Int32) (hF : fX12_counts f_s l1 l2 l3 l4 = some (z, z_f_s)) : CMi l yX12_counts wsX12_counts rm_X12_counts G [o12 h x_thrown a_s a_image x_hasImage x_act x_spot x_end x_isWrong x_open a_by a_truths x_turn x_lean x_last x_angle x_asLay x_ticks a_bodies x_ran x_kind x_number x_tellsV, aI G a_s 1394 f_s] [o12 h x_thrown a_s a_image x_hasImage x_act x_spot x_end x_isWrong x_open a_by a_truths x_turn x_lean x_last x_angle x_asLay x_ticks a_bodies x_ran x_kind x_number x_tellsV, aI G a_s 1394 z_f_s] [.ref h, .int l1, .int l2, .int l3, .int l4] z := by
  refine cm_start (cc := cX12_counts) (maxL := 6) (ret := (some .int)) (Qc := fun A => QI G [o12 h x_thrown a_s a_image x_hasImage x_act x_spot x_end x_isWrong x_open a_by a_truths x_turn x_lean x_last x_angle x_asLay x_ticks a_bodies x_ran x_kind x_number x_tellsV, aI G a_s 1394 z_f_s] z A) (by decide +kernel) rfl (Nat.le_of_ble_eq_true rfl) ?_
  intro p e s m args below meth c A hx hb hr hlk hml hown hnm hts hA H locs hP hK hD hE hS ls hl
  have hown : s.vm.findClass RX12 = some m.cls := hown
  have hl : lv_has ls 6 [(0, .ref h), (1, .int l1), (2, .int l2), (3, .int l3), (4, .int l4)] := hl
  have hin12 : ∀ w ∈ wsX120, w ∈ wsX12_counts := by decide +kernel
  have lk_9 := hts (.fieldLink RX12 9 "HeadsByHairModel" "s" "[I") (by decide +kernel)
  revert hF
  intro hF
  unfold fX12_counts at hF
  refine lv_aload_n hx hb dX12_counts_0 rfl (lv_at hl 0 rfl) ?_
  refine lv_iload_n hx hb dX12_counts_1 rfl (lv_at hl 1 rfl) ?_
  obtain ⟨r1, hc2, hF⟩ := bd_some hF
  have hPc := hP.sub (ws' := [o12 h x_thrown a_s a_image x_hasImage x_act x_spot x_end x_isWrong x_open a_by a_truths x_turn x_lean x_last x_angle x_asLay x_ticks a_bodies x_ran x_kind x_number x_tellsV, aI G a_s 1394 f_s]) [0, 1] rfl
  have hDc := hD.sub (ws' := [o12 h x_thrown a_s a_image x_hasImage x_act x_spot x_end x_isWrong x_open a_by a_truths x_turn x_lean x_last x_angle x_asLay x_ticks a_bodies x_ran x_kind x_number x_tellsV, aI G a_s 1394 f_s]) [0, 1] (by decide) rfl
  have hFc := va_free (wc := [o12 h x_thrown a_s a_image x_hasImage x_act x_spot x_end x_isWrong x_open a_by a_truths x_turn x_lean x_last x_angle x_asLay x_ticks a_bodies x_ran x_kind x_number x_tellsV, aI G a_s 1394 f_s]) hD hS hA [0, 1] rfl
  have hM := c_X12_isHand l G h a_s a_image a_by a_truths a_bodies x_thrown x_hasImage x_act x_spot x_end x_isWrong x_open x_turn x_lean x_last x_angle x_asLay x_ticks x_ran x_kind x_number x_tellsV f_s l1 r1 hc2 H.size
  refine cl_i (w1 := [o12 h x_thrown a_s a_image x_hasImage x_act x_spot x_end x_isWrong x_open a_by a_truths x_turn x_lean x_last x_angle x_asLay x_ticks a_bodies x_ran x_kind x_number x_tellsV, aI G a_s 1394 f_s]) (ws' := [o12 h x_thrown a_s a_image x_hasImage x_act x_spot x_end x_isWrong x_open a_by a_truths x_turn x_lean x_last x_angle x_asLay x_ticks a_bodies x_ran x_kind x_number x_tellsV, aI G a_s 1394 f_s]) hP hD hS hFc [0, 1] rfl rfl rfl (va_runV (As := [.int l1]) (rest := []) ⟨hx, hb, hml, hown, hts⟩ hM (cwV 1 hts gX12_counts_X12_isHand rfl rfl rfl (by decide +kernel) ⟨Nat.le_of_ble_eq_true rfl, Nat.le_of_ble_eq_true rfl⟩) (cp_V hK hE hS hPc hDc hFc (va_recv hK hPc (ci := 12) (q0 := 0) rfl rfl)) rfl rfl hl.1 rfl (lv_room (Nat.le_of_ble_eq_true rfl)) dX12_counts_2 ⟨Nat.zero_le _, Nat.zero_le _⟩) (fun H locs hP hD hS => ?_)
  refine lv_if_eq (tgt := 16) hx hb dX12_counts_5 (by decide) (fun c3 => ?_) (fun c3 => ?_)
  · rw [if_pos c3] at hF
    refine lv_iconst (v := (-1)) hx hb dX12_counts_16 (by decide) ?_
    injection hF with hz
    injection hz with hq0 hz
    subst hq0
    subst hz
    exact cm_reti hx hb hr rfl hlk hK hP hD hS dX12_counts_17
  rw [if_neg c3] at hF
  refine lv_aload_n hx hb dX12_counts_8 rfl (lv_at hl 0 rfl) ?_
  refine lv_iload_n hx hb dX12_counts_9 rfl (lv_at hl 2 rfl) ?_
  obtain ⟨r4, hc5, hF⟩ := bd_some hF
  have hPc := hP.sub (ws' := [o12 h x_thrown a_s a_image x_hasImage x_act x_spot x_end x_isWrong x_open a_by a_truths x_turn x_lean x_last x_angle x_asLay x_ticks a_bodies x_ran x_kind x_number x_tellsV, aI G a_s 1394 f_s]) [0, 1] rfl
  have hDc := hD.sub (ws' := [o12 h x_thrown a_s a_image x_hasImage x_act x_spot x_end x_isWrong x_open a_by a_truths x_turn x_lean x_last x_angle x_asLay x_ticks a_bodies x_ran x_kind x_number x_tellsV, aI G a_s 1394 f_s]) [0, 1] (by decide) rfl
  have hFc := va_free (wc := [o12 h x_thrown a_s a_image x_hasImage x_act x_spot x_end x_isWrong x_open a_by a_truths x_turn x_lean x_last x_angle x_asLay x_ticks a_bodies x_ran x_kind x_number x_tellsV, aI G a_s 1394 f_s]) hD hS hA [0, 1] rfl
  have hM := c_X12_isCoin l G h a_s a_image a_by a_truths a_bodies x_thrown x_hasImage x_act x_spot x_end x_isWrong x_open x_turn x_lean x_last x_angle x_asLay x_ticks x_ran x_kind x_number x_tellsV f_s l2 r4 hc5 H.size
  refine cl_i (w1 := [o12 h x_thrown a_s a_image x_hasImage x_act x_spot x_end x_isWrong x_open a_by a_truths x_turn x_lean x_last x_angle x_asLay x_ticks a_bodies x_ran x_kind x_number x_tellsV, aI G a_s 1394 f_s]) (ws' := [o12 h x_thrown a_s a_image x_hasImage x_act x_spot x_end x_isWrong x_open a_by a_truths x_turn x_lean x_last x_angle x_asLay x_ticks a_bodies x_ran x_kind x_number x_tellsV, aI G a_s 1394 f_s]) hP hD hS hFc [0, 1] rfl rfl rfl (va_runV (As := [.int l2]) (rest := []) ⟨hx, hb, hml, hown, hts⟩ hM (cwV 1 hts gX12_counts_X12_isCoin rfl rfl rfl (by decide +kernel) ⟨Nat.le_of_ble_eq_true rfl, Nat.le_of_ble_eq_true rfl⟩) (cp_V hK hE hS hPc hDc hFc (va_recv hK hPc (ci := 12) (q0 := 0) rfl rfl)) rfl rfl hl.1 rfl (lv_room (Nat.le_of_ble_eq_true rfl)) dX12_counts_10 ⟨Nat.zero_le _, Nat.zero_le _⟩) (fun H locs hP hD hS => ?_)
  refine lv_if_ne (tgt := 18) hx hb dX12_counts_13 (by decide) (fun c6 => ?_) (fun c6 => ?_)
  · rw [if_neg c6] at hF
    refine lv_iload_n hx hb dX12_counts_18 rfl (lv_at hl 3 rfl) ?_
    refine lv_iconst (v := 0) hx hb dX12_counts_19 (by decide) ?_
    refine lv_sipush (v := 999) hx hb dX12_counts_20 (by decide) ?_
    obtain ⟨r7, hc8, hF⟩ := bd_some hF
    have hPc := hP.sub (ws' := []) [] rfl
    have hDc := hD.sub (ws' := []) [] (by decide) rfl
    have hFc := va_free (wc := []) hD hS hA [] rfl
    have hM := c_X12_in l G l3 (0 : Int32) (999 : Int32) r7 hc8 H.size
    refine cl_i (w1 := []) (ws' := [o12 h x_thrown a_s a_image x_hasImage x_act x_spot x_end x_isWrong x_open a_by a_truths x_turn x_lean x_last x_angle x_asLay x_ticks a_bodies x_ran x_kind x_number x_tellsV, aI G a_s 1394 f_s]) hP hD hS hFc [] rfl rfl rfl (va_runS (As := [.int l3, .int 0, .int 999]) (rest := []) ⟨hx, hb, hml, hown, hts⟩ hM (va_cwS 3 hts gX12_counts_X12_in rfl rfl rfl (by decide +kernel) ⟨Nat.le_of_ble_eq_true rfl, Nat.le_of_ble_eq_true rfl⟩) (cp_S hK hE hS hPc hDc hFc) rfl rfl hl.1 rfl (lv_room (Nat.le_of_ble_eq_true rfl)) dX12_counts_23 ⟨Nat.zero_le _, Nat.zero_le _⟩) (fun H locs hP hD hS => ?_)
    refine lv_if_eq (tgt := 39) hx hb dX12_counts_26 (by decide) (fun c9 => ?_) (fun c9 => ?_)
    · rw [if_pos c9] at hF
      refine W.eq (g2 := F0 m 39 ls []) rfl ?_
      refine lv_bipush (v := (-2)) hx hb dX12_counts_39 (by decide) ?_
      injection hF with hz
      injection hz with hq0 hz
      subst hq0
      subst hz
      exact cm_reti hx hb hr rfl hlk hK hP hD hS dX12_counts_41
    rw [if_neg c9] at hF
    refine W.eq (g2 := F0 m 29 ls []) rfl ?_
    refine lv_iload hx hb dX12_counts_29 (lv_at hl 4 rfl) ?_
    refine lv_iconst (v := 0) hx hb dX12_counts_31 (by decide) ?_
    refine lv_iload_n hx hb dX12_counts_32 rfl (lv_at hl 3 rfl) ?_
    obtain ⟨r10, hc11, hF⟩ := bd_some hF
    have hPc := hP.sub (ws' := []) [] rfl
    have hDc := hD.sub (ws' := []) [] (by decide) rfl
    have hFc := va_free (wc := []) hD hS hA [] rfl
    have hM := c_X12_in l G l4 (0 : Int32) l3 r10 hc11 H.size
    refine cl_i (w1 := []) (ws' := [o12 h x_thrown a_s a_image x_hasImage x_act x_spot x_end x_isWrong x_open a_by a_truths x_turn x_lean x_last x_angle x_asLay x_ticks a_bodies x_ran x_kind x_number x_tellsV, aI G a_s 1394 f_s]) hP hD hS hFc [] rfl rfl rfl (va_runS (As := [.int l4, .int 0, .int l3]) (rest := []) ⟨hx, hb, hml, hown, hts⟩ hM (va_cwS 3 hts gX12_counts_X12_in rfl rfl rfl (by decide +kernel) ⟨Nat.le_of_ble_eq_true rfl, Nat.le_of_ble_eq_true rfl⟩) (cp_S hK hE hS hPc hDc hFc) rfl rfl hl.1 rfl (lv_room (Nat.le_of_ble_eq_true rfl)) dX12_counts_33 ⟨Nat.zero_le _, Nat.zero_le _⟩) (fun H locs hP hD hS => ?_)
    refine lv_if_ne (tgt := 42) hx hb dX12_counts_36 (by decide) (fun c12 => ?_) (fun c12 => ?_)
    · rw [if_neg c12] at hF
      refine lv_aload_n hx hb dX12_counts_42 rfl (lv_at hl 0 rfl) ?_
      refine va_get (D := G.1) (ci := 12) (v := .ref a_s) (C := RX12) (T := TX12) (N := 22) hx hb hts hin12 hown hK hP 0 rfl rfl 1 (by decide) lk_9 (fun _ h9 => h9) rfl dX12_counts_43 ?_
      refine lv_sipush (v := 154) hx hb dX12_counts_46 (by decide) ?_
      refine lv_bipush (v := 6) hx hb dX12_counts_49 (by decide) ?_
      refine lv_iload_n hx hb dX12_counts_51 rfl (lv_at hl 1 rfl) ?_
      refine lv_imul hx hb dX12_counts_52 ?_
      refine lv_iadd hx hb dX12_counts_53 ?_
      refine lv_iload_n hx hb dX12_counts_54 rfl (lv_at hl 2 rfl) ?_
      refine lv_iadd hx hb dX12_counts_55 ?_
      refine W.eq (g2 := F0 m 56 ls [.int ((154 + (6 * l1)) + l2), .ref a_s]) rfl ?_
      obtain ⟨hi13, hF⟩ := ck_some hF
      refine va_iald (D := G.1) hx hb hK hP 1 0 rfl rfl hi13 dX12_counts_56 ?_
      refine lv_istore (lv' := [(5, .int (f_s ((154 + (6 * l1)) + l2).toNatClampNeg)), (0, .ref h), (1, .int l1), (2, .int l2), (3, .int l3), (4, .int l4)]) hx hb dX12_counts_57 hl (by decide) rfl (fun ls hl => ?_)
      refine lv_aload_n hx hb dX12_counts_59 rfl (lv_at hl 1 rfl) ?_
      refine va_get (D := G.1) (ci := 12) (v := .ref a_s) (C := RX12) (T := TX12) (N := 22) hx hb hts hin12 hown hK hP 0 rfl rfl 1 (by decide) lk_9 (fun _ h9 => h9) rfl dX12_counts_60 ?_
      refine lv_sipush (v := 154) hx hb dX12_counts_63 (by decide) ?_
      refine lv_bipush (v := 6) hx hb dX12_counts_66 (by decide) ?_
      refine lv_iload_n hx hb dX12_counts_68 rfl (lv_at hl 2 rfl) ?_
      refine lv_imul hx hb dX12_counts_69 ?_
      refine lv_iadd hx hb dX12_counts_70 ?_
      refine lv_iload_n hx hb dX12_counts_71 rfl (lv_at hl 3 rfl) ?_
      refine lv_iadd hx hb dX12_counts_72 ?_
      refine lv_iload_n hx hb dX12_counts_73 rfl (lv_at hl 4 rfl) ?_
      refine va_iast (D := G.1) hx hb hK hP hD hS 1 0 rfl rfl hi13 dX12_counts_74 (fun H locs hP hD hS => ?_)
      have hP : va_P G.1 vwCl [o12 h x_thrown a_s a_image x_hasImage x_act x_spot x_end x_isWrong x_open a_by a_truths x_turn x_lean x_last x_angle x_asLay x_ticks a_bodies x_ran x_kind x_number x_tellsV, aI G a_s 1394 (upd f_s ((154 + (6 * l1)) + l2).toNatClampNeg l3)] H := hP
      have hD : va_D A [o12 h x_thrown a_s a_image x_hasImage x_act x_spot x_end x_isWrong x_open a_by a_truths x_turn x_lean x_last x_angle x_asLay x_ticks a_bodies x_ran x_kind x_number x_tellsV, aI G a_s 1394 (upd f_s ((154 + (6 * l1)) + l2).toNatClampNeg l3)] := hD
      refine lv_aload_n hx hb dX12_counts_75 rfl (lv_at hl 1 rfl) ?_
      refine W.eq (g2 := F0 m 76 ls [.ref h]) rfl ?_
      refine va_get (D := G.1) (ci := 12) (v := .ref a_s) (C := RX12) (T := TX12) (N := 22) hx hb hts hin12 hown hK hP 0 rfl rfl 1 (by decide) lk_9 (fun _ h9 => h9) rfl dX12_counts_76 ?_
      refine lv_sipush (v := 190) hx hb dX12_counts_79 (by decide) ?_
      refine lv_bipush (v := 6) hx hb dX12_counts_82 (by decide) ?_
      refine lv_iload_n hx hb dX12_counts_84 rfl (lv_at hl 2 rfl) ?_
      refine lv_imul hx hb dX12_counts_85 ?_
      refine lv_iadd hx hb dX12_counts_86 ?_
      refine lv_iload_n hx hb dX12_counts_87 rfl (lv_at hl 3 rfl) ?_
      refine lv_iadd hx hb dX12_counts_88 ?_
      refine lv_iload hx hb dX12_counts_89 (lv_at hl 5 rfl) ?_
      obtain ⟨hi14, hF⟩ := ck_some hF
      refine va_iast (D := G.1) hx hb hK hP hD hS 1 0 rfl rfl hi14 dX12_counts_91 (fun H locs hP hD hS => ?_)
      have hP : va_P G.1 vwCl [o12 h x_thrown a_s a_image x_hasImage x_act x_spot x_end x_isWrong x_open a_by a_truths x_turn x_lean x_last x_angle x_asLay x_ticks a_bodies x_ran x_kind x_number x_tellsV, aI G a_s 1394 (upd (upd f_s ((154 + (6 * l1)) + l2).toNatClampNeg l3) ((190 + (6 * l1)) + l2).toNatClampNeg l4)] H := hP
      have hD : va_D A [o12 h x_thrown a_s a_image x_hasImage x_act x_spot x_end x_isWrong x_open a_by a_truths x_turn x_lean x_last x_angle x_asLay x_ticks a_bodies x_ran x_kind x_number x_tellsV, aI G a_s 1394 (upd (upd f_s ((154 + (6 * l1)) + l2).toNatClampNeg l3) ((190 + (6 * l1)) + l2).toNatClampNeg l4)] := hD
      refine lv_iload hx hb dX12_counts_92 (lv_at hl 0 rfl) ?_
      injection hF with hz
      injection hz with hq0 hz
      subst hq0
      subst hz
      exact cm_reti hx hb hr rfl hlk hK hP hD hS dX12_counts_94
    rw [if_pos c12] at hF
    refine lv_bipush (v := (-2)) hx hb dX12_counts_39 (by decide) ?_
    injection hF with hz
    injection hz with hq0 hz
    subst hq0
    subst hz
    exact cm_reti hx hb hr rfl hlk hK hP hD hS dX12_counts_41
  rw [if_pos c6] at hF
  refine lv_iconst (v := (-1)) hx hb dX12_counts_16 (by decide) ?_
  injection hF with hz
  injection hz with hq0 hz
  subst hq0
  subst hz
  exact cm_reti hx hb hr rfl hlk hK hP hD hS dX12_counts_17

/-! HeadsByHairModel.feed(JI)I -/
abbrev rm_X12_feed : Room := { frames := 1, cells := 0, slots := 0, locals := 22 }
set_option maxHeartbeats 4000000 in
set_option maxRecDepth 100000 in
theorem c_X12_feed (l : Launch) (G : GG) (h a_s a_image a_by a_truths a_bodies : Nat) (x_thrown x_hasImage x_act x_spot x_end x_isWrong x_open x_turn x_lean x_last x_angle x_asLay x_ticks x_ran x_kind x_number x_tellsV : Int32) (f_s : Nat → Int32) (l1 : Int64) (l3 : Int32) (z : Int32) (z_f_s : Nat → Int32) (hF : fX12_feed f_s l1 l3 = some (z, z_f_s)) : CMi l yX12_feed wsX12_feed rm_X12_feed G [o12 h x_thrown a_s a_image x_hasImage x_act x_spot x_end x_isWrong x_open a_by a_truths x_turn x_lean x_last x_angle x_asLay x_ticks a_bodies x_ran x_kind x_number x_tellsV, aI G a_s 1394 f_s] [o12 h x_thrown a_s a_image x_hasImage x_act x_spot x_end x_isWrong x_open a_by a_truths x_turn x_lean x_last x_angle x_asLay x_ticks a_bodies x_ran x_kind x_number x_tellsV, aI G a_s 1394 z_f_s] [.ref h, .long l1, .int l3] z := by
  refine cm_start (cc := cX12_feed) (maxL := 5) (ret := (some .int)) (Qc := fun A => QI G [o12 h x_thrown a_s a_image x_hasImage x_act x_spot x_end x_isWrong x_open a_by a_truths x_turn x_lean x_last x_angle x_asLay x_ticks a_bodies x_ran x_kind x_number x_tellsV, aI G a_s 1394 z_f_s] z A) (by decide +kernel) rfl (Nat.le_of_ble_eq_true rfl) ?_
  intro p e s m args below meth c A hx hb hr hlk hml hown hnm hts hA H locs hP hK hD hE hS ls hl
  have hown : s.vm.findClass RX12 = some m.cls := hown
  have hl : lv_has ls 5 [(0, .ref h), (1, .long l1), (3, .int l3)] := hl
  have hin12 : ∀ w ∈ wsX120, w ∈ wsX12_feed := by decide +kernel
  have lk_9 := hts (.fieldLink RX12 9 "HeadsByHairModel" "s" "[I") (by decide +kernel)
  have lc_54 := hts (.constantLong RX12 54 (255)) (by decide +kernel)
  revert hF
  have LP34 : ∀ (l1 : Int64) (n : Nat) (f_s : Nat → Int32) (l4 : Int32) (H : Heap) (locs : List Loc) (ls : Array Slot), va_P G.1 vwCl [o12 h x_thrown a_s a_image x_hasImage x_act x_spot x_end x_isWrong x_open a_by a_truths x_turn x_lean x_last x_angle x_asLay x_ticks a_bodies x_ran x_kind x_number x_tellsV, aI G a_s 1394 f_s] H → va_D A [o12 h x_thrown a_s a_image x_hasImage x_act x_spot x_end x_isWrong x_open a_by a_truths x_turn x_lean x_last x_angle x_asLay x_ticks a_bodies x_ran x_kind x_number x_tellsV, aI G a_s 1394 f_s] → va_S A s.heap H locs → lv_has ls 5 [(0, .ref h), (1, .long l1), (4, .int l4)] → fX12_feed_L34 l1 n f_s l4 = some (z, z_f_s) → W p l e (rm_X12_feed) s m args below meth c H locs 0 0 (MQ below (QI G [o12 h x_thrown a_s a_image x_hasImage x_act x_spot x_end x_isWrong x_open a_by a_truths x_turn x_lean x_last x_angle x_asLay x_ticks a_bodies x_ran x_kind x_number x_tellsV, aI G a_s 1394 z_f_s] z A) args s 0 0 A) (F0 m 34 ls []) := by
    intro l1 n
    induction n with
    | zero =>
      intro f_s l4 H locs ls hP hD hS hl hF
      cases hF
    | succ n ih =>
      intro f_s l4 H locs ls hP hD hS hl hF
      rw [fX12_feed_L34] at hF
      refine lv_iload hx hb dX12_feed_34 (lv_at hl 2 rfl) ?_
      refine lv_if_lt (tgt := 81) hx hb dX12_feed_36 (by decide) (fun c5 => ?_) (fun c5 => ?_)
      · rw [if_pos c5] at hF
        refine lv_aload_n hx hb dX12_feed_81 rfl (lv_at hl 0 rfl) ?_
        refine va_get (D := G.1) (ci := 12) (v := .ref a_s) (C := RX12) (T := TX12) (N := 22) hx hb hts hin12 hown hK hP 0 rfl rfl 1 (by decide) lk_9 (fun _ h9 => h9) rfl dX12_feed_82 ?_
        refine lv_iconst (v := 4) hx hb dX12_feed_85 (by decide) ?_
        refine va_iald (D := G.1) hx hb hK hP 1 0 rfl rfl (by unfold vp_in; decide) dX12_feed_86 ?_
        refine lv_eqi (y := f_s 4) rfl ?_
        injection hF with hz
        injection hz with hq0 hz
        subst hq0
        subst hz
        exact cm_reti hx hb hr rfl hlk hK hP hD hS dX12_feed_87
      rw [if_neg c5] at hF
      refine lv_aload_n hx hb dX12_feed_39 rfl (lv_at hl 0 rfl) ?_
      refine va_get (D := G.1) (ci := 12) (v := .ref a_s) (C := RX12) (T := TX12) (N := 22) hx hb hts hin12 hown hK hP 0 rfl rfl 1 (by decide) lk_9 (fun _ h9 => h9) rfl dX12_feed_40 ?_
      refine lv_bipush (v := 10) hx hb dX12_feed_43 (by decide) ?_
      refine lv_aload_n hx hb dX12_feed_45 rfl (lv_at hl 0 rfl) ?_
      refine va_get (D := G.1) (ci := 12) (v := .ref a_s) (C := RX12) (T := TX12) (N := 22) hx hb hts hin12 hown hK hP 0 rfl rfl 1 (by decide) lk_9 (fun _ h9 => h9) rfl dX12_feed_46 ?_
      refine lv_iconst (v := 4) hx hb dX12_feed_49 (by decide) ?_
      refine va_iald (D := G.1) hx hb hK hP 1 0 rfl rfl (by unfold vp_in; decide) dX12_feed_50 ?_
      refine lv_eqi (y := f_s 4) rfl ?_
      refine lv_iadd hx hb dX12_feed_51 ?_
      refine lv_lload_n hx hb dX12_feed_52 rfl (lv_at hl 1 rfl) ?_
      refine lv_bipush (v := 8) hx hb dX12_feed_53 (by decide) ?_
      refine lv_iload hx hb dX12_feed_55 (lv_at hl 2 rfl) ?_
      refine W.eq (g2 := F0 m 57 ls [.int l4, .int 8, .long l1, .int (10 + (f_s 4)), .ref a_s]) rfl ?_
      refine lv_imul hx hb dX12_feed_57 ?_
      refine lv_lshr (v := (l1 >>> ((8 * l4).toInt64 &&& 63))) hx hb dX12_feed_58 rfl ?_
      refine lv_ldc2 hx hb hown lc_54 dX12_feed_59 ?_
      refine lv_land hx hb dX12_feed_62 ?_
      refine lv_l2i (v := ((l1 >>> ((8 * l4).toInt64 &&& 63)) &&& 255).toInt32) hx hb dX12_feed_63 rfl ?_
      obtain ⟨hi6, hF⟩ := ck_some hF
      refine va_iast (D := G.1) hx hb hK hP hD hS 1 0 rfl rfl hi6 dX12_feed_64 (fun H locs hP hD hS => ?_)
      have hP : va_P G.1 vwCl [o12 h x_thrown a_s a_image x_hasImage x_act x_spot x_end x_isWrong x_open a_by a_truths x_turn x_lean x_last x_angle x_asLay x_ticks a_bodies x_ran x_kind x_number x_tellsV, aI G a_s 1394 (upd f_s (10 + (f_s 4)).toNatClampNeg (((l1 >>> ((8 * l4).toInt64 &&& 63)) &&& 255).toInt32))] H := hP
      have hD : va_D A [o12 h x_thrown a_s a_image x_hasImage x_act x_spot x_end x_isWrong x_open a_by a_truths x_turn x_lean x_last x_angle x_asLay x_ticks a_bodies x_ran x_kind x_number x_tellsV, aI G a_s 1394 (upd f_s (10 + (f_s 4)).toNatClampNeg (((l1 >>> ((8 * l4).toInt64 &&& 63)) &&& 255).toInt32))] := hD
      refine lv_aload_n hx hb dX12_feed_65 rfl (lv_at hl 0 rfl) ?_
      refine va_get (D := G.1) (ci := 12) (v := .ref a_s) (C := RX12) (T := TX12) (N := 22) hx hb hts hin12 hown hK hP 0 rfl rfl 1 (by decide) lk_9 (fun _ h9 => h9) rfl dX12_feed_66 ?_
      refine lv_iconst (v := 4) hx hb dX12_feed_69 (by decide) ?_
      refine lv_dup2_11 hx hb dX12_feed_70 rfl rfl ?_
      refine va_iald (D := G.1) hx hb hK hP 1 0 rfl rfl (by unfold vp_in; decide) dX12_feed_71 ?_
      refine lv_eqi (y := (upd f_s (10 + (f_s 4)).toNatClampNeg (((l1 >>> ((8 * l4).toInt64 &&& 63)) &&& 255).toInt32)) 4) rfl ?_
      refine lv_iconst (v := 1) hx hb dX12_feed_72 (by decide) ?_
      refine lv_iadd hx hb dX12_feed_73 ?_
      refine va_iast (D := G.1) hx hb hK hP hD hS 1 0 rfl rfl (by unfold vp_in; decide) dX12_feed_74 (fun H locs hP hD hS => ?_)
      have hP : va_P G.1 vwCl [o12 h x_thrown a_s a_image x_hasImage x_act x_spot x_end x_isWrong x_open a_by a_truths x_turn x_lean x_last x_angle x_asLay x_ticks a_bodies x_ran x_kind x_number x_tellsV, aI G a_s 1394 (upd (upd f_s (10 + (f_s 4)).toNatClampNeg (((l1 >>> ((8 * l4).toInt64 &&& 63)) &&& 255).toInt32)) 4 (((upd f_s (10 + (f_s 4)).toNatClampNeg (((l1 >>> ((8 * l4).toInt64 &&& 63)) &&& 255).toInt32)) 4) + 1))] H := hP
      have hD : va_D A [o12 h x_thrown a_s a_image x_hasImage x_act x_spot x_end x_isWrong x_open a_by a_truths x_turn x_lean x_last x_angle x_asLay x_ticks a_bodies x_ran x_kind x_number x_tellsV, aI G a_s 1394 (upd (upd f_s (10 + (f_s 4)).toNatClampNeg (((l1 >>> ((8 * l4).toInt64 &&& 63)) &&& 255).toInt32)) 4 (((upd f_s (10 + (f_s 4)).toNatClampNeg (((l1 >>> ((8 * l4).toInt64 &&& 63)) &&& 255).toInt32)) 4) + 1))] := hD
      refine W.eq (g2 := F0 m 75 ls []) rfl ?_
      refine lv_iinc (v := l4 + (-1)) (lv' := [(4, .int (l4 + (-1))), (0, .ref h), (1, .long l1)]) hx hb dX12_feed_75 hl (k := 2) rfl rfl (by decide) rfl (fun ls hl => ?_)
      refine lv_goto (tgt := 34) hx hb dX12_feed_78 (by decide) ?_
      exact ih _ _ H locs ls hP hD hS (lv_sub hl [1, 2, 0] rfl) hF
  intro hF
  unfold fX12_feed at hF
  refine lv_iload_n hx hb dX12_feed_0 rfl (lv_at hl 2 rfl) ?_
  refine lv_iconst (v := 1) hx hb dX12_feed_1 (by decide) ?_
  refine lv_bipush (v := 8) hx hb dX12_feed_2 (by decide) ?_
  obtain ⟨r1, hc2, hF⟩ := bd_some hF
  have hPc := hP.sub (ws' := []) [] rfl
  have hDc := hD.sub (ws' := []) [] (by decide) rfl
  have hFc := va_free (wc := []) hD hS hA [] rfl
  have hM := c_X12_in l G l3 (1 : Int32) (8 : Int32) r1 hc2 H.size
  refine cl_i (w1 := []) (ws' := [o12 h x_thrown a_s a_image x_hasImage x_act x_spot x_end x_isWrong x_open a_by a_truths x_turn x_lean x_last x_angle x_asLay x_ticks a_bodies x_ran x_kind x_number x_tellsV, aI G a_s 1394 f_s]) hP hD hS hFc [] rfl rfl rfl (va_runS (As := [.int l3, .int 1, .int 8]) (rest := []) ⟨hx, hb, hml, hown, hts⟩ hM (va_cwS 3 hts gX12_feed_X12_in rfl rfl rfl (by decide +kernel) ⟨Nat.le_of_ble_eq_true rfl, Nat.le_of_ble_eq_true rfl⟩) (cp_S hK hE hS hPc hDc hFc) rfl rfl hl.1 rfl (lv_room (Nat.le_of_ble_eq_true rfl)) dX12_feed_4 ⟨Nat.zero_le _, Nat.zero_le _⟩) (fun H locs hP hD hS => ?_)
  refine lv_if_ne (tgt := 13) hx hb dX12_feed_7 (by decide) (fun c3 => ?_) (fun c3 => ?_)
  · rw [if_neg c3] at hF
    refine lv_aload_n hx hb dX12_feed_13 rfl (lv_at hl 0 rfl) ?_
    refine va_get (D := G.1) (ci := 12) (v := .ref a_s) (C := RX12) (T := TX12) (N := 22) hx hb hts hin12 hown hK hP 0 rfl rfl 1 (by decide) lk_9 (fun _ h9 => h9) rfl dX12_feed_14 ?_
    refine lv_iconst (v := 4) hx hb dX12_feed_17 (by decide) ?_
    refine va_iald (D := G.1) hx hb hK hP 1 0 rfl rfl (by unfold vp_in; decide) dX12_feed_18 ?_
    refine lv_eqi (y := f_s 4) rfl ?_
    refine lv_iload_n hx hb dX12_feed_19 rfl (lv_at hl 2 rfl) ?_
    refine lv_iadd hx hb dX12_feed_20 ?_
    refine lv_bipush (v := 120) hx hb dX12_feed_21 (by decide) ?_
    refine lv_icmp_le (tgt := 29) hx hb dX12_feed_23 (by decide) (fun c4 => ?_) (fun c4 => ?_)
    · rw [if_pos c4] at hF
      refine W.eq (g2 := F0 m 29 ls []) rfl ?_
      refine lv_iload_n hx hb dX12_feed_29 rfl (lv_at hl 2 rfl) ?_
      refine lv_iconst (v := 1) hx hb dX12_feed_30 (by decide) ?_
      refine lv_isub hx hb dX12_feed_31 ?_
      refine lv_istore (lv' := [(4, .int (l3 - 1)), (0, .ref h), (1, .long l1), (3, .int l3)]) hx hb dX12_feed_32 hl (by decide) rfl (fun ls hl => ?_)
      refine LP34 _ _ _ _ H locs ls hP hD hS (lv_sub hl [1, 2, 0] rfl) hF
    rw [if_neg c4] at hF
    refine W.eq (g2 := F0 m 26 ls []) rfl ?_
    refine lv_bipush (v := (-4)) hx hb dX12_feed_26 (by decide) ?_
    injection hF with hz
    injection hz with hq0 hz
    subst hq0
    subst hz
    exact cm_reti hx hb hr rfl hlk hK hP hD hS dX12_feed_28
  rw [if_pos c3] at hF
  refine lv_bipush (v := (-2)) hx hb dX12_feed_10 (by decide) ?_
  injection hF with hz
  injection hz with hq0 hz
  subst hq0
  subst hz
  exact cm_reti hx hb hr rfl hlk hK hP hD hS dX12_feed_12
