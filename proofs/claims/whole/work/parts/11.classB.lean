/-! HeadsByHair.isCoin(I)Z -/
abbrev rm_X11_isCoin : Room := { frames := 1, cells := 0, slots := 0, locals := 22 }
set_option maxHeartbeats 4000000 in
set_option maxRecDepth 100000 in
theorem c_X11_isCoin (l : Launch) (G : GG) (h a_now a_kept a_reader a_flight a_latest a_now_edge a_now_bend a_now_rise a_now_wandering a_now_thrown a_now_alike a_now_law a_now_tape a_now_side : Nat) (x_isKept x_now_coins x_now_hands x_now_laws x_now_bytes x_now_sides : Int32) (l1 : Int32) (z : Int32) (hF : fX11_isCoin x_now_coins l1 = some (z)) : CMi l yX11_isCoin wsX11_isCoin rm_X11_isCoin G [o11 h a_now a_kept x_isKept a_reader a_flight a_latest, o6 a_now x_now_coins x_now_hands x_now_laws x_now_bytes x_now_sides a_now_edge a_now_bend a_now_rise a_now_wandering a_now_thrown a_now_alike a_now_law a_now_tape a_now_side] [o11 h a_now a_kept x_isKept a_reader a_flight a_latest, o6 a_now x_now_coins x_now_hands x_now_laws x_now_bytes x_now_sides a_now_edge a_now_bend a_now_rise a_now_wandering a_now_thrown a_now_alike a_now_law a_now_tape a_now_side] [.ref h, .int l1] z := by
  refine cm_start (cc := cX11_isCoin) (maxL := 2) (ret := (some .boolean)) (Qc := fun A => QI G [o11 h a_now a_kept x_isKept a_reader a_flight a_latest, o6 a_now x_now_coins x_now_hands x_now_laws x_now_bytes x_now_sides a_now_edge a_now_bend a_now_rise a_now_wandering a_now_thrown a_now_alike a_now_law a_now_tape a_now_side] z A) (by decide +kernel) rfl (Nat.le_of_ble_eq_true rfl) ?_
  intro p e s m args below meth c A hx hb hr hlk hml hown hnm hts hA H locs hP hK hD hE hS ls hl
  have hown : s.vm.findClass RX11 = some m.cls := hown
  have hl : lv_has ls 2 [(0, .ref h), (1, .int l1)] := hl
  have hin11 : ∀ w ∈ wsX110, w ∈ wsX11_isCoin := by decide +kernel
  have hin6 : ∀ w ∈ wsX60, w ∈ wsX11_isCoin := by decide +kernel
  have lk_12 := hts (.fieldLink RX11 12 "HeadsByHair" "now" "LHeadsByHair$Stock;") (by decide +kernel)
  have lk_46 := va_Nw.use (A := args) rfl (hE.nw (.fieldLinkNest "HeadsByHair" 46 "HeadsByHair$Stock" "coins" "I" "HeadsByHair") (by decide +kernel))
  revert hF
  intro hF
  unfold fX11_isCoin at hF
  refine lv_iload_n hx hb dX11_isCoin_0 rfl (lv_at hl 1 rfl) ?_
  refine lv_iconst (v := 0) hx hb dX11_isCoin_1 (by decide) ?_
  refine lv_aload_n hx hb dX11_isCoin_2 rfl (lv_at hl 0 rfl) ?_
  refine va_get (D := G.1) (ci := 11) (v := .ref a_now) (C := RX11) (T := TX11) (N := 6) hx hb hts hin11 hown hK hP 0 rfl rfl 0 (by decide) lk_12 (fun _ h9 => h9) rfl dX11_isCoin_3 ?_
  refine va_getN (D := G.1) (ci := 6) (v := .int x_now_coins) (C := RX6) (T := TX6) (N := 14) hx hb hts hin6 hown hK hP 1 rfl rfl 0 (by decide) lk_46 (fun _ h9 => h9) rfl dX11_isCoin_6 ?_
  refine lv_iconst (v := 1) hx hb dX11_isCoin_9 (by decide) ?_
  refine lv_isub hx hb dX11_isCoin_10 ?_
  obtain ⟨r1, hc2, hF⟩ := bd_some hF
  have hPc := hP.sub (ws' := []) [] rfl
  have hDc := hD.sub (ws' := []) [] (by decide) rfl
  have hFc := va_free (wc := []) hD hS hA [] rfl
  have hM := c_X11_isWithin l G l1 (0 : Int32) (x_now_coins - 1) r1 hc2 H.size
  refine cl_i (w1 := []) (ws' := [o11 h a_now a_kept x_isKept a_reader a_flight a_latest, o6 a_now x_now_coins x_now_hands x_now_laws x_now_bytes x_now_sides a_now_edge a_now_bend a_now_rise a_now_wandering a_now_thrown a_now_alike a_now_law a_now_tape a_now_side]) hP hD hS hFc [] rfl rfl rfl (va_runS (As := [.int l1, .int 0, .int (x_now_coins - 1)]) (rest := []) ⟨hx, hb, hml, hown, hts⟩ hM (va_cwS 3 hts gX11_isCoin_X11_isWithin rfl rfl rfl (by decide +kernel) ⟨Nat.le_of_ble_eq_true rfl, Nat.le_of_ble_eq_true rfl⟩) (cp_S hK hE hS hPc hDc hFc) rfl rfl hl.1 rfl (lv_room (Nat.le_of_ble_eq_true rfl)) dX11_isCoin_11 ⟨Nat.zero_le _, Nat.zero_le _⟩) (fun H locs hP hD hS => ?_)
  obtain ⟨hb3, hF⟩ := ck_some hF
  injection hF with hz
  subst hz
  exact cm_reti hx hb hr (nb_ok hb3).1 hlk hK hP hD hS dX11_isCoin_14

/-! HeadsByHair.isHand(I)Z -/
abbrev rm_X11_isHand : Room := { frames := 1, cells := 0, slots := 0, locals := 22 }
set_option maxHeartbeats 4000000 in
set_option maxRecDepth 100000 in
theorem c_X11_isHand (l : Launch) (G : GG) (h a_now a_kept a_reader a_flight a_latest a_now_edge a_now_bend a_now_rise a_now_wandering a_now_thrown a_now_alike a_now_law a_now_tape a_now_side : Nat) (x_isKept x_now_coins x_now_hands x_now_laws x_now_bytes x_now_sides : Int32) (l1 : Int32) (z : Int32) (hF : fX11_isHand x_now_hands l1 = some (z)) : CMi l yX11_isHand wsX11_isHand rm_X11_isHand G [o11 h a_now a_kept x_isKept a_reader a_flight a_latest, o6 a_now x_now_coins x_now_hands x_now_laws x_now_bytes x_now_sides a_now_edge a_now_bend a_now_rise a_now_wandering a_now_thrown a_now_alike a_now_law a_now_tape a_now_side] [o11 h a_now a_kept x_isKept a_reader a_flight a_latest, o6 a_now x_now_coins x_now_hands x_now_laws x_now_bytes x_now_sides a_now_edge a_now_bend a_now_rise a_now_wandering a_now_thrown a_now_alike a_now_law a_now_tape a_now_side] [.ref h, .int l1] z := by
  refine cm_start (cc := cX11_isHand) (maxL := 2) (ret := (some .boolean)) (Qc := fun A => QI G [o11 h a_now a_kept x_isKept a_reader a_flight a_latest, o6 a_now x_now_coins x_now_hands x_now_laws x_now_bytes x_now_sides a_now_edge a_now_bend a_now_rise a_now_wandering a_now_thrown a_now_alike a_now_law a_now_tape a_now_side] z A) (by decide +kernel) rfl (Nat.le_of_ble_eq_true rfl) ?_
  intro p e s m args below meth c A hx hb hr hlk hml hown hnm hts hA H locs hP hK hD hE hS ls hl
  have hown : s.vm.findClass RX11 = some m.cls := hown
  have hl : lv_has ls 2 [(0, .ref h), (1, .int l1)] := hl
  have hin11 : ∀ w ∈ wsX110, w ∈ wsX11_isHand := by decide +kernel
  have hin6 : ∀ w ∈ wsX60, w ∈ wsX11_isHand := by decide +kernel
  have lk_12 := hts (.fieldLink RX11 12 "HeadsByHair" "now" "LHeadsByHair$Stock;") (by decide +kernel)
  have lk_57 := va_Nw.use (A := args) rfl (hE.nw (.fieldLinkNest "HeadsByHair" 57 "HeadsByHair$Stock" "hands" "I" "HeadsByHair") (by decide +kernel))
  revert hF
  intro hF
  unfold fX11_isHand at hF
  refine lv_iload_n hx hb dX11_isHand_0 rfl (lv_at hl 1 rfl) ?_
  refine lv_iconst (v := 0) hx hb dX11_isHand_1 (by decide) ?_
  refine lv_aload_n hx hb dX11_isHand_2 rfl (lv_at hl 0 rfl) ?_
  refine va_get (D := G.1) (ci := 11) (v := .ref a_now) (C := RX11) (T := TX11) (N := 6) hx hb hts hin11 hown hK hP 0 rfl rfl 0 (by decide) lk_12 (fun _ h9 => h9) rfl dX11_isHand_3 ?_
  refine va_getN (D := G.1) (ci := 6) (v := .int x_now_hands) (C := RX6) (T := TX6) (N := 14) hx hb hts hin6 hown hK hP 1 rfl rfl 1 (by decide) lk_57 (fun _ h9 => h9) rfl dX11_isHand_6 ?_
  refine lv_iconst (v := 1) hx hb dX11_isHand_9 (by decide) ?_
  refine lv_isub hx hb dX11_isHand_10 ?_
  obtain ⟨r1, hc2, hF⟩ := bd_some hF
  have hPc := hP.sub (ws' := []) [] rfl
  have hDc := hD.sub (ws' := []) [] (by decide) rfl
  have hFc := va_free (wc := []) hD hS hA [] rfl
  have hM := c_X11_isWithin l G l1 (0 : Int32) (x_now_hands - 1) r1 hc2 H.size
  refine cl_i (w1 := []) (ws' := [o11 h a_now a_kept x_isKept a_reader a_flight a_latest, o6 a_now x_now_coins x_now_hands x_now_laws x_now_bytes x_now_sides a_now_edge a_now_bend a_now_rise a_now_wandering a_now_thrown a_now_alike a_now_law a_now_tape a_now_side]) hP hD hS hFc [] rfl rfl rfl (va_runS (As := [.int l1, .int 0, .int (x_now_hands - 1)]) (rest := []) ⟨hx, hb, hml, hown, hts⟩ hM (va_cwS 3 hts gX11_isHand_X11_isWithin rfl rfl rfl (by decide +kernel) ⟨Nat.le_of_ble_eq_true rfl, Nat.le_of_ble_eq_true rfl⟩) (cp_S hK hE hS hPc hDc hFc) rfl rfl hl.1 rfl (lv_room (Nat.le_of_ble_eq_true rfl)) dX11_isHand_11 ⟨Nat.zero_le _, Nat.zero_le _⟩) (fun H locs hP hD hS => ?_)
  obtain ⟨hb3, hF⟩ := ck_some hF
  injection hF with hz
  subst hz
  exact cm_reti hx hb hr (nb_ok hb3).1 hlk hK hP hD hS dX11_isHand_14

/-! HeadsByHair.coin(II)I -/
abbrev rm_X11_coin : Room := { frames := 1, cells := 0, slots := 0, locals := 22 }
set_option maxHeartbeats 4000000 in
set_option maxRecDepth 100000 in
theorem c_X11_coin (l : Launch) (G : GG) (h a_now a_kept a_reader a_flight a_latest a_now_edge a_now_bend a_now_rise a_now_wandering a_now_thrown a_now_alike a_now_law a_now_tape a_now_side : Nat) (x_isKept x_now_coins x_now_hands x_now_laws x_now_bytes x_now_sides : Int32) (f_now_bend : Nat → Int32) (f_now_edge : Nat → Int32) (l1 : Int32) (l2 : Int32) (z : Int32) (z_x_now_coins : Int32) (z_f_now_bend : Nat → Int32) (z_f_now_edge : Nat → Int32) (hF : fX11_coin x_now_coins f_now_bend f_now_edge l1 l2 = some (z, z_x_now_coins, z_f_now_bend, z_f_now_edge)) : CMi l yX11_coin wsX11_coin rm_X11_coin G [o11 h a_now a_kept x_isKept a_reader a_flight a_latest, o6 a_now x_now_coins x_now_hands x_now_laws x_now_bytes x_now_sides a_now_edge a_now_bend a_now_rise a_now_wandering a_now_thrown a_now_alike a_now_law a_now_tape a_now_side, aI G a_now_bend 6 f_now_bend, aI G a_now_edge 6 f_now_edge] [o11 h a_now a_kept x_isKept a_reader a_flight a_latest, o6 a_now z_x_now_coins x_now_hands x_now_laws x_now_bytes x_now_sides a_now_edge a_now_bend a_now_rise a_now_wandering a_now_thrown a_now_alike a_now_law a_now_tape a_now_side, aI G a_now_bend 6 z_f_now_bend, aI G a_now_edge 6 z_f_now_edge] [.ref h, .int l1, .int l2] z := by
  refine cm_start (cc := cX11_coin) (maxL := 3) (ret := (some .int)) (Qc := fun A => QI G [o11 h a_now a_kept x_isKept a_reader a_flight a_latest, o6 a_now z_x_now_coins x_now_hands x_now_laws x_now_bytes x_now_sides a_now_edge a_now_bend a_now_rise a_now_wandering a_now_thrown a_now_alike a_now_law a_now_tape a_now_side, aI G a_now_bend 6 z_f_now_bend, aI G a_now_edge 6 z_f_now_edge] z A) (by decide +kernel) rfl (Nat.le_of_ble_eq_true rfl) ?_
  intro p e s m args below meth c A hx hb hr hlk hml hown hnm hts hA H locs hP hK hD hE hS ls hl
  have hown : s.vm.findClass RX11 = some m.cls := hown
  have hl : lv_has ls 3 [(0, .ref h), (1, .int l1), (2, .int l2)] := hl
  have hin11 : ∀ w ∈ wsX110, w ∈ wsX11_coin := by decide +kernel
  have hin6 : ∀ w ∈ wsX60, w ∈ wsX11_coin := by decide +kernel
  have lk_12 := hts (.fieldLink RX11 12 "HeadsByHair" "now" "LHeadsByHair$Stock;") (by decide +kernel)
  have lk_46 := va_Nw.use (A := args) rfl (hE.nw (.fieldLinkNest "HeadsByHair" 46 "HeadsByHair$Stock" "coins" "I" "HeadsByHair") (by decide +kernel))
  have lk_50 := va_Nw.use (A := args) rfl (hE.nw (.fieldLinkNest "HeadsByHair" 50 "HeadsByHair$Stock" "edge" "[I" "HeadsByHair") (by decide +kernel))
  have lk_54 := va_Nw.use (A := args) rfl (hE.nw (.fieldLinkNest "HeadsByHair" 54 "HeadsByHair$Stock" "bend" "[I" "HeadsByHair") (by decide +kernel))
  revert hF
  intro hF
  unfold fX11_coin at hF
  refine lv_iload_n hx hb dX11_coin_0 rfl (lv_at hl 1 rfl) ?_
  refine lv_iconst (v := 0) hx hb dX11_coin_1 (by decide) ?_
  refine lv_bipush (v := 9) hx hb dX11_coin_2 (by decide) ?_
  obtain ⟨r1, hc2, hF⟩ := bd_some hF
  have hPc := hP.sub (ws' := []) [] rfl
  have hDc := hD.sub (ws' := []) [] (by decide) rfl
  have hFc := va_free (wc := []) hD hS hA [] rfl
  have hM := c_X11_isWithin l G l1 (0 : Int32) (9 : Int32) r1 hc2 H.size
  refine cl_i (w1 := []) (ws' := [o11 h a_now a_kept x_isKept a_reader a_flight a_latest, o6 a_now x_now_coins x_now_hands x_now_laws x_now_bytes x_now_sides a_now_edge a_now_bend a_now_rise a_now_wandering a_now_thrown a_now_alike a_now_law a_now_tape a_now_side, aI G a_now_bend 6 f_now_bend, aI G a_now_edge 6 f_now_edge]) hP hD hS hFc [] rfl rfl rfl (va_runS (As := [.int l1, .int 0, .int 9]) (rest := []) ⟨hx, hb, hml, hown, hts⟩ hM (va_cwS 3 hts gX11_coin_X11_isWithin rfl rfl rfl (by decide +kernel) ⟨Nat.le_of_ble_eq_true rfl, Nat.le_of_ble_eq_true rfl⟩) (cp_S hK hE hS hPc hDc hFc) rfl rfl hl.1 rfl (lv_room (Nat.le_of_ble_eq_true rfl)) dX11_coin_4 ⟨Nat.zero_le _, Nat.zero_le _⟩) (fun H locs hP hD hS => ?_)
  refine lv_if_eq (tgt := 20) hx hb dX11_coin_7 (by decide) (fun c3 => ?_) (fun c3 => ?_)
  · rw [if_pos c3] at hF
    refine lv_bipush (v := (-2)) hx hb dX11_coin_20 (by decide) ?_
    injection hF with hz
    injection hz with hq0 hz
    injection hz with hq1 hz
    injection hz with hq2 hz
    subst hq0
    subst hq1
    subst hq2
    subst hz
    exact cm_reti hx hb hr rfl hlk hK hP hD hS dX11_coin_22
  rw [if_neg c3] at hF
  refine lv_iload_n hx hb dX11_coin_10 rfl (lv_at hl 2 rfl) ?_
  refine lv_iconst (v := 0) hx hb dX11_coin_11 (by decide) ?_
  refine lv_bipush (v := 9) hx hb dX11_coin_12 (by decide) ?_
  obtain ⟨r4, hc5, hF⟩ := bd_some hF
  have hPc := hP.sub (ws' := []) [] rfl
  have hDc := hD.sub (ws' := []) [] (by decide) rfl
  have hFc := va_free (wc := []) hD hS hA [] rfl
  have hM := c_X11_isWithin l G l2 (0 : Int32) (9 : Int32) r4 hc5 H.size
  refine cl_i (w1 := []) (ws' := [o11 h a_now a_kept x_isKept a_reader a_flight a_latest, o6 a_now x_now_coins x_now_hands x_now_laws x_now_bytes x_now_sides a_now_edge a_now_bend a_now_rise a_now_wandering a_now_thrown a_now_alike a_now_law a_now_tape a_now_side, aI G a_now_bend 6 f_now_bend, aI G a_now_edge 6 f_now_edge]) hP hD hS hFc [] rfl rfl rfl (va_runS (As := [.int l2, .int 0, .int 9]) (rest := []) ⟨hx, hb, hml, hown, hts⟩ hM (va_cwS 3 hts gX11_coin_X11_isWithin rfl rfl rfl (by decide +kernel) ⟨Nat.le_of_ble_eq_true rfl, Nat.le_of_ble_eq_true rfl⟩) (cp_S hK hE hS hPc hDc hFc) rfl rfl hl.1 rfl (lv_room (Nat.le_of_ble_eq_true rfl)) dX11_coin_14 ⟨Nat.zero_le _, Nat.zero_le _⟩) (fun H locs hP hD hS => ?_)
  refine lv_if_ne (tgt := 23) hx hb dX11_coin_17 (by decide) (fun c6 => ?_) (fun c6 => ?_)
  · rw [if_neg c6] at hF
    refine lv_aload_n hx hb dX11_coin_23 rfl (lv_at hl 0 rfl) ?_
    refine va_get (D := G.1) (ci := 11) (v := .ref a_now) (C := RX11) (T := TX11) (N := 6) hx hb hts hin11 hown hK hP 0 rfl rfl 0 (by decide) lk_12 (fun _ h9 => h9) rfl dX11_coin_24 ?_
    refine va_getN (D := G.1) (ci := 6) (v := .int x_now_coins) (C := RX6) (T := TX6) (N := 14) hx hb hts hin6 hown hK hP 1 rfl rfl 0 (by decide) lk_46 (fun _ h9 => h9) rfl dX11_coin_27 ?_
    refine W.eq (g2 := F0 m 30 ls [.int x_now_coins]) rfl ?_
    refine lv_bipush (v := 6) hx hb dX11_coin_30 (by decide) ?_
    refine lv_icmp_lt (tgt := 38) hx hb dX11_coin_32 (by decide) (fun c7 => ?_) (fun c7 => ?_)
    · rw [if_pos c7] at hF
      refine lv_aload_n hx hb dX11_coin_38 rfl (lv_at hl 0 rfl) ?_
      refine va_get (D := G.1) (ci := 11) (v := .ref a_now) (C := RX11) (T := TX11) (N := 6) hx hb hts hin11 hown hK hP 0 rfl rfl 0 (by decide) lk_12 (fun _ h9 => h9) rfl dX11_coin_39 ?_
      refine va_getN (D := G.1) (ci := 6) (v := .ref a_now_edge) (C := RX6) (T := TX6) (N := 14) hx hb hts hin6 hown hK hP 1 rfl rfl 5 (by decide) lk_50 (fun _ h9 => h9) rfl dX11_coin_42 ?_
      refine lv_aload_n hx hb dX11_coin_45 rfl (lv_at hl 0 rfl) ?_
      refine va_get (D := G.1) (ci := 11) (v := .ref a_now) (C := RX11) (T := TX11) (N := 6) hx hb hts hin11 hown hK hP 0 rfl rfl 0 (by decide) lk_12 (fun _ h9 => h9) rfl dX11_coin_46 ?_
      refine va_getN (D := G.1) (ci := 6) (v := .int x_now_coins) (C := RX6) (T := TX6) (N := 14) hx hb hts hin6 hown hK hP 1 rfl rfl 0 (by decide) lk_46 (fun _ h9 => h9) rfl dX11_coin_49 ?_
      refine lv_iload_n hx hb dX11_coin_52 rfl (lv_at hl 1 rfl) ?_
      obtain ⟨hi8, hF⟩ := ck_some hF
      refine va_iast (D := G.1) hx hb hK hP hD hS 3 0 rfl rfl hi8 dX11_coin_53 (fun H locs hP hD hS => ?_)
      have hP : va_P G.1 vwCl [o11 h a_now a_kept x_isKept a_reader a_flight a_latest, o6 a_now x_now_coins x_now_hands x_now_laws x_now_bytes x_now_sides a_now_edge a_now_bend a_now_rise a_now_wandering a_now_thrown a_now_alike a_now_law a_now_tape a_now_side, aI G a_now_bend 6 f_now_bend, aI G a_now_edge 6 (upd f_now_edge x_now_coins.toNatClampNeg l1)] H := hP
      have hD : va_D A [o11 h a_now a_kept x_isKept a_reader a_flight a_latest, o6 a_now x_now_coins x_now_hands x_now_laws x_now_bytes x_now_sides a_now_edge a_now_bend a_now_rise a_now_wandering a_now_thrown a_now_alike a_now_law a_now_tape a_now_side, aI G a_now_bend 6 f_now_bend, aI G a_now_edge 6 (upd f_now_edge x_now_coins.toNatClampNeg l1)] := hD
      refine lv_aload_n hx hb dX11_coin_54 rfl (lv_at hl 0 rfl) ?_
      refine va_get (D := G.1) (ci := 11) (v := .ref a_now) (C := RX11) (T := TX11) (N := 6) hx hb hts hin11 hown hK hP 0 rfl rfl 0 (by decide) lk_12 (fun _ h9 => h9) rfl dX11_coin_55 ?_
      refine va_getN (D := G.1) (ci := 6) (v := .ref a_now_bend) (C := RX6) (T := TX6) (N := 14) hx hb hts hin6 hown hK hP 1 rfl rfl 6 (by decide) lk_54 (fun _ h9 => h9) rfl dX11_coin_58 ?_
      refine lv_aload_n hx hb dX11_coin_61 rfl (lv_at hl 0 rfl) ?_
      refine W.eq (g2 := F0 m 62 ls [.ref h, .ref a_now_bend]) rfl ?_
      refine va_get (D := G.1) (ci := 11) (v := .ref a_now) (C := RX11) (T := TX11) (N := 6) hx hb hts hin11 hown hK hP 0 rfl rfl 0 (by decide) lk_12 (fun _ h9 => h9) rfl dX11_coin_62 ?_
      refine va_getN (D := G.1) (ci := 6) (v := .int x_now_coins) (C := RX6) (T := TX6) (N := 14) hx hb hts hin6 hown hK hP 1 rfl rfl 0 (by decide) lk_46 (fun _ h9 => h9) rfl dX11_coin_65 ?_
      refine lv_iload_n hx hb dX11_coin_68 rfl (lv_at hl 2 rfl) ?_
      refine va_iast (D := G.1) hx hb hK hP hD hS 2 0 rfl rfl hi8 dX11_coin_69 (fun H locs hP hD hS => ?_)
      have hP : va_P G.1 vwCl [o11 h a_now a_kept x_isKept a_reader a_flight a_latest, o6 a_now x_now_coins x_now_hands x_now_laws x_now_bytes x_now_sides a_now_edge a_now_bend a_now_rise a_now_wandering a_now_thrown a_now_alike a_now_law a_now_tape a_now_side, aI G a_now_bend 6 (upd f_now_bend x_now_coins.toNatClampNeg l2), aI G a_now_edge 6 (upd f_now_edge x_now_coins.toNatClampNeg l1)] H := hP
      have hD : va_D A [o11 h a_now a_kept x_isKept a_reader a_flight a_latest, o6 a_now x_now_coins x_now_hands x_now_laws x_now_bytes x_now_sides a_now_edge a_now_bend a_now_rise a_now_wandering a_now_thrown a_now_alike a_now_law a_now_tape a_now_side, aI G a_now_bend 6 (upd f_now_bend x_now_coins.toNatClampNeg l2), aI G a_now_edge 6 (upd f_now_edge x_now_coins.toNatClampNeg l1)] := hD
      refine lv_aload_n hx hb dX11_coin_70 rfl (lv_at hl 0 rfl) ?_
      refine va_get (D := G.1) (ci := 11) (v := .ref a_now) (C := RX11) (T := TX11) (N := 6) hx hb hts hin11 hown hK hP 0 rfl rfl 0 (by decide) lk_12 (fun _ h9 => h9) rfl dX11_coin_71 ?_
      refine lv_dup hx hb dX11_coin_74 rfl ?_
      refine va_getN (D := G.1) (ci := 6) (v := .int x_now_coins) (C := RX6) (T := TX6) (N := 14) hx hb hts hin6 hown hK hP 1 rfl rfl 0 (by decide) lk_46 (fun _ h9 => h9) rfl dX11_coin_75 ?_
      refine lv_dup_x1 hx hb dX11_coin_78 rfl rfl ?_
      refine lv_iconst (v := 1) hx hb dX11_coin_79 (by decide) ?_
      refine lv_iadd hx hb dX11_coin_80 ?_
      refine va_putN (D := G.1) (ci := 6) (v := .int (x_now_coins + 1)) (ty := .int) (C := RX6) (T := TX6) (N := 14) hx hb hts hin6 tyX6 tyX6_ok nmX6 hown hK hP hD hS 1 rfl rfl 0 (by decide) lk_46 (fun _ h9 => h9) rfl (tyX6_ok 0 (by decide)) rfl rfl (Nat.le_of_ble_eq_true rfl) dX11_coin_81 (fun H locs hP hD hS => ?_)
      have hP : va_P G.1 vwCl [o11 h a_now a_kept x_isKept a_reader a_flight a_latest, o6 a_now (x_now_coins + 1) x_now_hands x_now_laws x_now_bytes x_now_sides a_now_edge a_now_bend a_now_rise a_now_wandering a_now_thrown a_now_alike a_now_law a_now_tape a_now_side, aI G a_now_bend 6 (upd f_now_bend x_now_coins.toNatClampNeg l2), aI G a_now_edge 6 (upd f_now_edge x_now_coins.toNatClampNeg l1)] H := hP
      have hD : va_D A [o11 h a_now a_kept x_isKept a_reader a_flight a_latest, o6 a_now (x_now_coins + 1) x_now_hands x_now_laws x_now_bytes x_now_sides a_now_edge a_now_bend a_now_rise a_now_wandering a_now_thrown a_now_alike a_now_law a_now_tape a_now_side, aI G a_now_bend 6 (upd f_now_bend x_now_coins.toNatClampNeg l2), aI G a_now_edge 6 (upd f_now_edge x_now_coins.toNatClampNeg l1)] := hD
      injection hF with hz
      injection hz with hq0 hz
      injection hz with hq1 hz
      injection hz with hq2 hz
      subst hq0
      subst hq1
      subst hq2
      subst hz
      exact cm_reti hx hb hr rfl hlk hK hP hD hS dX11_coin_84
    rw [if_neg c7] at hF
    refine lv_bipush (v := (-4)) hx hb dX11_coin_35 (by decide) ?_
    injection hF with hz
    injection hz with hq0 hz
    injection hz with hq1 hz
    injection hz with hq2 hz
    subst hq0
    subst hq1
    subst hq2
    subst hz
    exact cm_reti hx hb hr rfl hlk hK hP hD hS dX11_coin_37
  rw [if_pos c6] at hF
  refine lv_bipush (v := (-2)) hx hb dX11_coin_20 (by decide) ?_
  injection hF with hz
  injection hz with hq0 hz
  injection hz with hq1 hz
  injection hz with hq2 hz
  subst hq0
  subst hq1
  subst hq2
  subst hz
  exact cm_reti hx hb hr rfl hlk hK hP hD hS dX11_coin_22

/-! HeadsByHair.hand(II)I -/
abbrev rm_X11_hand : Room := { frames := 1, cells := 0, slots := 0, locals := 22 }
set_option maxHeartbeats 4000000 in
set_option maxRecDepth 100000 in
theorem c_X11_hand (l : Launch) (G : GG) (h a_now a_kept a_reader a_flight a_latest a_now_edge a_now_bend a_now_rise a_now_wandering a_now_thrown a_now_alike a_now_law a_now_tape a_now_side : Nat) (x_isKept x_now_coins x_now_hands x_now_laws x_now_bytes x_now_sides : Int32) (f_now_rise : Nat → Int32) (f_now_wandering : Nat → Int32) (l1 : Int32) (l2 : Int32) (z : Int32) (z_x_now_hands : Int32) (z_f_now_rise : Nat → Int32) (z_f_now_wandering : Nat → Int32) (hF : fX11_hand x_now_hands f_now_rise f_now_wandering l1 l2 = some (z, z_x_now_hands, z_f_now_rise, z_f_now_wandering)) : CMi l yX11_hand wsX11_hand rm_X11_hand G [o11 h a_now a_kept x_isKept a_reader a_flight a_latest, o6 a_now x_now_coins x_now_hands x_now_laws x_now_bytes x_now_sides a_now_edge a_now_bend a_now_rise a_now_wandering a_now_thrown a_now_alike a_now_law a_now_tape a_now_side, aI G a_now_rise 6 f_now_rise, aI G a_now_wandering 6 f_now_wandering] [o11 h a_now a_kept x_isKept a_reader a_flight a_latest, o6 a_now x_now_coins z_x_now_hands x_now_laws x_now_bytes x_now_sides a_now_edge a_now_bend a_now_rise a_now_wandering a_now_thrown a_now_alike a_now_law a_now_tape a_now_side, aI G a_now_rise 6 z_f_now_rise, aI G a_now_wandering 6 z_f_now_wandering] [.ref h, .int l1, .int l2] z := by
  refine cm_start (cc := cX11_hand) (maxL := 3) (ret := (some .int)) (Qc := fun A => QI G [o11 h a_now a_kept x_isKept a_reader a_flight a_latest, o6 a_now x_now_coins z_x_now_hands x_now_laws x_now_bytes x_now_sides a_now_edge a_now_bend a_now_rise a_now_wandering a_now_thrown a_now_alike a_now_law a_now_tape a_now_side, aI G a_now_rise 6 z_f_now_rise, aI G a_now_wandering 6 z_f_now_wandering] z A) (by decide +kernel) rfl (Nat.le_of_ble_eq_true rfl) ?_
  intro p e s m args below meth c A hx hb hr hlk hml hown hnm hts hA H locs hP hK hD hE hS ls hl
  have hown : s.vm.findClass RX11 = some m.cls := hown
  have hl : lv_has ls 3 [(0, .ref h), (1, .int l1), (2, .int l2)] := hl
  have hin11 : ∀ w ∈ wsX110, w ∈ wsX11_hand := by decide +kernel
  have hin6 : ∀ w ∈ wsX60, w ∈ wsX11_hand := by decide +kernel
  have lk_12 := hts (.fieldLink RX11 12 "HeadsByHair" "now" "LHeadsByHair$Stock;") (by decide +kernel)
  have lk_57 := va_Nw.use (A := args) rfl (hE.nw (.fieldLinkNest "HeadsByHair" 57 "HeadsByHair$Stock" "hands" "I" "HeadsByHair") (by decide +kernel))
  have lk_60 := va_Nw.use (A := args) rfl (hE.nw (.fieldLinkNest "HeadsByHair" 60 "HeadsByHair$Stock" "rise" "[I" "HeadsByHair") (by decide +kernel))
  have lk_63 := va_Nw.use (A := args) rfl (hE.nw (.fieldLinkNest "HeadsByHair" 63 "HeadsByHair$Stock" "wandering" "[I" "HeadsByHair") (by decide +kernel))
  revert hF
  intro hF
  unfold fX11_hand at hF
  refine lv_iload_n hx hb dX11_hand_0 rfl (lv_at hl 1 rfl) ?_
  refine lv_iconst (v := 1) hx hb dX11_hand_1 (by decide) ?_
  refine lv_bipush (v := 30) hx hb dX11_hand_2 (by decide) ?_
  obtain ⟨r1, hc2, hF⟩ := bd_some hF
  have hPc := hP.sub (ws' := []) [] rfl
  have hDc := hD.sub (ws' := []) [] (by decide) rfl
  have hFc := va_free (wc := []) hD hS hA [] rfl
  have hM := c_X11_isWithin l G l1 (1 : Int32) (30 : Int32) r1 hc2 H.size
  refine cl_i (w1 := []) (ws' := [o11 h a_now a_kept x_isKept a_reader a_flight a_latest, o6 a_now x_now_coins x_now_hands x_now_laws x_now_bytes x_now_sides a_now_edge a_now_bend a_now_rise a_now_wandering a_now_thrown a_now_alike a_now_law a_now_tape a_now_side, aI G a_now_rise 6 f_now_rise, aI G a_now_wandering 6 f_now_wandering]) hP hD hS hFc [] rfl rfl rfl (va_runS (As := [.int l1, .int 1, .int 30]) (rest := []) ⟨hx, hb, hml, hown, hts⟩ hM (va_cwS 3 hts gX11_hand_X11_isWithin rfl rfl rfl (by decide +kernel) ⟨Nat.le_of_ble_eq_true rfl, Nat.le_of_ble_eq_true rfl⟩) (cp_S hK hE hS hPc hDc hFc) rfl rfl hl.1 rfl (lv_room (Nat.le_of_ble_eq_true rfl)) dX11_hand_4 ⟨Nat.zero_le _, Nat.zero_le _⟩) (fun H locs hP hD hS => ?_)
  refine lv_if_eq (tgt := 20) hx hb dX11_hand_7 (by decide) (fun c3 => ?_) (fun c3 => ?_)
  · rw [if_pos c3] at hF
    refine lv_bipush (v := (-2)) hx hb dX11_hand_20 (by decide) ?_
    injection hF with hz
    injection hz with hq0 hz
    injection hz with hq1 hz
    injection hz with hq2 hz
    subst hq0
    subst hq1
    subst hq2
    subst hz
    exact cm_reti hx hb hr rfl hlk hK hP hD hS dX11_hand_22
  rw [if_neg c3] at hF
  refine lv_iload_n hx hb dX11_hand_10 rfl (lv_at hl 2 rfl) ?_
  refine lv_iconst (v := 0) hx hb dX11_hand_11 (by decide) ?_
  refine lv_bipush (v := 9) hx hb dX11_hand_12 (by decide) ?_
  obtain ⟨r4, hc5, hF⟩ := bd_some hF
  have hPc := hP.sub (ws' := []) [] rfl
  have hDc := hD.sub (ws' := []) [] (by decide) rfl
  have hFc := va_free (wc := []) hD hS hA [] rfl
  have hM := c_X11_isWithin l G l2 (0 : Int32) (9 : Int32) r4 hc5 H.size
  refine cl_i (w1 := []) (ws' := [o11 h a_now a_kept x_isKept a_reader a_flight a_latest, o6 a_now x_now_coins x_now_hands x_now_laws x_now_bytes x_now_sides a_now_edge a_now_bend a_now_rise a_now_wandering a_now_thrown a_now_alike a_now_law a_now_tape a_now_side, aI G a_now_rise 6 f_now_rise, aI G a_now_wandering 6 f_now_wandering]) hP hD hS hFc [] rfl rfl rfl (va_runS (As := [.int l2, .int 0, .int 9]) (rest := []) ⟨hx, hb, hml, hown, hts⟩ hM (va_cwS 3 hts gX11_hand_X11_isWithin rfl rfl rfl (by decide +kernel) ⟨Nat.le_of_ble_eq_true rfl, Nat.le_of_ble_eq_true rfl⟩) (cp_S hK hE hS hPc hDc hFc) rfl rfl hl.1 rfl (lv_room (Nat.le_of_ble_eq_true rfl)) dX11_hand_14 ⟨Nat.zero_le _, Nat.zero_le _⟩) (fun H locs hP hD hS => ?_)
  refine lv_if_ne (tgt := 23) hx hb dX11_hand_17 (by decide) (fun c6 => ?_) (fun c6 => ?_)
  · rw [if_neg c6] at hF
    refine lv_aload_n hx hb dX11_hand_23 rfl (lv_at hl 0 rfl) ?_
    refine va_get (D := G.1) (ci := 11) (v := .ref a_now) (C := RX11) (T := TX11) (N := 6) hx hb hts hin11 hown hK hP 0 rfl rfl 0 (by decide) lk_12 (fun _ h9 => h9) rfl dX11_hand_24 ?_
    refine va_getN (D := G.1) (ci := 6) (v := .int x_now_hands) (C := RX6) (T := TX6) (N := 14) hx hb hts hin6 hown hK hP 1 rfl rfl 1 (by decide) lk_57 (fun _ h9 => h9) rfl dX11_hand_27 ?_
    refine W.eq (g2 := F0 m 30 ls [.int x_now_hands]) rfl ?_
    refine lv_bipush (v := 6) hx hb dX11_hand_30 (by decide) ?_
    refine lv_icmp_lt (tgt := 38) hx hb dX11_hand_32 (by decide) (fun c7 => ?_) (fun c7 => ?_)
    · rw [if_pos c7] at hF
      refine lv_aload_n hx hb dX11_hand_38 rfl (lv_at hl 0 rfl) ?_
      refine va_get (D := G.1) (ci := 11) (v := .ref a_now) (C := RX11) (T := TX11) (N := 6) hx hb hts hin11 hown hK hP 0 rfl rfl 0 (by decide) lk_12 (fun _ h9 => h9) rfl dX11_hand_39 ?_
      refine va_getN (D := G.1) (ci := 6) (v := .ref a_now_rise) (C := RX6) (T := TX6) (N := 14) hx hb hts hin6 hown hK hP 1 rfl rfl 7 (by decide) lk_60 (fun _ h9 => h9) rfl dX11_hand_42 ?_
      refine lv_aload_n hx hb dX11_hand_45 rfl (lv_at hl 0 rfl) ?_
      refine va_get (D := G.1) (ci := 11) (v := .ref a_now) (C := RX11) (T := TX11) (N := 6) hx hb hts hin11 hown hK hP 0 rfl rfl 0 (by decide) lk_12 (fun _ h9 => h9) rfl dX11_hand_46 ?_
      refine va_getN (D := G.1) (ci := 6) (v := .int x_now_hands) (C := RX6) (T := TX6) (N := 14) hx hb hts hin6 hown hK hP 1 rfl rfl 1 (by decide) lk_57 (fun _ h9 => h9) rfl dX11_hand_49 ?_
      refine lv_iload_n hx hb dX11_hand_52 rfl (lv_at hl 1 rfl) ?_
      obtain ⟨hi8, hF⟩ := ck_some hF
      refine va_iast (D := G.1) hx hb hK hP hD hS 2 0 rfl rfl hi8 dX11_hand_53 (fun H locs hP hD hS => ?_)
      have hP : va_P G.1 vwCl [o11 h a_now a_kept x_isKept a_reader a_flight a_latest, o6 a_now x_now_coins x_now_hands x_now_laws x_now_bytes x_now_sides a_now_edge a_now_bend a_now_rise a_now_wandering a_now_thrown a_now_alike a_now_law a_now_tape a_now_side, aI G a_now_rise 6 (upd f_now_rise x_now_hands.toNatClampNeg l1), aI G a_now_wandering 6 f_now_wandering] H := hP
      have hD : va_D A [o11 h a_now a_kept x_isKept a_reader a_flight a_latest, o6 a_now x_now_coins x_now_hands x_now_laws x_now_bytes x_now_sides a_now_edge a_now_bend a_now_rise a_now_wandering a_now_thrown a_now_alike a_now_law a_now_tape a_now_side, aI G a_now_rise 6 (upd f_now_rise x_now_hands.toNatClampNeg l1), aI G a_now_wandering 6 f_now_wandering] := hD
      refine lv_aload_n hx hb dX11_hand_54 rfl (lv_at hl 0 rfl) ?_
      refine va_get (D := G.1) (ci := 11) (v := .ref a_now) (C := RX11) (T := TX11) (N := 6) hx hb hts hin11 hown hK hP 0 rfl rfl 0 (by decide) lk_12 (fun _ h9 => h9) rfl dX11_hand_55 ?_
      refine va_getN (D := G.1) (ci := 6) (v := .ref a_now_wandering) (C := RX6) (T := TX6) (N := 14) hx hb hts hin6 hown hK hP 1 rfl rfl 8 (by decide) lk_63 (fun _ h9 => h9) rfl dX11_hand_58 ?_
      refine lv_aload_n hx hb dX11_hand_61 rfl (lv_at hl 0 rfl) ?_
      refine W.eq (g2 := F0 m 62 ls [.ref h, .ref a_now_wandering]) rfl ?_
      refine va_get (D := G.1) (ci := 11) (v := .ref a_now) (C := RX11) (T := TX11) (N := 6) hx hb hts hin11 hown hK hP 0 rfl rfl 0 (by decide) lk_12 (fun _ h9 => h9) rfl dX11_hand_62 ?_
      refine va_getN (D := G.1) (ci := 6) (v := .int x_now_hands) (C := RX6) (T := TX6) (N := 14) hx hb hts hin6 hown hK hP 1 rfl rfl 1 (by decide) lk_57 (fun _ h9 => h9) rfl dX11_hand_65 ?_
      refine lv_iload_n hx hb dX11_hand_68 rfl (lv_at hl 2 rfl) ?_
      refine va_iast (D := G.1) hx hb hK hP hD hS 3 0 rfl rfl hi8 dX11_hand_69 (fun H locs hP hD hS => ?_)
      have hP : va_P G.1 vwCl [o11 h a_now a_kept x_isKept a_reader a_flight a_latest, o6 a_now x_now_coins x_now_hands x_now_laws x_now_bytes x_now_sides a_now_edge a_now_bend a_now_rise a_now_wandering a_now_thrown a_now_alike a_now_law a_now_tape a_now_side, aI G a_now_rise 6 (upd f_now_rise x_now_hands.toNatClampNeg l1), aI G a_now_wandering 6 (upd f_now_wandering x_now_hands.toNatClampNeg l2)] H := hP
      have hD : va_D A [o11 h a_now a_kept x_isKept a_reader a_flight a_latest, o6 a_now x_now_coins x_now_hands x_now_laws x_now_bytes x_now_sides a_now_edge a_now_bend a_now_rise a_now_wandering a_now_thrown a_now_alike a_now_law a_now_tape a_now_side, aI G a_now_rise 6 (upd f_now_rise x_now_hands.toNatClampNeg l1), aI G a_now_wandering 6 (upd f_now_wandering x_now_hands.toNatClampNeg l2)] := hD
      refine lv_aload_n hx hb dX11_hand_70 rfl (lv_at hl 0 rfl) ?_
      refine va_get (D := G.1) (ci := 11) (v := .ref a_now) (C := RX11) (T := TX11) (N := 6) hx hb hts hin11 hown hK hP 0 rfl rfl 0 (by decide) lk_12 (fun _ h9 => h9) rfl dX11_hand_71 ?_
      refine lv_dup hx hb dX11_hand_74 rfl ?_
      refine va_getN (D := G.1) (ci := 6) (v := .int x_now_hands) (C := RX6) (T := TX6) (N := 14) hx hb hts hin6 hown hK hP 1 rfl rfl 1 (by decide) lk_57 (fun _ h9 => h9) rfl dX11_hand_75 ?_
      refine lv_dup_x1 hx hb dX11_hand_78 rfl rfl ?_
      refine lv_iconst (v := 1) hx hb dX11_hand_79 (by decide) ?_
      refine lv_iadd hx hb dX11_hand_80 ?_
      refine va_putN (D := G.1) (ci := 6) (v := .int (x_now_hands + 1)) (ty := .int) (C := RX6) (T := TX6) (N := 14) hx hb hts hin6 tyX6 tyX6_ok nmX6 hown hK hP hD hS 1 rfl rfl 1 (by decide) lk_57 (fun _ h9 => h9) rfl (tyX6_ok 1 (by decide)) rfl rfl (Nat.le_of_ble_eq_true rfl) dX11_hand_81 (fun H locs hP hD hS => ?_)
      have hP : va_P G.1 vwCl [o11 h a_now a_kept x_isKept a_reader a_flight a_latest, o6 a_now x_now_coins (x_now_hands + 1) x_now_laws x_now_bytes x_now_sides a_now_edge a_now_bend a_now_rise a_now_wandering a_now_thrown a_now_alike a_now_law a_now_tape a_now_side, aI G a_now_rise 6 (upd f_now_rise x_now_hands.toNatClampNeg l1), aI G a_now_wandering 6 (upd f_now_wandering x_now_hands.toNatClampNeg l2)] H := hP
      have hD : va_D A [o11 h a_now a_kept x_isKept a_reader a_flight a_latest, o6 a_now x_now_coins (x_now_hands + 1) x_now_laws x_now_bytes x_now_sides a_now_edge a_now_bend a_now_rise a_now_wandering a_now_thrown a_now_alike a_now_law a_now_tape a_now_side, aI G a_now_rise 6 (upd f_now_rise x_now_hands.toNatClampNeg l1), aI G a_now_wandering 6 (upd f_now_wandering x_now_hands.toNatClampNeg l2)] := hD
      injection hF with hz
      injection hz with hq0 hz
      injection hz with hq1 hz
      injection hz with hq2 hz
      subst hq0
      subst hq1
      subst hq2
      subst hz
      exact cm_reti hx hb hr rfl hlk hK hP hD hS dX11_hand_84
    rw [if_neg c7] at hF
    refine lv_bipush (v := (-4)) hx hb dX11_hand_35 (by decide) ?_
    injection hF with hz
    injection hz with hq0 hz
    injection hz with hq1 hz
    injection hz with hq2 hz
    subst hq0
    subst hq1
    subst hq2
    subst hz
    exact cm_reti hx hb hr rfl hlk hK hP hD hS dX11_hand_37
  rw [if_pos c6] at hF
  refine lv_bipush (v := (-2)) hx hb dX11_hand_20 (by decide) ?_
  injection hF with hz
  injection hz with hq0 hz
  injection hz with hq1 hz
  injection hz with hq2 hz
  subst hq0
  subst hq1
  subst hq2
  subst hz
  exact cm_reti hx hb hr rfl hlk hK hP hD hS dX11_hand_22

/-! HeadsByHair.leaning(I)I -/
abbrev rm_X11_leaning : Room := { frames := 2, cells := 0, slots := 0, locals := 45 }
set_option maxHeartbeats 4000000 in
set_option maxRecDepth 100000 in
theorem c_X11_leaning (l : Launch) (G : GG) (h a_now a_kept a_reader a_flight a_latest a_now_edge a_now_bend a_now_rise a_now_wandering a_now_thrown a_now_alike a_now_law a_now_tape a_now_side : Nat) (x_isKept x_now_coins x_now_hands x_now_laws x_now_bytes x_now_sides : Int32) (f_now_alike : Nat → Int32) (f_now_thrown : Nat → Int32) (l1 : Int32) (z : Int32) (hF : fX11_leaning x_now_coins f_now_alike f_now_thrown l1 = some (z)) : CMi l yX11_leaning wsX11_leaning rm_X11_leaning G [o11 h a_now a_kept x_isKept a_reader a_flight a_latest, o6 a_now x_now_coins x_now_hands x_now_laws x_now_bytes x_now_sides a_now_edge a_now_bend a_now_rise a_now_wandering a_now_thrown a_now_alike a_now_law a_now_tape a_now_side, aI G a_now_alike 36 f_now_alike, aI G a_now_thrown 36 f_now_thrown] [o11 h a_now a_kept x_isKept a_reader a_flight a_latest, o6 a_now x_now_coins x_now_hands x_now_laws x_now_bytes x_now_sides a_now_edge a_now_bend a_now_rise a_now_wandering a_now_thrown a_now_alike a_now_law a_now_tape a_now_side, aI G a_now_alike 36 f_now_alike, aI G a_now_thrown 36 f_now_thrown] [.ref h, .int l1] z := by
  refine cm_start (cc := cX11_leaning) (maxL := 3) (ret := (some .int)) (Qc := fun A => QI G [o11 h a_now a_kept x_isKept a_reader a_flight a_latest, o6 a_now x_now_coins x_now_hands x_now_laws x_now_bytes x_now_sides a_now_edge a_now_bend a_now_rise a_now_wandering a_now_thrown a_now_alike a_now_law a_now_tape a_now_side, aI G a_now_alike 36 f_now_alike, aI G a_now_thrown 36 f_now_thrown] z A) (by decide +kernel) rfl (Nat.le_of_ble_eq_true rfl) ?_
  intro p e s m args below meth c A hx hb hr hlk hml hown hnm hts hA H locs hP hK hD hE hS ls hl
  have hown : s.vm.findClass RX11 = some m.cls := hown
  have hl : lv_has ls 3 [(0, .ref h), (1, .int l1)] := hl
  have hin11 : ∀ w ∈ wsX110, w ∈ wsX11_leaning := by decide +kernel
  have lk_12 := hts (.fieldLink RX11 12 "HeadsByHair" "now" "LHeadsByHair$Stock;") (by decide +kernel)
  revert hF
  intro hF
  unfold fX11_leaning at hF
  refine lv_aload_n hx hb dX11_leaning_0 rfl (lv_at hl 0 rfl) ?_
  refine va_get (D := G.1) (ci := 11) (v := .ref a_now) (C := RX11) (T := TX11) (N := 6) hx hb hts hin11 hown hK hP 0 rfl rfl 0 (by decide) lk_12 (fun _ h9 => h9) rfl dX11_leaning_1 ?_
  refine lv_iload_n hx hb dX11_leaning_4 rfl (lv_at hl 1 rfl) ?_
  obtain ⟨r1, hc2, hF⟩ := bd_some hF
  have hPc := hP.sub (ws' := [o6 a_now x_now_coins x_now_hands x_now_laws x_now_bytes x_now_sides a_now_edge a_now_bend a_now_rise a_now_wandering a_now_thrown a_now_alike a_now_law a_now_tape a_now_side, aI G a_now_thrown 36 f_now_thrown]) [1, 3] rfl
  have hDc := hD.sub (ws' := [o6 a_now x_now_coins x_now_hands x_now_laws x_now_bytes x_now_sides a_now_edge a_now_bend a_now_rise a_now_wandering a_now_thrown a_now_alike a_now_law a_now_tape a_now_side, aI G a_now_thrown 36 f_now_thrown]) [1, 3] (by decide) rfl
  have hFc := va_free (wc := [o6 a_now x_now_coins x_now_hands x_now_laws x_now_bytes x_now_sides a_now_edge a_now_bend a_now_rise a_now_wandering a_now_thrown a_now_alike a_now_law a_now_tape a_now_side, aI G a_now_thrown 36 f_now_thrown]) hD hS hA [1, 3] rfl
  have hM := c_X6_allThrown l G a_now a_now_edge a_now_bend a_now_rise a_now_wandering a_now_thrown a_now_alike a_now_law a_now_tape a_now_side x_now_coins x_now_hands x_now_laws x_now_bytes x_now_sides f_now_thrown l1 r1 hc2 H.size
  refine cl_i (w1 := [o6 a_now x_now_coins x_now_hands x_now_laws x_now_bytes x_now_sides a_now_edge a_now_bend a_now_rise a_now_wandering a_now_thrown a_now_alike a_now_law a_now_tape a_now_side, aI G a_now_thrown 36 f_now_thrown]) (ws' := [o11 h a_now a_kept x_isKept a_reader a_flight a_latest, o6 a_now x_now_coins x_now_hands x_now_laws x_now_bytes x_now_sides a_now_edge a_now_bend a_now_rise a_now_wandering a_now_thrown a_now_alike a_now_law a_now_tape a_now_side, aI G a_now_alike 36 f_now_alike, aI G a_now_thrown 36 f_now_thrown]) hP hD hS hFc [1, 3] rfl rfl rfl (va_runVN (As := [.int l1]) (rest := []) ⟨hx, hb, hml, hown, hts⟩ hM ⟨va_cnB 1 hts gX11_leaning_X6_allThrown_n74 rfl rfl rfl (hE.nw (.methodLinkNest RX11 74 yX6_allThrown "HeadsByHair") (by decide +kernel)) (hts (.initialized RX6) (by decide +kernel)) (by decide +kernel) ⟨Nat.le_of_ble_eq_true rfl, Nat.le_of_ble_eq_true rfl⟩, hts (.instanceMethod yX6_allThrown) (by decide +kernel), hts (.selects RX6 yX6_allThrown yX6_allThrown) (by decide +kernel)⟩ (cp_V hK hE hS hPc hDc hFc (va_recv hK hPc (ci := 6) (q0 := 0) rfl rfl)) rfl rfl hl.1 rfl (lv_room (Nat.le_of_ble_eq_true rfl)) dX11_leaning_5 ⟨Nat.zero_le _, Nat.zero_le _⟩) (fun H locs hP hD hS => ?_)
  refine lv_istore_n (lv' := [(2, .int r1), (0, .ref h), (1, .int l1)]) hx hb dX11_leaning_8 rfl hl (by decide) rfl (fun ls hl => ?_)
  refine lv_iload_n hx hb dX11_leaning_9 rfl (lv_at hl 0 rfl) ?_
  refine lv_if_ne (tgt := 18) hx hb dX11_leaning_10 (by decide) (fun c3 => ?_) (fun c3 => ?_)
  · rw [if_neg c3] at hF
    refine lv_sipush (v := 1000) hx hb dX11_leaning_18 (by decide) ?_
    refine lv_aload_n hx hb dX11_leaning_21 rfl (lv_at hl 1 rfl) ?_
    refine va_get (D := G.1) (ci := 11) (v := .ref a_now) (C := RX11) (T := TX11) (N := 6) hx hb hts hin11 hown hK hP 0 rfl rfl 0 (by decide) lk_12 (fun _ h9 => h9) rfl dX11_leaning_22 ?_
    refine lv_iload_n hx hb dX11_leaning_25 rfl (lv_at hl 2 rfl) ?_
    obtain ⟨r4, hc5, hF⟩ := bd_some hF
    have hPc := hP.sub (ws' := [o6 a_now x_now_coins x_now_hands x_now_laws x_now_bytes x_now_sides a_now_edge a_now_bend a_now_rise a_now_wandering a_now_thrown a_now_alike a_now_law a_now_tape a_now_side, aI G a_now_alike 36 f_now_alike]) [1, 2] rfl
    have hDc := hD.sub (ws' := [o6 a_now x_now_coins x_now_hands x_now_laws x_now_bytes x_now_sides a_now_edge a_now_bend a_now_rise a_now_wandering a_now_thrown a_now_alike a_now_law a_now_tape a_now_side, aI G a_now_alike 36 f_now_alike]) [1, 2] (by decide) rfl
    have hFc := va_free (wc := [o6 a_now x_now_coins x_now_hands x_now_laws x_now_bytes x_now_sides a_now_edge a_now_bend a_now_rise a_now_wandering a_now_thrown a_now_alike a_now_law a_now_tape a_now_side, aI G a_now_alike 36 f_now_alike]) hD hS hA [1, 2] rfl
    have hM := c_X6_allAlike l G a_now a_now_edge a_now_bend a_now_rise a_now_wandering a_now_thrown a_now_alike a_now_law a_now_tape a_now_side x_now_coins x_now_hands x_now_laws x_now_bytes x_now_sides f_now_alike l1 r4 hc5 H.size
    refine cl_i (w1 := [o6 a_now x_now_coins x_now_hands x_now_laws x_now_bytes x_now_sides a_now_edge a_now_bend a_now_rise a_now_wandering a_now_thrown a_now_alike a_now_law a_now_tape a_now_side, aI G a_now_alike 36 f_now_alike]) (ws' := [o11 h a_now a_kept x_isKept a_reader a_flight a_latest, o6 a_now x_now_coins x_now_hands x_now_laws x_now_bytes x_now_sides a_now_edge a_now_bend a_now_rise a_now_wandering a_now_thrown a_now_alike a_now_law a_now_tape a_now_side, aI G a_now_alike 36 f_now_alike, aI G a_now_thrown 36 f_now_thrown]) hP hD hS hFc [1, 2] rfl rfl rfl (va_runVN (As := [.int l1]) (rest := [.int 1000]) ⟨hx, hb, hml, hown, hts⟩ hM ⟨va_cnB 1 hts gX11_leaning_X6_allAlike_n77 rfl rfl rfl (hE.nw (.methodLinkNest RX11 77 yX6_allAlike "HeadsByHair") (by decide +kernel)) (hts (.initialized RX6) (by decide +kernel)) (by decide +kernel) ⟨Nat.le_of_ble_eq_true rfl, Nat.le_of_ble_eq_true rfl⟩, hts (.instanceMethod yX6_allAlike) (by decide +kernel), hts (.selects RX6 yX6_allAlike yX6_allAlike) (by decide +kernel)⟩ (cp_V hK hE hS hPc hDc hFc (va_recv hK hPc (ci := 6) (q0 := 0) rfl rfl)) rfl rfl hl.1 rfl (lv_room (Nat.le_of_ble_eq_true rfl)) dX11_leaning_26 ⟨Nat.zero_le _, Nat.zero_le _⟩) (fun H locs hP hD hS => ?_)
    refine lv_imul hx hb dX11_leaning_29 ?_
    refine W.eq (g2 := F0 m 30 ls [.int (1000 * r4)]) rfl ?_
    refine lv_iload_n hx hb dX11_leaning_30 rfl (lv_at hl 0 rfl) ?_
    obtain ⟨hz6, hF⟩ := ck_some hF
    refine lv_idiv hx hb dX11_leaning_31 hz6 ?_
    injection hF with hz
    subst hz
    exact cm_reti hx hb hr rfl hlk hK hP hD hS dX11_leaning_32
  rw [if_pos c3] at hF
  refine lv_bipush (v := (-5)) hx hb dX11_leaning_13 (by decide) ?_
  refine lv_goto (tgt := 32) hx hb dX11_leaning_15 (by decide) ?_
  injection hF with hz
  subst hz
  exact cm_reti hx hb hr rfl hlk hK hP hD hS dX11_leaning_32

/-! HeadsByHair.of(II)I -/
abbrev rm_X11_of : Room := { frames := 3, cells := 0, slots := 0, locals := 67 }
set_option maxHeartbeats 4000000 in
set_option maxRecDepth 100000 in
theorem c_X11_of (l : Launch) (G : GG) (h a_now a_kept a_reader a_flight a_latest a_now_edge a_now_bend a_now_rise a_now_wandering a_now_thrown a_now_alike a_now_law a_now_tape a_now_side : Nat) (x_isKept x_now_coins x_now_hands x_now_laws x_now_bytes x_now_sides : Int32) (f_now_alike : Nat → Int32) (f_now_rise : Nat → Int32) (f_now_thrown : Nat → Int32) (f_now_wandering : Nat → Int32) (l1 : Int32) (l2 : Int32) (z : Int32) (hF : fX11_of x_now_coins x_now_hands f_now_alike f_now_rise f_now_thrown f_now_wandering l1 l2 = some (z)) : CMi l yX11_of wsX11_of rm_X11_of G [o11 h a_now a_kept x_isKept a_reader a_flight a_latest, o6 a_now x_now_coins x_now_hands x_now_laws x_now_bytes x_now_sides a_now_edge a_now_bend a_now_rise a_now_wandering a_now_thrown a_now_alike a_now_law a_now_tape a_now_side, aI G a_now_alike 36 f_now_alike, aI G a_now_rise 6 f_now_rise, aI G a_now_thrown 36 f_now_thrown, aI G a_now_wandering 6 f_now_wandering] [o11 h a_now a_kept x_isKept a_reader a_flight a_latest, o6 a_now x_now_coins x_now_hands x_now_laws x_now_bytes x_now_sides a_now_edge a_now_bend a_now_rise a_now_wandering a_now_thrown a_now_alike a_now_law a_now_tape a_now_side, aI G a_now_alike 36 f_now_alike, aI G a_now_rise 6 f_now_rise, aI G a_now_thrown 36 f_now_thrown, aI G a_now_wandering 6 f_now_wandering] [.ref h, .int l1, .int l2] z := by
  refine cm_start (cc := cX11_of) (maxL := 3) (ret := (some .int)) (Qc := fun A => QI G [o11 h a_now a_kept x_isKept a_reader a_flight a_latest, o6 a_now x_now_coins x_now_hands x_now_laws x_now_bytes x_now_sides a_now_edge a_now_bend a_now_rise a_now_wandering a_now_thrown a_now_alike a_now_law a_now_tape a_now_side, aI G a_now_alike 36 f_now_alike, aI G a_now_rise 6 f_now_rise, aI G a_now_thrown 36 f_now_thrown, aI G a_now_wandering 6 f_now_wandering] z A) (by decide +kernel) rfl (Nat.le_of_ble_eq_true rfl) ?_
  intro p e s m args below meth c A hx hb hr hlk hml hown hnm hts hA H locs hP hK hD hE hS ls hl
  have hown : s.vm.findClass RX11 = some m.cls := hown
  have hl : lv_has ls 3 [(0, .ref h), (1, .int l1), (2, .int l2)] := hl
  have hin11 : ∀ w ∈ wsX110, w ∈ wsX11_of := by decide +kernel
  have hin6 : ∀ w ∈ wsX60, w ∈ wsX11_of := by decide +kernel
  have lk_12 := hts (.fieldLink RX11 12 "HeadsByHair" "now" "LHeadsByHair$Stock;") (by decide +kernel)
  have lk_60 := va_Nw.use (A := args) rfl (hE.nw (.fieldLinkNest "HeadsByHair" 60 "HeadsByHair$Stock" "rise" "[I" "HeadsByHair") (by decide +kernel))
  have lk_63 := va_Nw.use (A := args) rfl (hE.nw (.fieldLinkNest "HeadsByHair" 63 "HeadsByHair$Stock" "wandering" "[I" "HeadsByHair") (by decide +kernel))
  revert hF
  intro hF
  unfold fX11_of at hF
  refine lv_aload_n hx hb dX11_of_0 rfl (lv_at hl 0 rfl) ?_
  refine lv_iload_n hx hb dX11_of_1 rfl (lv_at hl 1 rfl) ?_
  obtain ⟨r1, hc2, hF⟩ := bd_some hF
  have hPc := hP.sub (ws' := [o11 h a_now a_kept x_isKept a_reader a_flight a_latest, o6 a_now x_now_coins x_now_hands x_now_laws x_now_bytes x_now_sides a_now_edge a_now_bend a_now_rise a_now_wandering a_now_thrown a_now_alike a_now_law a_now_tape a_now_side]) [0, 1] rfl
  have hDc := hD.sub (ws' := [o11 h a_now a_kept x_isKept a_reader a_flight a_latest, o6 a_now x_now_coins x_now_hands x_now_laws x_now_bytes x_now_sides a_now_edge a_now_bend a_now_rise a_now_wandering a_now_thrown a_now_alike a_now_law a_now_tape a_now_side]) [0, 1] (by decide) rfl
  have hFc := va_free (wc := [o11 h a_now a_kept x_isKept a_reader a_flight a_latest, o6 a_now x_now_coins x_now_hands x_now_laws x_now_bytes x_now_sides a_now_edge a_now_bend a_now_rise a_now_wandering a_now_thrown a_now_alike a_now_law a_now_tape a_now_side]) hD hS hA [0, 1] rfl
  have hM := c_X11_isHand l G h a_now a_kept a_reader a_flight a_latest a_now_edge a_now_bend a_now_rise a_now_wandering a_now_thrown a_now_alike a_now_law a_now_tape a_now_side x_isKept x_now_coins x_now_hands x_now_laws x_now_bytes x_now_sides l1 r1 hc2 H.size
  refine cl_i (w1 := [o11 h a_now a_kept x_isKept a_reader a_flight a_latest, o6 a_now x_now_coins x_now_hands x_now_laws x_now_bytes x_now_sides a_now_edge a_now_bend a_now_rise a_now_wandering a_now_thrown a_now_alike a_now_law a_now_tape a_now_side]) (ws' := [o11 h a_now a_kept x_isKept a_reader a_flight a_latest, o6 a_now x_now_coins x_now_hands x_now_laws x_now_bytes x_now_sides a_now_edge a_now_bend a_now_rise a_now_wandering a_now_thrown a_now_alike a_now_law a_now_tape a_now_side, aI G a_now_alike 36 f_now_alike, aI G a_now_rise 6 f_now_rise, aI G a_now_thrown 36 f_now_thrown, aI G a_now_wandering 6 f_now_wandering]) hP hD hS hFc [0, 1] rfl rfl rfl (va_runV (As := [.int l1]) (rest := []) ⟨hx, hb, hml, hown, hts⟩ hM (cwV 1 hts gX11_of_X11_isHand rfl rfl rfl (by decide +kernel) ⟨Nat.le_of_ble_eq_true rfl, Nat.le_of_ble_eq_true rfl⟩) (cp_V hK hE hS hPc hDc hFc (va_recv hK hPc (ci := 11) (q0 := 0) rfl rfl)) rfl rfl hl.1 rfl (lv_room (Nat.le_of_ble_eq_true rfl)) dX11_of_2 ⟨Nat.zero_le _, Nat.zero_le _⟩) (fun H locs hP hD hS => ?_)
  refine lv_if_ne (tgt := 10) hx hb dX11_of_5 (by decide) (fun c3 => ?_) (fun c3 => ?_)
  · rw [if_neg c3] at hF
    refine lv_iload_n hx hb dX11_of_10 rfl (lv_at hl 2 rfl) ?_
    by_cases c4 : l2 = 0
    · rw [if_pos c4] at hF
      refine lv_eqi c4 ?_
      refine lv_tableIn (tgt := 44) (off := 33) hx hb dX11_of_11 (by decide) (by decide) (by decide) (by decide) ?_
      refine lv_aload_n hx hb dX11_of_44 rfl (lv_at hl 0 rfl) ?_
      refine va_get (D := G.1) (ci := 11) (v := .ref a_now) (C := RX11) (T := TX11) (N := 6) hx hb hts hin11 hown hK hP 0 rfl rfl 0 (by decide) lk_12 (fun _ h9 => h9) rfl dX11_of_45 ?_
      refine va_getN (D := G.1) (ci := 6) (v := .ref a_now_rise) (C := RX6) (T := TX6) (N := 14) hx hb hts hin6 hown hK hP 1 rfl rfl 7 (by decide) lk_60 (fun _ h9 => h9) rfl dX11_of_48 ?_
      refine lv_iload_n hx hb dX11_of_51 rfl (lv_at hl 1 rfl) ?_
      obtain ⟨hi5, hF⟩ := ck_some hF
      refine va_iald (D := G.1) hx hb hK hP 3 0 rfl rfl hi5 dX11_of_52 ?_
      injection hF with hz
      subst hz
      exact cm_reti hx hb hr rfl hlk hK hP hD hS dX11_of_53
    rw [if_neg c4] at hF
    by_cases c6 : l2 = 1
    · rw [if_pos c6] at hF
      refine lv_eqi c6 ?_
      refine lv_tableIn (tgt := 54) (off := 43) hx hb dX11_of_11 (by decide) (by decide) (by decide) (by decide) ?_
      refine lv_aload_n hx hb dX11_of_54 rfl (lv_at hl 0 rfl) ?_
      refine va_get (D := G.1) (ci := 11) (v := .ref a_now) (C := RX11) (T := TX11) (N := 6) hx hb hts hin11 hown hK hP 0 rfl rfl 0 (by decide) lk_12 (fun _ h9 => h9) rfl dX11_of_55 ?_
      refine va_getN (D := G.1) (ci := 6) (v := .ref a_now_wandering) (C := RX6) (T := TX6) (N := 14) hx hb hts hin6 hown hK hP 1 rfl rfl 8 (by decide) lk_63 (fun _ h9 => h9) rfl dX11_of_58 ?_
      refine lv_iload_n hx hb dX11_of_61 rfl (lv_at hl 1 rfl) ?_
      obtain ⟨hi7, hF⟩ := ck_some hF
      refine va_iald (D := G.1) hx hb hK hP 5 0 rfl rfl hi7 dX11_of_62 ?_
      injection hF with hz
      subst hz
      exact cm_reti hx hb hr rfl hlk hK hP hD hS dX11_of_63
    rw [if_neg c6] at hF
    by_cases c8 : l2 = 2
    · rw [if_pos c8] at hF
      refine lv_eqi c8 ?_
      refine lv_tableIn (tgt := 64) (off := 53) hx hb dX11_of_11 (by decide) (by decide) (by decide) (by decide) ?_
      refine lv_aload_n hx hb dX11_of_64 rfl (lv_at hl 0 rfl) ?_
      refine lv_iload_n hx hb dX11_of_65 rfl (lv_at hl 1 rfl) ?_
      obtain ⟨r9, hc10, hF⟩ := bd_some hF
      have hPc := hP.sub (ws' := [o11 h a_now a_kept x_isKept a_reader a_flight a_latest, o6 a_now x_now_coins x_now_hands x_now_laws x_now_bytes x_now_sides a_now_edge a_now_bend a_now_rise a_now_wandering a_now_thrown a_now_alike a_now_law a_now_tape a_now_side, aI G a_now_alike 36 f_now_alike, aI G a_now_thrown 36 f_now_thrown]) [0, 1, 2, 4] rfl
      have hDc := hD.sub (ws' := [o11 h a_now a_kept x_isKept a_reader a_flight a_latest, o6 a_now x_now_coins x_now_hands x_now_laws x_now_bytes x_now_sides a_now_edge a_now_bend a_now_rise a_now_wandering a_now_thrown a_now_alike a_now_law a_now_tape a_now_side, aI G a_now_alike 36 f_now_alike, aI G a_now_thrown 36 f_now_thrown]) [0, 1, 2, 4] (by decide) rfl
      have hFc := va_free (wc := [o11 h a_now a_kept x_isKept a_reader a_flight a_latest, o6 a_now x_now_coins x_now_hands x_now_laws x_now_bytes x_now_sides a_now_edge a_now_bend a_now_rise a_now_wandering a_now_thrown a_now_alike a_now_law a_now_tape a_now_side, aI G a_now_alike 36 f_now_alike, aI G a_now_thrown 36 f_now_thrown]) hD hS hA [0, 1, 2, 4] rfl
      have hM := c_X11_leaning l G h a_now a_kept a_reader a_flight a_latest a_now_edge a_now_bend a_now_rise a_now_wandering a_now_thrown a_now_alike a_now_law a_now_tape a_now_side x_isKept x_now_coins x_now_hands x_now_laws x_now_bytes x_now_sides f_now_alike f_now_thrown l1 r9 hc10 H.size
      refine cl_i (w1 := [o11 h a_now a_kept x_isKept a_reader a_flight a_latest, o6 a_now x_now_coins x_now_hands x_now_laws x_now_bytes x_now_sides a_now_edge a_now_bend a_now_rise a_now_wandering a_now_thrown a_now_alike a_now_law a_now_tape a_now_side, aI G a_now_alike 36 f_now_alike, aI G a_now_thrown 36 f_now_thrown]) (ws' := [o11 h a_now a_kept x_isKept a_reader a_flight a_latest, o6 a_now x_now_coins x_now_hands x_now_laws x_now_bytes x_now_sides a_now_edge a_now_bend a_now_rise a_now_wandering a_now_thrown a_now_alike a_now_law a_now_tape a_now_side, aI G a_now_alike 36 f_now_alike, aI G a_now_rise 6 f_now_rise, aI G a_now_thrown 36 f_now_thrown, aI G a_now_wandering 6 f_now_wandering]) hP hD hS hFc [0, 1, 2, 4] rfl rfl rfl (va_runV (As := [.int l1]) (rest := []) ⟨hx, hb, hml, hown, hts⟩ hM (cwV 1 hts gX11_of_X11_leaning rfl rfl rfl (by decide +kernel) ⟨Nat.le_of_ble_eq_true rfl, Nat.le_of_ble_eq_true rfl⟩) (cp_V hK hE hS hPc hDc hFc (va_recv hK hPc (ci := 11) (q0 := 0) rfl rfl)) rfl rfl hl.1 rfl (lv_room (Nat.le_of_ble_eq_true rfl)) dX11_of_66 ⟨Nat.zero_le _, Nat.zero_le _⟩) (fun H locs hP hD hS => ?_)
      injection hF with hz
      subst hz
      exact cm_reti hx hb hr rfl hlk hK hP hD hS dX11_of_69
    rw [if_neg c8] at hF
    by_cases c11 : l2 = 3
    · rw [if_pos c11] at hF
      refine lv_eqi c11 ?_
      refine lv_tableIn (tgt := 70) (off := 59) hx hb dX11_of_11 (by decide) (by decide) (by decide) (by decide) ?_
      refine lv_aload_n hx hb dX11_of_70 rfl (lv_at hl 0 rfl) ?_
      refine va_get (D := G.1) (ci := 11) (v := .ref a_now) (C := RX11) (T := TX11) (N := 6) hx hb hts hin11 hown hK hP 0 rfl rfl 0 (by decide) lk_12 (fun _ h9 => h9) rfl dX11_of_71 ?_
      refine lv_iload_n hx hb dX11_of_74 rfl (lv_at hl 1 rfl) ?_
      obtain ⟨r12, hc13, hF⟩ := bd_some hF
      have hPc := hP.sub (ws' := [o6 a_now x_now_coins x_now_hands x_now_laws x_now_bytes x_now_sides a_now_edge a_now_bend a_now_rise a_now_wandering a_now_thrown a_now_alike a_now_law a_now_tape a_now_side, aI G a_now_thrown 36 f_now_thrown]) [1, 4] rfl
      have hDc := hD.sub (ws' := [o6 a_now x_now_coins x_now_hands x_now_laws x_now_bytes x_now_sides a_now_edge a_now_bend a_now_rise a_now_wandering a_now_thrown a_now_alike a_now_law a_now_tape a_now_side, aI G a_now_thrown 36 f_now_thrown]) [1, 4] (by decide) rfl
      have hFc := va_free (wc := [o6 a_now x_now_coins x_now_hands x_now_laws x_now_bytes x_now_sides a_now_edge a_now_bend a_now_rise a_now_wandering a_now_thrown a_now_alike a_now_law a_now_tape a_now_side, aI G a_now_thrown 36 f_now_thrown]) hD hS hA [1, 4] rfl
      have hM := c_X6_allThrown l G a_now a_now_edge a_now_bend a_now_rise a_now_wandering a_now_thrown a_now_alike a_now_law a_now_tape a_now_side x_now_coins x_now_hands x_now_laws x_now_bytes x_now_sides f_now_thrown l1 r12 hc13 H.size
      refine cl_i (w1 := [o6 a_now x_now_coins x_now_hands x_now_laws x_now_bytes x_now_sides a_now_edge a_now_bend a_now_rise a_now_wandering a_now_thrown a_now_alike a_now_law a_now_tape a_now_side, aI G a_now_thrown 36 f_now_thrown]) (ws' := [o11 h a_now a_kept x_isKept a_reader a_flight a_latest, o6 a_now x_now_coins x_now_hands x_now_laws x_now_bytes x_now_sides a_now_edge a_now_bend a_now_rise a_now_wandering a_now_thrown a_now_alike a_now_law a_now_tape a_now_side, aI G a_now_alike 36 f_now_alike, aI G a_now_rise 6 f_now_rise, aI G a_now_thrown 36 f_now_thrown, aI G a_now_wandering 6 f_now_wandering]) hP hD hS hFc [1, 4] rfl rfl rfl (va_runVN (As := [.int l1]) (rest := []) ⟨hx, hb, hml, hown, hts⟩ hM ⟨va_cnB 1 hts gX11_of_X6_allThrown_n74 rfl rfl rfl (hE.nw (.methodLinkNest RX11 74 yX6_allThrown "HeadsByHair") (by decide +kernel)) (hts (.initialized RX6) (by decide +kernel)) (by decide +kernel) ⟨Nat.le_of_ble_eq_true rfl, Nat.le_of_ble_eq_true rfl⟩, hts (.instanceMethod yX6_allThrown) (by decide +kernel), hts (.selects RX6 yX6_allThrown yX6_allThrown) (by decide +kernel)⟩ (cp_V hK hE hS hPc hDc hFc (va_recv hK hPc (ci := 6) (q0 := 0) rfl rfl)) rfl rfl hl.1 rfl (lv_room (Nat.le_of_ble_eq_true rfl)) dX11_of_75 ⟨Nat.zero_le _, Nat.zero_le _⟩) (fun H locs hP hD hS => ?_)
      injection hF with hz
      subst hz
      exact cm_reti hx hb hr rfl hlk hK hP hD hS dX11_of_78
    rw [if_neg c11] at hF
    by_cases c14 : l2 = 4
    · rw [if_pos c14] at hF
      refine lv_eqi c14 ?_
      refine lv_tableIn (tgt := 79) (off := 68) hx hb dX11_of_11 (by decide) (by decide) (by decide) (by decide) ?_
      refine lv_aload_n hx hb dX11_of_79 rfl (lv_at hl 0 rfl) ?_
      refine va_get (D := G.1) (ci := 11) (v := .ref a_now) (C := RX11) (T := TX11) (N := 6) hx hb hts hin11 hown hK hP 0 rfl rfl 0 (by decide) lk_12 (fun _ h9 => h9) rfl dX11_of_80 ?_
      refine lv_iload_n hx hb dX11_of_83 rfl (lv_at hl 1 rfl) ?_
      obtain ⟨r15, hc16, hF⟩ := bd_some hF
      have hPc := hP.sub (ws' := [o6 a_now x_now_coins x_now_hands x_now_laws x_now_bytes x_now_sides a_now_edge a_now_bend a_now_rise a_now_wandering a_now_thrown a_now_alike a_now_law a_now_tape a_now_side, aI G a_now_alike 36 f_now_alike]) [1, 2] rfl
      have hDc := hD.sub (ws' := [o6 a_now x_now_coins x_now_hands x_now_laws x_now_bytes x_now_sides a_now_edge a_now_bend a_now_rise a_now_wandering a_now_thrown a_now_alike a_now_law a_now_tape a_now_side, aI G a_now_alike 36 f_now_alike]) [1, 2] (by decide) rfl
      have hFc := va_free (wc := [o6 a_now x_now_coins x_now_hands x_now_laws x_now_bytes x_now_sides a_now_edge a_now_bend a_now_rise a_now_wandering a_now_thrown a_now_alike a_now_law a_now_tape a_now_side, aI G a_now_alike 36 f_now_alike]) hD hS hA [1, 2] rfl
      have hM := c_X6_allAlike l G a_now a_now_edge a_now_bend a_now_rise a_now_wandering a_now_thrown a_now_alike a_now_law a_now_tape a_now_side x_now_coins x_now_hands x_now_laws x_now_bytes x_now_sides f_now_alike l1 r15 hc16 H.size
      refine cl_i (w1 := [o6 a_now x_now_coins x_now_hands x_now_laws x_now_bytes x_now_sides a_now_edge a_now_bend a_now_rise a_now_wandering a_now_thrown a_now_alike a_now_law a_now_tape a_now_side, aI G a_now_alike 36 f_now_alike]) (ws' := [o11 h a_now a_kept x_isKept a_reader a_flight a_latest, o6 a_now x_now_coins x_now_hands x_now_laws x_now_bytes x_now_sides a_now_edge a_now_bend a_now_rise a_now_wandering a_now_thrown a_now_alike a_now_law a_now_tape a_now_side, aI G a_now_alike 36 f_now_alike, aI G a_now_rise 6 f_now_rise, aI G a_now_thrown 36 f_now_thrown, aI G a_now_wandering 6 f_now_wandering]) hP hD hS hFc [1, 2] rfl rfl rfl (va_runVN (As := [.int l1]) (rest := []) ⟨hx, hb, hml, hown, hts⟩ hM ⟨va_cnB 1 hts gX11_of_X6_allAlike_n77 rfl rfl rfl (hE.nw (.methodLinkNest RX11 77 yX6_allAlike "HeadsByHair") (by decide +kernel)) (hts (.initialized RX6) (by decide +kernel)) (by decide +kernel) ⟨Nat.le_of_ble_eq_true rfl, Nat.le_of_ble_eq_true rfl⟩, hts (.instanceMethod yX6_allAlike) (by decide +kernel), hts (.selects RX6 yX6_allAlike yX6_allAlike) (by decide +kernel)⟩ (cp_V hK hE hS hPc hDc hFc (va_recv hK hPc (ci := 6) (q0 := 0) rfl rfl)) rfl rfl hl.1 rfl (lv_room (Nat.le_of_ble_eq_true rfl)) dX11_of_84 ⟨Nat.zero_le _, Nat.zero_le _⟩) (fun H locs hP hD hS => ?_)
      injection hF with hz
      subst hz
      exact cm_reti hx hb hr rfl hlk hK hP hD hS dX11_of_87
    rw [if_neg c14] at hF
    refine lv_tableOut (tgt := 88) hx hb dX11_of_11 (by have a0 := lv_neT (k := 0) (a := 0) c4 (by decide); have a1 := lv_neT (k := 1) (a := 1) c6 (by decide); have a2 := lv_neT (k := 2) (a := 2) c8 (by decide); have a3 := lv_neT (k := 3) (a := 3) c11 (by decide); have a4 := lv_neT (k := 4) (a := 4) c14 (by decide); omega) (by decide) ?_
    refine lv_iconst (v := (-1)) hx hb dX11_of_88 (by decide) ?_
    injection hF with hz
    subst hz
    exact cm_reti hx hb hr rfl hlk hK hP hD hS dX11_of_89
  rw [if_pos c3] at hF
  refine lv_iconst (v := (-1)) hx hb dX11_of_8 (by decide) ?_
  injection hF with hz
  subst hz
  exact cm_reti hx hb hr rfl hlk hK hP hD hS dX11_of_9

/-! HeadsByHair.counts(IIII)I -/
abbrev rm_X11_counts : Room := { frames := 2, cells := 0, slots := 0, locals := 43 }
set_option maxHeartbeats 4000000 in
set_option maxRecDepth 100000 in
theorem c_X11_counts (l : Launch) (G : GG) (h a_now a_kept a_reader a_flight a_latest a_now_edge a_now_bend a_now_rise a_now_wandering a_now_thrown a_now_alike a_now_law a_now_tape a_now_side : Nat) (x_isKept x_now_coins x_now_hands x_now_laws x_now_bytes x_now_sides : Int32) (f_now_alike : Nat → Int32) (f_now_thrown : Nat → Int32) (l1 : Int32) (l2 : Int32) (l3 : Int32) (l4 : Int32) (z : Int32) (z_f_now_alike : Nat → Int32) (z_f_now_thrown : Nat → Int32) (hF : fX11_counts x_now_coins x_now_hands f_now_alike f_now_thrown l1 l2 l3 l4 = some (z, z_f_now_alike, z_f_now_thrown)) : CMi l yX11_counts wsX11_counts rm_X11_counts G [o11 h a_now a_kept x_isKept a_reader a_flight a_latest, o6 a_now x_now_coins x_now_hands x_now_laws x_now_bytes x_now_sides a_now_edge a_now_bend a_now_rise a_now_wandering a_now_thrown a_now_alike a_now_law a_now_tape a_now_side, aI G a_now_alike 36 f_now_alike, aI G a_now_thrown 36 f_now_thrown] [o11 h a_now a_kept x_isKept a_reader a_flight a_latest, o6 a_now x_now_coins x_now_hands x_now_laws x_now_bytes x_now_sides a_now_edge a_now_bend a_now_rise a_now_wandering a_now_thrown a_now_alike a_now_law a_now_tape a_now_side, aI G a_now_alike 36 z_f_now_alike, aI G a_now_thrown 36 z_f_now_thrown] [.ref h, .int l1, .int l2, .int l3, .int l4] z := by
  refine cm_start (cc := cX11_counts) (maxL := 7) (ret := (some .int)) (Qc := fun A => QI G [o11 h a_now a_kept x_isKept a_reader a_flight a_latest, o6 a_now x_now_coins x_now_hands x_now_laws x_now_bytes x_now_sides a_now_edge a_now_bend a_now_rise a_now_wandering a_now_thrown a_now_alike a_now_law a_now_tape a_now_side, aI G a_now_alike 36 z_f_now_alike, aI G a_now_thrown 36 z_f_now_thrown] z A) (by decide +kernel) rfl (Nat.le_of_ble_eq_true rfl) ?_
  intro p e s m args below meth c A hx hb hr hlk hml hown hnm hts hA H locs hP hK hD hE hS ls hl
  have hown : s.vm.findClass RX11 = some m.cls := hown
  have hl : lv_has ls 7 [(0, .ref h), (1, .int l1), (2, .int l2), (3, .int l3), (4, .int l4)] := hl
  have hin11 : ∀ w ∈ wsX110, w ∈ wsX11_counts := by decide +kernel
  have hin6 : ∀ w ∈ wsX60, w ∈ wsX11_counts := by decide +kernel
  have lk_12 := hts (.fieldLink RX11 12 "HeadsByHair" "now" "LHeadsByHair$Stock;") (by decide +kernel)
  have lk_83 := va_Nw.use (A := args) rfl (hE.nw (.fieldLinkNest "HeadsByHair" 83 "HeadsByHair$Stock" "thrown" "[I" "HeadsByHair") (by decide +kernel))
  have lk_86 := va_Nw.use (A := args) rfl (hE.nw (.fieldLinkNest "HeadsByHair" 86 "HeadsByHair$Stock" "alike" "[I" "HeadsByHair") (by decide +kernel))
  revert hF
  intro hF
  unfold fX11_counts at hF
  refine lv_aload_n hx hb dX11_counts_0 rfl (lv_at hl 0 rfl) ?_
  refine lv_iload_n hx hb dX11_counts_1 rfl (lv_at hl 1 rfl) ?_
  obtain ⟨r1, hc2, hF⟩ := bd_some hF
  have hPc := hP.sub (ws' := [o11 h a_now a_kept x_isKept a_reader a_flight a_latest, o6 a_now x_now_coins x_now_hands x_now_laws x_now_bytes x_now_sides a_now_edge a_now_bend a_now_rise a_now_wandering a_now_thrown a_now_alike a_now_law a_now_tape a_now_side]) [0, 1] rfl
  have hDc := hD.sub (ws' := [o11 h a_now a_kept x_isKept a_reader a_flight a_latest, o6 a_now x_now_coins x_now_hands x_now_laws x_now_bytes x_now_sides a_now_edge a_now_bend a_now_rise a_now_wandering a_now_thrown a_now_alike a_now_law a_now_tape a_now_side]) [0, 1] (by decide) rfl
  have hFc := va_free (wc := [o11 h a_now a_kept x_isKept a_reader a_flight a_latest, o6 a_now x_now_coins x_now_hands x_now_laws x_now_bytes x_now_sides a_now_edge a_now_bend a_now_rise a_now_wandering a_now_thrown a_now_alike a_now_law a_now_tape a_now_side]) hD hS hA [0, 1] rfl
  have hM := c_X11_isHand l G h a_now a_kept a_reader a_flight a_latest a_now_edge a_now_bend a_now_rise a_now_wandering a_now_thrown a_now_alike a_now_law a_now_tape a_now_side x_isKept x_now_coins x_now_hands x_now_laws x_now_bytes x_now_sides l1 r1 hc2 H.size
  refine cl_i (w1 := [o11 h a_now a_kept x_isKept a_reader a_flight a_latest, o6 a_now x_now_coins x_now_hands x_now_laws x_now_bytes x_now_sides a_now_edge a_now_bend a_now_rise a_now_wandering a_now_thrown a_now_alike a_now_law a_now_tape a_now_side]) (ws' := [o11 h a_now a_kept x_isKept a_reader a_flight a_latest, o6 a_now x_now_coins x_now_hands x_now_laws x_now_bytes x_now_sides a_now_edge a_now_bend a_now_rise a_now_wandering a_now_thrown a_now_alike a_now_law a_now_tape a_now_side, aI G a_now_alike 36 f_now_alike, aI G a_now_thrown 36 f_now_thrown]) hP hD hS hFc [0, 1] rfl rfl rfl (va_runV (As := [.int l1]) (rest := []) ⟨hx, hb, hml, hown, hts⟩ hM (cwV 1 hts gX11_counts_X11_isHand rfl rfl rfl (by decide +kernel) ⟨Nat.le_of_ble_eq_true rfl, Nat.le_of_ble_eq_true rfl⟩) (cp_V hK hE hS hPc hDc hFc (va_recv hK hPc (ci := 11) (q0 := 0) rfl rfl)) rfl rfl hl.1 rfl (lv_room (Nat.le_of_ble_eq_true rfl)) dX11_counts_2 ⟨Nat.zero_le _, Nat.zero_le _⟩) (fun H locs hP hD hS => ?_)
  refine lv_if_eq (tgt := 16) hx hb dX11_counts_5 (by decide) (fun c3 => ?_) (fun c3 => ?_)
  · rw [if_pos c3] at hF
    refine lv_iconst (v := (-1)) hx hb dX11_counts_16 (by decide) ?_
    injection hF with hz
    injection hz with hq0 hz
    injection hz with hq1 hz
    subst hq0
    subst hq1
    subst hz
    exact cm_reti hx hb hr rfl hlk hK hP hD hS dX11_counts_17
  rw [if_neg c3] at hF
  refine lv_aload_n hx hb dX11_counts_8 rfl (lv_at hl 0 rfl) ?_
  refine lv_iload_n hx hb dX11_counts_9 rfl (lv_at hl 2 rfl) ?_
  obtain ⟨r4, hc5, hF⟩ := bd_some hF
  have hPc := hP.sub (ws' := [o11 h a_now a_kept x_isKept a_reader a_flight a_latest, o6 a_now x_now_coins x_now_hands x_now_laws x_now_bytes x_now_sides a_now_edge a_now_bend a_now_rise a_now_wandering a_now_thrown a_now_alike a_now_law a_now_tape a_now_side]) [0, 1] rfl
  have hDc := hD.sub (ws' := [o11 h a_now a_kept x_isKept a_reader a_flight a_latest, o6 a_now x_now_coins x_now_hands x_now_laws x_now_bytes x_now_sides a_now_edge a_now_bend a_now_rise a_now_wandering a_now_thrown a_now_alike a_now_law a_now_tape a_now_side]) [0, 1] (by decide) rfl
  have hFc := va_free (wc := [o11 h a_now a_kept x_isKept a_reader a_flight a_latest, o6 a_now x_now_coins x_now_hands x_now_laws x_now_bytes x_now_sides a_now_edge a_now_bend a_now_rise a_now_wandering a_now_thrown a_now_alike a_now_law a_now_tape a_now_side]) hD hS hA [0, 1] rfl
  have hM := c_X11_isCoin l G h a_now a_kept a_reader a_flight a_latest a_now_edge a_now_bend a_now_rise a_now_wandering a_now_thrown a_now_alike a_now_law a_now_tape a_now_side x_isKept x_now_coins x_now_hands x_now_laws x_now_bytes x_now_sides l2 r4 hc5 H.size
  refine cl_i (w1 := [o11 h a_now a_kept x_isKept a_reader a_flight a_latest, o6 a_now x_now_coins x_now_hands x_now_laws x_now_bytes x_now_sides a_now_edge a_now_bend a_now_rise a_now_wandering a_now_thrown a_now_alike a_now_law a_now_tape a_now_side]) (ws' := [o11 h a_now a_kept x_isKept a_reader a_flight a_latest, o6 a_now x_now_coins x_now_hands x_now_laws x_now_bytes x_now_sides a_now_edge a_now_bend a_now_rise a_now_wandering a_now_thrown a_now_alike a_now_law a_now_tape a_now_side, aI G a_now_alike 36 f_now_alike, aI G a_now_thrown 36 f_now_thrown]) hP hD hS hFc [0, 1] rfl rfl rfl (va_runV (As := [.int l2]) (rest := []) ⟨hx, hb, hml, hown, hts⟩ hM (cwV 1 hts gX11_counts_X11_isCoin rfl rfl rfl (by decide +kernel) ⟨Nat.le_of_ble_eq_true rfl, Nat.le_of_ble_eq_true rfl⟩) (cp_V hK hE hS hPc hDc hFc (va_recv hK hPc (ci := 11) (q0 := 0) rfl rfl)) rfl rfl hl.1 rfl (lv_room (Nat.le_of_ble_eq_true rfl)) dX11_counts_10 ⟨Nat.zero_le _, Nat.zero_le _⟩) (fun H locs hP hD hS => ?_)
  refine lv_if_ne (tgt := 18) hx hb dX11_counts_13 (by decide) (fun c6 => ?_) (fun c6 => ?_)
  · rw [if_neg c6] at hF
    refine lv_iload_n hx hb dX11_counts_18 rfl (lv_at hl 3 rfl) ?_
    refine lv_iconst (v := 0) hx hb dX11_counts_19 (by decide) ?_
    refine lv_sipush (v := 999) hx hb dX11_counts_20 (by decide) ?_
    obtain ⟨r7, hc8, hF⟩ := bd_some hF
    have hPc := hP.sub (ws' := []) [] rfl
    have hDc := hD.sub (ws' := []) [] (by decide) rfl
    have hFc := va_free (wc := []) hD hS hA [] rfl
    have hM := c_X11_isWithin l G l3 (0 : Int32) (999 : Int32) r7 hc8 H.size
    refine cl_i (w1 := []) (ws' := [o11 h a_now a_kept x_isKept a_reader a_flight a_latest, o6 a_now x_now_coins x_now_hands x_now_laws x_now_bytes x_now_sides a_now_edge a_now_bend a_now_rise a_now_wandering a_now_thrown a_now_alike a_now_law a_now_tape a_now_side, aI G a_now_alike 36 f_now_alike, aI G a_now_thrown 36 f_now_thrown]) hP hD hS hFc [] rfl rfl rfl (va_runS (As := [.int l3, .int 0, .int 999]) (rest := []) ⟨hx, hb, hml, hown, hts⟩ hM (va_cwS 3 hts gX11_counts_X11_isWithin rfl rfl rfl (by decide +kernel) ⟨Nat.le_of_ble_eq_true rfl, Nat.le_of_ble_eq_true rfl⟩) (cp_S hK hE hS hPc hDc hFc) rfl rfl hl.1 rfl (lv_room (Nat.le_of_ble_eq_true rfl)) dX11_counts_23 ⟨Nat.zero_le _, Nat.zero_le _⟩) (fun H locs hP hD hS => ?_)
    refine lv_if_eq (tgt := 39) hx hb dX11_counts_26 (by decide) (fun c9 => ?_) (fun c9 => ?_)
    · rw [if_pos c9] at hF
      refine W.eq (g2 := F0 m 39 ls []) rfl ?_
      refine lv_bipush (v := (-2)) hx hb dX11_counts_39 (by decide) ?_
      injection hF with hz
      injection hz with hq0 hz
      injection hz with hq1 hz
      subst hq0
      subst hq1
      subst hz
      exact cm_reti hx hb hr rfl hlk hK hP hD hS dX11_counts_41
    rw [if_neg c9] at hF
    refine W.eq (g2 := F0 m 29 ls []) rfl ?_
    refine lv_iload hx hb dX11_counts_29 (lv_at hl 4 rfl) ?_
    refine lv_iconst (v := 0) hx hb dX11_counts_31 (by decide) ?_
    refine lv_iload_n hx hb dX11_counts_32 rfl (lv_at hl 3 rfl) ?_
    obtain ⟨r10, hc11, hF⟩ := bd_some hF
    have hPc := hP.sub (ws' := []) [] rfl
    have hDc := hD.sub (ws' := []) [] (by decide) rfl
    have hFc := va_free (wc := []) hD hS hA [] rfl
    have hM := c_X11_isWithin l G l4 (0 : Int32) l3 r10 hc11 H.size
    refine cl_i (w1 := []) (ws' := [o11 h a_now a_kept x_isKept a_reader a_flight a_latest, o6 a_now x_now_coins x_now_hands x_now_laws x_now_bytes x_now_sides a_now_edge a_now_bend a_now_rise a_now_wandering a_now_thrown a_now_alike a_now_law a_now_tape a_now_side, aI G a_now_alike 36 f_now_alike, aI G a_now_thrown 36 f_now_thrown]) hP hD hS hFc [] rfl rfl rfl (va_runS (As := [.int l4, .int 0, .int l3]) (rest := []) ⟨hx, hb, hml, hown, hts⟩ hM (va_cwS 3 hts gX11_counts_X11_isWithin rfl rfl rfl (by decide +kernel) ⟨Nat.le_of_ble_eq_true rfl, Nat.le_of_ble_eq_true rfl⟩) (cp_S hK hE hS hPc hDc hFc) rfl rfl hl.1 rfl (lv_room (Nat.le_of_ble_eq_true rfl)) dX11_counts_33 ⟨Nat.zero_le _, Nat.zero_le _⟩) (fun H locs hP hD hS => ?_)
    refine lv_if_ne (tgt := 42) hx hb dX11_counts_36 (by decide) (fun c12 => ?_) (fun c12 => ?_)
    · rw [if_neg c12] at hF
      refine lv_iload_n hx hb dX11_counts_42 rfl (lv_at hl 1 rfl) ?_
      refine lv_bipush (v := 6) hx hb dX11_counts_43 (by decide) ?_
      refine lv_imul hx hb dX11_counts_45 ?_
      refine lv_iload_n hx hb dX11_counts_46 rfl (lv_at hl 2 rfl) ?_
      refine lv_iadd hx hb dX11_counts_47 ?_
      refine lv_istore (lv' := [(5, .int ((l1 * 6) + l2)), (0, .ref h), (1, .int l1), (2, .int l2), (3, .int l3), (4, .int l4)]) hx hb dX11_counts_48 hl (by decide) rfl (fun ls hl => ?_)
      refine lv_aload_n hx hb dX11_counts_50 rfl (lv_at hl 1 rfl) ?_
      refine va_get (D := G.1) (ci := 11) (v := .ref a_now) (C := RX11) (T := TX11) (N := 6) hx hb hts hin11 hown hK hP 0 rfl rfl 0 (by decide) lk_12 (fun _ h9 => h9) rfl dX11_counts_51 ?_
      refine va_getN (D := G.1) (ci := 6) (v := .ref a_now_thrown) (C := RX6) (T := TX6) (N := 14) hx hb hts hin6 hown hK hP 1 rfl rfl 9 (by decide) lk_83 (fun _ h9 => h9) rfl dX11_counts_54 ?_
      refine W.eq (g2 := F0 m 57 ls [.ref a_now_thrown]) rfl ?_
      refine lv_iload hx hb dX11_counts_57 (lv_at hl 0 rfl) ?_
      obtain ⟨hi13, hF⟩ := ck_some hF
      refine va_iald (D := G.1) hx hb hK hP 3 0 rfl rfl hi13 dX11_counts_59 ?_
      refine lv_istore (lv' := [(6, .int (f_now_thrown ((l1 * 6) + l2).toNatClampNeg)), (5, .int ((l1 * 6) + l2)), (0, .ref h), (1, .int l1), (2, .int l2), (3, .int l3), (4, .int l4)]) hx hb dX11_counts_60 hl (by decide) rfl (fun ls hl => ?_)
      refine lv_aload_n hx hb dX11_counts_62 rfl (lv_at hl 2 rfl) ?_
      refine va_get (D := G.1) (ci := 11) (v := .ref a_now) (C := RX11) (T := TX11) (N := 6) hx hb hts hin11 hown hK hP 0 rfl rfl 0 (by decide) lk_12 (fun _ h9 => h9) rfl dX11_counts_63 ?_
      refine va_getN (D := G.1) (ci := 6) (v := .ref a_now_thrown) (C := RX6) (T := TX6) (N := 14) hx hb hts hin6 hown hK hP 1 rfl rfl 9 (by decide) lk_83 (fun _ h9 => h9) rfl dX11_counts_66 ?_
      refine lv_iload hx hb dX11_counts_69 (lv_at hl 1 rfl) ?_
      refine lv_iload_n hx hb dX11_counts_71 rfl (lv_at hl 5 rfl) ?_
      refine va_iast (D := G.1) hx hb hK hP hD hS 3 0 rfl rfl hi13 dX11_counts_72 (fun H locs hP hD hS => ?_)
      have hP : va_P G.1 vwCl [o11 h a_now a_kept x_isKept a_reader a_flight a_latest, o6 a_now x_now_coins x_now_hands x_now_laws x_now_bytes x_now_sides a_now_edge a_now_bend a_now_rise a_now_wandering a_now_thrown a_now_alike a_now_law a_now_tape a_now_side, aI G a_now_alike 36 f_now_alike, aI G a_now_thrown 36 (upd f_now_thrown ((l1 * 6) + l2).toNatClampNeg l3)] H := hP
      have hD : va_D A [o11 h a_now a_kept x_isKept a_reader a_flight a_latest, o6 a_now x_now_coins x_now_hands x_now_laws x_now_bytes x_now_sides a_now_edge a_now_bend a_now_rise a_now_wandering a_now_thrown a_now_alike a_now_law a_now_tape a_now_side, aI G a_now_alike 36 f_now_alike, aI G a_now_thrown 36 (upd f_now_thrown ((l1 * 6) + l2).toNatClampNeg l3)] := hD
      refine lv_aload_n hx hb dX11_counts_73 rfl (lv_at hl 2 rfl) ?_
      refine va_get (D := G.1) (ci := 11) (v := .ref a_now) (C := RX11) (T := TX11) (N := 6) hx hb hts hin11 hown hK hP 0 rfl rfl 0 (by decide) lk_12 (fun _ h9 => h9) rfl dX11_counts_74 ?_
      refine va_getN (D := G.1) (ci := 6) (v := .ref a_now_alike) (C := RX6) (T := TX6) (N := 14) hx hb hts hin6 hown hK hP 1 rfl rfl 10 (by decide) lk_86 (fun _ h9 => h9) rfl dX11_counts_77 ?_
      refine lv_iload hx hb dX11_counts_80 (lv_at hl 1 rfl) ?_
      refine lv_iload hx hb dX11_counts_82 (lv_at hl 6 rfl) ?_
      refine W.eq (g2 := F0 m 84 ls [.int l4, .int ((l1 * 6) + l2), .ref a_now_alike]) rfl ?_
      refine va_iast (D := G.1) hx hb hK hP hD hS 2 0 rfl rfl hi13 dX11_counts_84 (fun H locs hP hD hS => ?_)
      have hP : va_P G.1 vwCl [o11 h a_now a_kept x_isKept a_reader a_flight a_latest, o6 a_now x_now_coins x_now_hands x_now_laws x_now_bytes x_now_sides a_now_edge a_now_bend a_now_rise a_now_wandering a_now_thrown a_now_alike a_now_law a_now_tape a_now_side, aI G a_now_alike 36 (upd f_now_alike ((l1 * 6) + l2).toNatClampNeg l4), aI G a_now_thrown 36 (upd f_now_thrown ((l1 * 6) + l2).toNatClampNeg l3)] H := hP
      have hD : va_D A [o11 h a_now a_kept x_isKept a_reader a_flight a_latest, o6 a_now x_now_coins x_now_hands x_now_laws x_now_bytes x_now_sides a_now_edge a_now_bend a_now_rise a_now_wandering a_now_thrown a_now_alike a_now_law a_now_tape a_now_side, aI G a_now_alike 36 (upd f_now_alike ((l1 * 6) + l2).toNatClampNeg l4), aI G a_now_thrown 36 (upd f_now_thrown ((l1 * 6) + l2).toNatClampNeg l3)] := hD
      refine lv_iload hx hb dX11_counts_85 (lv_at hl 0 rfl) ?_
      injection hF with hz
      injection hz with hq0 hz
      injection hz with hq1 hz
      subst hq0
      subst hq1
      subst hz
      exact cm_reti hx hb hr rfl hlk hK hP hD hS dX11_counts_87
    rw [if_pos c12] at hF
    refine lv_bipush (v := (-2)) hx hb dX11_counts_39 (by decide) ?_
    injection hF with hz
    injection hz with hq0 hz
    injection hz with hq1 hz
    subst hq0
    subst hq1
    subst hz
    exact cm_reti hx hb hr rfl hlk hK hP hD hS dX11_counts_41
  rw [if_pos c6] at hF
  refine lv_iconst (v := (-1)) hx hb dX11_counts_16 (by decide) ?_
  injection hF with hz
  injection hz with hq0 hz
  injection hz with hq1 hz
  subst hq0
  subst hq1
  subst hz
  exact cm_reti hx hb hr rfl hlk hK hP hD hS dX11_counts_17

/-! HeadsByHair.feed(JI)I -/
abbrev rm_X11_feed : Room := { frames := 1, cells := 0, slots := 0, locals := 22 }
set_option maxHeartbeats 4000000 in
set_option maxRecDepth 100000 in
theorem c_X11_feed (l : Launch) (G : GG) (h a_now a_kept a_reader a_flight a_latest a_now_edge a_now_bend a_now_rise a_now_wandering a_now_thrown a_now_alike a_now_law a_now_tape a_now_side : Nat) (x_isKept x_now_coins x_now_hands x_now_laws x_now_bytes x_now_sides : Int32) (f_now_tape : Nat → Int32) (l1 : Int64) (l3 : Int32) (z : Int32) (z_x_now_bytes : Int32) (z_f_now_tape : Nat → Int32) (hF : fX11_feed x_now_bytes f_now_tape l1 l3 = some (z, z_x_now_bytes, z_f_now_tape)) : CMi l yX11_feed wsX11_feed rm_X11_feed G [o11 h a_now a_kept x_isKept a_reader a_flight a_latest, o6 a_now x_now_coins x_now_hands x_now_laws x_now_bytes x_now_sides a_now_edge a_now_bend a_now_rise a_now_wandering a_now_thrown a_now_alike a_now_law a_now_tape a_now_side, aI G a_now_tape 120 f_now_tape] [o11 h a_now a_kept x_isKept a_reader a_flight a_latest, o6 a_now x_now_coins x_now_hands x_now_laws z_x_now_bytes x_now_sides a_now_edge a_now_bend a_now_rise a_now_wandering a_now_thrown a_now_alike a_now_law a_now_tape a_now_side, aI G a_now_tape 120 z_f_now_tape] [.ref h, .long l1, .int l3] z := by
  refine cm_start (cc := cX11_feed) (maxL := 5) (ret := (some .int)) (Qc := fun A => QI G [o11 h a_now a_kept x_isKept a_reader a_flight a_latest, o6 a_now x_now_coins x_now_hands x_now_laws z_x_now_bytes x_now_sides a_now_edge a_now_bend a_now_rise a_now_wandering a_now_thrown a_now_alike a_now_law a_now_tape a_now_side, aI G a_now_tape 120 z_f_now_tape] z A) (by decide +kernel) rfl (Nat.le_of_ble_eq_true rfl) ?_
  intro p e s m args below meth c A hx hb hr hlk hml hown hnm hts hA H locs hP hK hD hE hS ls hl
  have hown : s.vm.findClass RX11 = some m.cls := hown
  have hl : lv_has ls 5 [(0, .ref h), (1, .long l1), (3, .int l3)] := hl
  have hin11 : ∀ w ∈ wsX110, w ∈ wsX11_feed := by decide +kernel
  have hin6 : ∀ w ∈ wsX60, w ∈ wsX11_feed := by decide +kernel
  have lk_12 := hts (.fieldLink RX11 12 "HeadsByHair" "now" "LHeadsByHair$Stock;") (by decide +kernel)
  have lk_89 := va_Nw.use (A := args) rfl (hE.nw (.fieldLinkNest "HeadsByHair" 89 "HeadsByHair$Stock" "bytes" "I" "HeadsByHair") (by decide +kernel))
  have lk_92 := va_Nw.use (A := args) rfl (hE.nw (.fieldLinkNest "HeadsByHair" 92 "HeadsByHair$Stock" "tape" "[I" "HeadsByHair") (by decide +kernel))
  revert hF
  have LP35 : ∀ (l1 : Int64) (n : Nat) (x_now_bytes : Int32) (f_now_tape : Nat → Int32) (l4 : Int32) (H : Heap) (locs : List Loc) (ls : Array Slot), va_P G.1 vwCl [o11 h a_now a_kept x_isKept a_reader a_flight a_latest, o6 a_now x_now_coins x_now_hands x_now_laws x_now_bytes x_now_sides a_now_edge a_now_bend a_now_rise a_now_wandering a_now_thrown a_now_alike a_now_law a_now_tape a_now_side, aI G a_now_tape 120 f_now_tape] H → va_D A [o11 h a_now a_kept x_isKept a_reader a_flight a_latest, o6 a_now x_now_coins x_now_hands x_now_laws x_now_bytes x_now_sides a_now_edge a_now_bend a_now_rise a_now_wandering a_now_thrown a_now_alike a_now_law a_now_tape a_now_side, aI G a_now_tape 120 f_now_tape] → va_S A s.heap H locs → lv_has ls 5 [(0, .ref h), (1, .long l1), (4, .int l4)] → fX11_feed_L35 l1 n x_now_bytes f_now_tape l4 = some (z, z_x_now_bytes, z_f_now_tape) → W p l e (rm_X11_feed) s m args below meth c H locs 0 0 (MQ below (QI G [o11 h a_now a_kept x_isKept a_reader a_flight a_latest, o6 a_now x_now_coins x_now_hands x_now_laws z_x_now_bytes x_now_sides a_now_edge a_now_bend a_now_rise a_now_wandering a_now_thrown a_now_alike a_now_law a_now_tape a_now_side, aI G a_now_tape 120 z_f_now_tape] z A) args s 0 0 A) (F0 m 35 ls []) := by
    intro l1 n
    induction n with
    | zero =>
      intro x_now_bytes f_now_tape l4 H locs ls hP hD hS hl hF
      cases hF
    | succ n ih =>
      intro x_now_bytes f_now_tape l4 H locs ls hP hD hS hl hF
      rw [fX11_feed_L35] at hF
      refine lv_iload hx hb dX11_feed_35 (lv_at hl 2 rfl) ?_
      refine lv_if_lt (tgt := 86) hx hb dX11_feed_37 (by decide) (fun c5 => ?_) (fun c5 => ?_)
      · rw [if_pos c5] at hF
        refine lv_aload_n hx hb dX11_feed_86 rfl (lv_at hl 0 rfl) ?_
        refine va_get (D := G.1) (ci := 11) (v := .ref a_now) (C := RX11) (T := TX11) (N := 6) hx hb hts hin11 hown hK hP 0 rfl rfl 0 (by decide) lk_12 (fun _ h9 => h9) rfl dX11_feed_87 ?_
        refine va_getN (D := G.1) (ci := 6) (v := .int x_now_bytes) (C := RX6) (T := TX6) (N := 14) hx hb hts hin6 hown hK hP 1 rfl rfl 3 (by decide) lk_89 (fun _ h9 => h9) rfl dX11_feed_90 ?_
        injection hF with hz
        injection hz with hq0 hz
        injection hz with hq1 hz
        subst hq0
        subst hq1
        subst hz
        exact cm_reti hx hb hr rfl hlk hK hP hD hS dX11_feed_93
      rw [if_neg c5] at hF
      refine lv_aload_n hx hb dX11_feed_40 rfl (lv_at hl 0 rfl) ?_
      refine va_get (D := G.1) (ci := 11) (v := .ref a_now) (C := RX11) (T := TX11) (N := 6) hx hb hts hin11 hown hK hP 0 rfl rfl 0 (by decide) lk_12 (fun _ h9 => h9) rfl dX11_feed_41 ?_
      refine va_getN (D := G.1) (ci := 6) (v := .ref a_now_tape) (C := RX6) (T := TX6) (N := 14) hx hb hts hin6 hown hK hP 1 rfl rfl 12 (by decide) lk_92 (fun _ h9 => h9) rfl dX11_feed_44 ?_
      refine lv_aload_n hx hb dX11_feed_47 rfl (lv_at hl 0 rfl) ?_
      refine va_get (D := G.1) (ci := 11) (v := .ref a_now) (C := RX11) (T := TX11) (N := 6) hx hb hts hin11 hown hK hP 0 rfl rfl 0 (by decide) lk_12 (fun _ h9 => h9) rfl dX11_feed_48 ?_
      refine va_getN (D := G.1) (ci := 6) (v := .int x_now_bytes) (C := RX6) (T := TX6) (N := 14) hx hb hts hin6 hown hK hP 1 rfl rfl 3 (by decide) lk_89 (fun _ h9 => h9) rfl dX11_feed_51 ?_
      refine lv_lload_n hx hb dX11_feed_54 rfl (lv_at hl 1 rfl) ?_
      refine lv_bipush (v := 8) hx hb dX11_feed_55 (by decide) ?_
      refine lv_iload hx hb dX11_feed_57 (lv_at hl 2 rfl) ?_
      refine lv_imul hx hb dX11_feed_59 ?_
      refine lv_lushr (v := (l1.toUInt64 >>> ((8 * l4).toInt64.toUInt64 &&& Int64.toUInt64 63)).toInt64) hx hb dX11_feed_60 rfl ?_
      refine W.eq (g2 := F0 m 61 ls [.long ((l1.toUInt64 >>> ((8 * l4).toInt64.toUInt64 &&& Int64.toUInt64 63)).toInt64), .int x_now_bytes, .ref a_now_tape]) rfl ?_
      refine lv_l2i (v := ((l1.toUInt64 >>> ((8 * l4).toInt64.toUInt64 &&& Int64.toUInt64 63)).toInt64).toInt32) hx hb dX11_feed_61 rfl ?_
      refine lv_sipush (v := 255) hx hb dX11_feed_62 (by decide) ?_
      refine lv_iand hx hb dX11_feed_65 ?_
      obtain ⟨hi6, hF⟩ := ck_some hF
      refine va_iast (D := G.1) hx hb hK hP hD hS 2 0 rfl rfl hi6 dX11_feed_66 (fun H locs hP hD hS => ?_)
      have hP : va_P G.1 vwCl [o11 h a_now a_kept x_isKept a_reader a_flight a_latest, o6 a_now x_now_coins x_now_hands x_now_laws x_now_bytes x_now_sides a_now_edge a_now_bend a_now_rise a_now_wandering a_now_thrown a_now_alike a_now_law a_now_tape a_now_side, aI G a_now_tape 120 (upd f_now_tape x_now_bytes.toNatClampNeg ((((l1.toUInt64 >>> ((8 * l4).toInt64.toUInt64 &&& Int64.toUInt64 63)).toInt64).toInt32) &&& 255))] H := hP
      have hD : va_D A [o11 h a_now a_kept x_isKept a_reader a_flight a_latest, o6 a_now x_now_coins x_now_hands x_now_laws x_now_bytes x_now_sides a_now_edge a_now_bend a_now_rise a_now_wandering a_now_thrown a_now_alike a_now_law a_now_tape a_now_side, aI G a_now_tape 120 (upd f_now_tape x_now_bytes.toNatClampNeg ((((l1.toUInt64 >>> ((8 * l4).toInt64.toUInt64 &&& Int64.toUInt64 63)).toInt64).toInt32) &&& 255))] := hD
      refine lv_aload_n hx hb dX11_feed_67 rfl (lv_at hl 0 rfl) ?_
      refine va_get (D := G.1) (ci := 11) (v := .ref a_now) (C := RX11) (T := TX11) (N := 6) hx hb hts hin11 hown hK hP 0 rfl rfl 0 (by decide) lk_12 (fun _ h9 => h9) rfl dX11_feed_68 ?_
      refine lv_dup hx hb dX11_feed_71 rfl ?_
      refine va_getN (D := G.1) (ci := 6) (v := .int x_now_bytes) (C := RX6) (T := TX6) (N := 14) hx hb hts hin6 hown hK hP 1 rfl rfl 3 (by decide) lk_89 (fun _ h9 => h9) rfl dX11_feed_72 ?_
      refine lv_iconst (v := 1) hx hb dX11_feed_75 (by decide) ?_
      refine lv_iadd hx hb dX11_feed_76 ?_
      refine va_putN (D := G.1) (ci := 6) (v := .int (x_now_bytes + 1)) (ty := .int) (C := RX6) (T := TX6) (N := 14) hx hb hts hin6 tyX6 tyX6_ok nmX6 hown hK hP hD hS 1 rfl rfl 3 (by decide) lk_89 (fun _ h9 => h9) rfl (tyX6_ok 3 (by decide)) rfl rfl (Nat.le_of_ble_eq_true rfl) dX11_feed_77 (fun H locs hP hD hS => ?_)
      have hP : va_P G.1 vwCl [o11 h a_now a_kept x_isKept a_reader a_flight a_latest, o6 a_now x_now_coins x_now_hands x_now_laws (x_now_bytes + 1) x_now_sides a_now_edge a_now_bend a_now_rise a_now_wandering a_now_thrown a_now_alike a_now_law a_now_tape a_now_side, aI G a_now_tape 120 (upd f_now_tape x_now_bytes.toNatClampNeg ((((l1.toUInt64 >>> ((8 * l4).toInt64.toUInt64 &&& Int64.toUInt64 63)).toInt64).toInt32) &&& 255))] H := hP
      have hD : va_D A [o11 h a_now a_kept x_isKept a_reader a_flight a_latest, o6 a_now x_now_coins x_now_hands x_now_laws (x_now_bytes + 1) x_now_sides a_now_edge a_now_bend a_now_rise a_now_wandering a_now_thrown a_now_alike a_now_law a_now_tape a_now_side, aI G a_now_tape 120 (upd f_now_tape x_now_bytes.toNatClampNeg ((((l1.toUInt64 >>> ((8 * l4).toInt64.toUInt64 &&& Int64.toUInt64 63)).toInt64).toInt32) &&& 255))] := hD
      refine lv_iinc (v := l4 + (-1)) (lv' := [(4, .int (l4 + (-1))), (0, .ref h), (1, .long l1)]) hx hb dX11_feed_80 hl (k := 2) rfl rfl (by decide) rfl (fun ls hl => ?_)
      refine lv_goto (tgt := 35) hx hb dX11_feed_83 (by decide) ?_
      exact ih _ _ _ H locs ls hP hD hS (lv_sub hl [1, 2, 0] rfl) hF
  intro hF
  unfold fX11_feed at hF
  refine lv_iload_n hx hb dX11_feed_0 rfl (lv_at hl 2 rfl) ?_
  refine lv_iconst (v := 1) hx hb dX11_feed_1 (by decide) ?_
  refine lv_bipush (v := 8) hx hb dX11_feed_2 (by decide) ?_
  obtain ⟨r1, hc2, hF⟩ := bd_some hF
  have hPc := hP.sub (ws' := []) [] rfl
  have hDc := hD.sub (ws' := []) [] (by decide) rfl
  have hFc := va_free (wc := []) hD hS hA [] rfl
  have hM := c_X11_isWithin l G l3 (1 : Int32) (8 : Int32) r1 hc2 H.size
  refine cl_i (w1 := []) (ws' := [o11 h a_now a_kept x_isKept a_reader a_flight a_latest, o6 a_now x_now_coins x_now_hands x_now_laws x_now_bytes x_now_sides a_now_edge a_now_bend a_now_rise a_now_wandering a_now_thrown a_now_alike a_now_law a_now_tape a_now_side, aI G a_now_tape 120 f_now_tape]) hP hD hS hFc [] rfl rfl rfl (va_runS (As := [.int l3, .int 1, .int 8]) (rest := []) ⟨hx, hb, hml, hown, hts⟩ hM (va_cwS 3 hts gX11_feed_X11_isWithin rfl rfl rfl (by decide +kernel) ⟨Nat.le_of_ble_eq_true rfl, Nat.le_of_ble_eq_true rfl⟩) (cp_S hK hE hS hPc hDc hFc) rfl rfl hl.1 rfl (lv_room (Nat.le_of_ble_eq_true rfl)) dX11_feed_4 ⟨Nat.zero_le _, Nat.zero_le _⟩) (fun H locs hP hD hS => ?_)
  refine lv_if_ne (tgt := 13) hx hb dX11_feed_7 (by decide) (fun c3 => ?_) (fun c3 => ?_)
  · rw [if_neg c3] at hF
    refine lv_aload_n hx hb dX11_feed_13 rfl (lv_at hl 0 rfl) ?_
    refine va_get (D := G.1) (ci := 11) (v := .ref a_now) (C := RX11) (T := TX11) (N := 6) hx hb hts hin11 hown hK hP 0 rfl rfl 0 (by decide) lk_12 (fun _ h9 => h9) rfl dX11_feed_14 ?_
    refine va_getN (D := G.1) (ci := 6) (v := .int x_now_bytes) (C := RX6) (T := TX6) (N := 14) hx hb hts hin6 hown hK hP 1 rfl rfl 3 (by decide) lk_89 (fun _ h9 => h9) rfl dX11_feed_17 ?_
    refine lv_iload_n hx hb dX11_feed_20 rfl (lv_at hl 2 rfl) ?_
    refine lv_iadd hx hb dX11_feed_21 ?_
    refine lv_bipush (v := 120) hx hb dX11_feed_22 (by decide) ?_
    refine lv_icmp_le (tgt := 30) hx hb dX11_feed_24 (by decide) (fun c4 => ?_) (fun c4 => ?_)
    · rw [if_pos c4] at hF
      refine lv_iload_n hx hb dX11_feed_30 rfl (lv_at hl 2 rfl) ?_
      refine W.eq (g2 := F0 m 31 ls [.int l3]) rfl ?_
      refine lv_iconst (v := 1) hx hb dX11_feed_31 (by decide) ?_
      refine lv_isub hx hb dX11_feed_32 ?_
      refine lv_istore (lv' := [(4, .int (l3 - 1)), (0, .ref h), (1, .long l1), (3, .int l3)]) hx hb dX11_feed_33 hl (by decide) rfl (fun ls hl => ?_)
      refine LP35 _ _ _ _ _ H locs ls hP hD hS (lv_sub hl [1, 2, 0] rfl) hF
    rw [if_neg c4] at hF
    refine lv_bipush (v := (-4)) hx hb dX11_feed_27 (by decide) ?_
    refine W.eq (g2 := F0 m 29 ls [.int (-4)]) rfl ?_
    injection hF with hz
    injection hz with hq0 hz
    injection hz with hq1 hz
    subst hq0
    subst hq1
    subst hz
    exact cm_reti hx hb hr rfl hlk hK hP hD hS dX11_feed_29
  rw [if_pos c3] at hF
  refine lv_bipush (v := (-2)) hx hb dX11_feed_10 (by decide) ?_
  injection hF with hz
  injection hz with hq0 hz
  injection hz with hq1 hz
  subst hq0
  subst hq1
  subst hz
  exact cm_reti hx hb hr rfl hlk hK hP hD hS dX11_feed_12

/-! HeadsByHair.differ()I -/
abbrev rm_X11_differ : Room := { frames := 3, cells := 0, slots := 0, locals := 67 }
set_option maxHeartbeats 4000000 in
set_option maxRecDepth 100000 in
theorem c_X11_differ (l : Launch) (G : GG) (h a_now a_kept a_reader a_flight a_latest a_now_edge a_now_bend a_now_rise a_now_wandering a_now_thrown a_now_alike a_now_law a_now_tape a_now_side : Nat) (x_isKept x_now_coins x_now_hands x_now_laws x_now_bytes x_now_sides : Int32) (f_now_alike : Nat → Int32) (f_now_thrown : Nat → Int32) (z : Int32) (hF : fX11_differ x_now_coins x_now_hands f_now_alike f_now_thrown = some (z)) : CMi l yX11_differ wsX11_differ rm_X11_differ G [o11 h a_now a_kept x_isKept a_reader a_flight a_latest, o6 a_now x_now_coins x_now_hands x_now_laws x_now_bytes x_now_sides a_now_edge a_now_bend a_now_rise a_now_wandering a_now_thrown a_now_alike a_now_law a_now_tape a_now_side, aI G a_now_alike 36 f_now_alike, aI G a_now_thrown 36 f_now_thrown] [o11 h a_now a_kept x_isKept a_reader a_flight a_latest, o6 a_now x_now_coins x_now_hands x_now_laws x_now_bytes x_now_sides a_now_edge a_now_bend a_now_rise a_now_wandering a_now_thrown a_now_alike a_now_law a_now_tape a_now_side, aI G a_now_alike 36 f_now_alike, aI G a_now_thrown 36 f_now_thrown] [.ref h] z := by
  refine cm_start (cc := cX11_differ) (maxL := 6) (ret := (some .int)) (Qc := fun A => QI G [o11 h a_now a_kept x_isKept a_reader a_flight a_latest, o6 a_now x_now_coins x_now_hands x_now_laws x_now_bytes x_now_sides a_now_edge a_now_bend a_now_rise a_now_wandering a_now_thrown a_now_alike a_now_law a_now_tape a_now_side, aI G a_now_alike 36 f_now_alike, aI G a_now_thrown 36 f_now_thrown] z A) (by decide +kernel) rfl (Nat.le_of_ble_eq_true rfl) ?_
  intro p e s m args below meth c A hx hb hr hlk hml hown hnm hts hA H locs hP hK hD hE hS ls hl
  have hown : s.vm.findClass RX11 = some m.cls := hown
  have hl : lv_has ls 6 [(0, .ref h)] := hl
  have hin11 : ∀ w ∈ wsX110, w ∈ wsX11_differ := by decide +kernel
  have hin6 : ∀ w ∈ wsX60, w ∈ wsX11_differ := by decide +kernel
  have lk_12 := hts (.fieldLink RX11 12 "HeadsByHair" "now" "LHeadsByHair$Stock;") (by decide +kernel)
  have lk_57 := va_Nw.use (A := args) rfl (hE.nw (.fieldLinkNest "HeadsByHair" 57 "HeadsByHair$Stock" "hands" "I" "HeadsByHair") (by decide +kernel))
  have lm_178 := hts (.methodLink RX11 178 Lib.Math.min.name) (by decide +kernel)
  have ms_min := hts (.static Lib.Math.min.name) (by decide +kernel)
  have mi := hts (.initialized "java/lang/Math") (by decide +kernel)
  have mc_min := hts (.code Lib.Math.min.name Lib.Math.min.code 2 (some .int)) (by decide +kernel)
  have lm_184 := hts (.methodLink RX11 184 Lib.Math.max.name) (by decide +kernel)
  have ms_max := hts (.static Lib.Math.max.name) (by decide +kernel)
  have mc_max := hts (.code Lib.Math.max.name Lib.Math.max.code 2 (some .int)) (by decide +kernel)
  revert hF
  have LP9 : ∀ (k80 : Int32 → Int32 → Int32 → Option (Int32)) (hk80 : ∀ (l1 : Int32) (l2 : Int32) (l3 : Int32) (H : Heap) (locs : List Loc) (ls : Array Slot), va_P G.1 vwCl [o11 h a_now a_kept x_isKept a_reader a_flight a_latest, o6 a_now x_now_coins x_now_hands x_now_laws x_now_bytes x_now_sides a_now_edge a_now_bend a_now_rise a_now_wandering a_now_thrown a_now_alike a_now_law a_now_tape a_now_side, aI G a_now_alike 36 f_now_alike, aI G a_now_thrown 36 f_now_thrown] H → va_D A [o11 h a_now a_kept x_isKept a_reader a_flight a_latest, o6 a_now x_now_coins x_now_hands x_now_laws x_now_bytes x_now_sides a_now_edge a_now_bend a_now_rise a_now_wandering a_now_thrown a_now_alike a_now_law a_now_tape a_now_side, aI G a_now_alike 36 f_now_alike, aI G a_now_thrown 36 f_now_thrown] → va_S A s.heap H locs → lv_has ls 6 [(1, .int l1), (2, .int l2), (3, .int l3)] → k80 l1 l2 l3 = some (z) → W p l e (rm_X11_differ) s m args below meth c H locs 0 0 (MQ below (QI G [o11 h a_now a_kept x_isKept a_reader a_flight a_latest, o6 a_now x_now_coins x_now_hands x_now_laws x_now_bytes x_now_sides a_now_edge a_now_bend a_now_rise a_now_wandering a_now_thrown a_now_alike a_now_law a_now_tape a_now_side, aI G a_now_alike 36 f_now_alike, aI G a_now_thrown 36 f_now_thrown] z A) args s 0 0 A) (F0 m 80 ls [])) (n : Nat) (l1 : Int32) (l2 : Int32) (l3 : Int32) (l4 : Int32) (H : Heap) (locs : List Loc) (ls : Array Slot), va_P G.1 vwCl [o11 h a_now a_kept x_isKept a_reader a_flight a_latest, o6 a_now x_now_coins x_now_hands x_now_laws x_now_bytes x_now_sides a_now_edge a_now_bend a_now_rise a_now_wandering a_now_thrown a_now_alike a_now_law a_now_tape a_now_side, aI G a_now_alike 36 f_now_alike, aI G a_now_thrown 36 f_now_thrown] H → va_D A [o11 h a_now a_kept x_isKept a_reader a_flight a_latest, o6 a_now x_now_coins x_now_hands x_now_laws x_now_bytes x_now_sides a_now_edge a_now_bend a_now_rise a_now_wandering a_now_thrown a_now_alike a_now_law a_now_tape a_now_side, aI G a_now_alike 36 f_now_alike, aI G a_now_thrown 36 f_now_thrown] → va_S A s.heap H locs → lv_has ls 6 [(0, .ref h), (1, .int l1), (2, .int l2), (3, .int l3), (4, .int l4)] → fX11_differ_L9 k80 x_now_coins x_now_hands f_now_alike f_now_thrown n l1 l2 l3 l4 = some (z) → W p l e (rm_X11_differ) s m args below meth c H locs 0 0 (MQ below (QI G [o11 h a_now a_kept x_isKept a_reader a_flight a_latest, o6 a_now x_now_coins x_now_hands x_now_laws x_now_bytes x_now_sides a_now_edge a_now_bend a_now_rise a_now_wandering a_now_thrown a_now_alike a_now_law a_now_tape a_now_side, aI G a_now_alike 36 f_now_alike, aI G a_now_thrown 36 f_now_thrown] z A) args s 0 0 A) (F0 m 9 ls []) := by
    intro k80 hk80 n
    induction n with
    | zero =>
      intro l1 l2 l3 l4 H locs ls hP hD hS hl hF
      cases hF
    | succ n ih =>
      have B54 : ∀ (l1 : Int32) (l3 : Int32) (l4 : Int32) (l5 : Int32) (s0 : Int32) (H : Heap) (locs : List Loc) (ls : Array Slot), va_P G.1 vwCl [o11 h a_now a_kept x_isKept a_reader a_flight a_latest, o6 a_now x_now_coins x_now_hands x_now_laws x_now_bytes x_now_sides a_now_edge a_now_bend a_now_rise a_now_wandering a_now_thrown a_now_alike a_now_law a_now_tape a_now_side, aI G a_now_alike 36 f_now_alike, aI G a_now_thrown 36 f_now_thrown] H → va_D A [o11 h a_now a_kept x_isKept a_reader a_flight a_latest, o6 a_now x_now_coins x_now_hands x_now_laws x_now_bytes x_now_sides a_now_edge a_now_bend a_now_rise a_now_wandering a_now_thrown a_now_alike a_now_law a_now_tape a_now_side, aI G a_now_alike 36 f_now_alike, aI G a_now_thrown 36 f_now_thrown] → va_S A s.heap H locs → lv_has ls 6 [(0, .ref h), (1, .int l1), (3, .int l3), (4, .int l4), (5, .int l5)] → fX11_differ_b54 (fX11_differ_L9 k80 x_now_coins x_now_hands f_now_alike f_now_thrown n) k80 x_now_coins x_now_hands f_now_alike f_now_thrown l1 l3 l4 l5 s0 = some (z) → W p l e (rm_X11_differ) s m args below meth c H locs 0 0 (MQ below (QI G [o11 h a_now a_kept x_isKept a_reader a_flight a_latest, o6 a_now x_now_coins x_now_hands x_now_laws x_now_bytes x_now_sides a_now_edge a_now_bend a_now_rise a_now_wandering a_now_thrown a_now_alike a_now_law a_now_tape a_now_side, aI G a_now_alike 36 f_now_alike, aI G a_now_thrown 36 f_now_thrown] z A) args s 0 0 A) (F0 m 54 ls [.int s0]) := by
        intro l1 l3 l4 l5 s0 H locs ls hP hD hS hl hF
        unfold fX11_differ_b54 at hF
        refine lv_istore_n (lv' := [(2, .int s0), (0, .ref h), (1, .int l1), (3, .int l3), (4, .int l4), (5, .int l5)]) hx hb dX11_differ_54 rfl hl (by decide) rfl (fun ls hl => ?_)
        refine lv_iload_n hx hb dX11_differ_55 rfl (lv_at hl 2 rfl) ?_
        refine lv_if_ne (tgt := 64) hx hb dX11_differ_56 (by decide) (fun c6 => ?_) (fun c6 => ?_)
        · rw [if_neg c6] at hF
          refine lv_iload_n hx hb dX11_differ_64 rfl (lv_at hl 3 rfl) ?_
          refine lv_iload hx hb dX11_differ_65 (lv_at hl 5 rfl) ?_
          refine va_mmax hx hb (hml.trans hl.1.symm) hown lm_184 ms_max mi mc_max (Nat.le_of_ble_eq_true rfl) (Nat.le_of_ble_eq_true rfl) (Nat.zero_le _) (Nat.zero_le _) dX11_differ_67 ?_
          refine lv_istore_n (lv' := [(3, .int (if l3 < l5 then l5 else l3)), (2, .int s0), (0, .ref h), (1, .int l1), (4, .int l4), (5, .int l5)]) hx hb dX11_differ_70 rfl hl (by decide) rfl (fun ls hl => ?_)
          refine lv_iinc (v := l1 + 1) (lv' := [(1, .int (l1 + 1)), (3, .int (if l3 < l5 then l5 else l3)), (2, .int s0), (0, .ref h), (4, .int l4), (5, .int l5)]) hx hb dX11_differ_71 hl (k := 3) rfl rfl (by decide) rfl (fun ls hl => ?_)
          refine lv_iinc (v := l4 + 1) (lv' := [(4, .int (l4 + 1)), (1, .int (l1 + 1)), (3, .int (if l3 < l5 then l5 else l3)), (2, .int s0), (0, .ref h), (5, .int l5)]) hx hb dX11_differ_74 hl (k := 4) rfl rfl (by decide) rfl (fun ls hl => ?_)
          refine lv_goto (tgt := 9) hx hb dX11_differ_77 (by decide) ?_
          exact ih _ _ _ _ H locs ls hP hD hS (lv_sub hl [4, 1, 3, 2, 0] rfl) hF
        rw [if_pos c6] at hF
        refine lv_iload hx hb dX11_differ_59 (lv_at hl 5 rfl) ?_
        refine lv_goto (tgt := 70) hx hb dX11_differ_61 (by decide) ?_
        refine lv_istore_n (lv' := [(3, .int l5), (2, .int s0), (0, .ref h), (1, .int l1), (4, .int l4), (5, .int l5)]) hx hb dX11_differ_70 rfl hl (by decide) rfl (fun ls hl => ?_)
        refine lv_iinc (v := l1 + 1) (lv' := [(1, .int (l1 + 1)), (3, .int l5), (2, .int s0), (0, .ref h), (4, .int l4), (5, .int l5)]) hx hb dX11_differ_71 hl (k := 3) rfl rfl (by decide) rfl (fun ls hl => ?_)
        refine lv_iinc (v := l4 + 1) (lv' := [(4, .int (l4 + 1)), (1, .int (l1 + 1)), (3, .int l5), (2, .int s0), (0, .ref h), (5, .int l5)]) hx hb dX11_differ_74 hl (k := 4) rfl rfl (by decide) rfl (fun ls hl => ?_)
        refine lv_goto (tgt := 9) hx hb dX11_differ_77 (by decide) ?_
        exact ih _ _ _ _ H locs ls hP hD hS (lv_sub hl [4, 1, 3, 2, 0] rfl) hF
      intro l1 l2 l3 l4 H locs ls hP hD hS hl hF
      rw [fX11_differ_L9] at hF
      refine lv_iload hx hb dX11_differ_9 (lv_at hl 4 rfl) ?_
      refine lv_aload_n hx hb dX11_differ_11 rfl (lv_at hl 0 rfl) ?_
      refine va_get (D := G.1) (ci := 11) (v := .ref a_now) (C := RX11) (T := TX11) (N := 6) hx hb hts hin11 hown hK hP 0 rfl rfl 0 (by decide) lk_12 (fun _ h9 => h9) rfl dX11_differ_12 ?_
      refine va_getN (D := G.1) (ci := 6) (v := .int x_now_hands) (C := RX6) (T := TX6) (N := 14) hx hb hts hin6 hown hK hP 1 rfl rfl 1 (by decide) lk_57 (fun _ h9 => h9) rfl dX11_differ_15 ?_
      refine lv_icmp_ge (tgt := 80) hx hb dX11_differ_18 (by decide) (fun c1 => ?_) (fun c1 => ?_)
      · rw [if_pos c1] at hF
        exact hk80 _ _ _ H locs ls hP hD hS (lv_sub hl [1, 2, 3] rfl) hF
      rw [if_neg c1] at hF
      refine lv_aload_n hx hb dX11_differ_21 rfl (lv_at hl 0 rfl) ?_
      refine lv_iload hx hb dX11_differ_22 (lv_at hl 4 rfl) ?_
      obtain ⟨r2, hc3, hF⟩ := bd_some hF
      have hPc := hP.sub (ws' := [o11 h a_now a_kept x_isKept a_reader a_flight a_latest, o6 a_now x_now_coins x_now_hands x_now_laws x_now_bytes x_now_sides a_now_edge a_now_bend a_now_rise a_now_wandering a_now_thrown a_now_alike a_now_law a_now_tape a_now_side, aI G a_now_alike 36 f_now_alike, aI G a_now_thrown 36 f_now_thrown]) [0, 1, 2, 3] rfl
      have hDc := hD.sub (ws' := [o11 h a_now a_kept x_isKept a_reader a_flight a_latest, o6 a_now x_now_coins x_now_hands x_now_laws x_now_bytes x_now_sides a_now_edge a_now_bend a_now_rise a_now_wandering a_now_thrown a_now_alike a_now_law a_now_tape a_now_side, aI G a_now_alike 36 f_now_alike, aI G a_now_thrown 36 f_now_thrown]) [0, 1, 2, 3] (by decide) rfl
      have hFc := va_free (wc := [o11 h a_now a_kept x_isKept a_reader a_flight a_latest, o6 a_now x_now_coins x_now_hands x_now_laws x_now_bytes x_now_sides a_now_edge a_now_bend a_now_rise a_now_wandering a_now_thrown a_now_alike a_now_law a_now_tape a_now_side, aI G a_now_alike 36 f_now_alike, aI G a_now_thrown 36 f_now_thrown]) hD hS hA [0, 1, 2, 3] rfl
      have hM := c_X11_leaning l G h a_now a_kept a_reader a_flight a_latest a_now_edge a_now_bend a_now_rise a_now_wandering a_now_thrown a_now_alike a_now_law a_now_tape a_now_side x_isKept x_now_coins x_now_hands x_now_laws x_now_bytes x_now_sides f_now_alike f_now_thrown l4 r2 hc3 H.size
      refine cl_i (w1 := [o11 h a_now a_kept x_isKept a_reader a_flight a_latest, o6 a_now x_now_coins x_now_hands x_now_laws x_now_bytes x_now_sides a_now_edge a_now_bend a_now_rise a_now_wandering a_now_thrown a_now_alike a_now_law a_now_tape a_now_side, aI G a_now_alike 36 f_now_alike, aI G a_now_thrown 36 f_now_thrown]) (ws' := [o11 h a_now a_kept x_isKept a_reader a_flight a_latest, o6 a_now x_now_coins x_now_hands x_now_laws x_now_bytes x_now_sides a_now_edge a_now_bend a_now_rise a_now_wandering a_now_thrown a_now_alike a_now_law a_now_tape a_now_side, aI G a_now_alike 36 f_now_alike, aI G a_now_thrown 36 f_now_thrown]) hP hD hS hFc [0, 1, 2, 3] rfl rfl rfl (va_runV (As := [.int l4]) (rest := []) ⟨hx, hb, hml, hown, hts⟩ hM (cwV 1 hts gX11_differ_X11_leaning rfl rfl rfl (by decide +kernel) ⟨Nat.le_of_ble_eq_true rfl, Nat.le_of_ble_eq_true rfl⟩) (cp_V hK hE hS hPc hDc hFc (va_recv hK hPc (ci := 11) (q0 := 0) rfl rfl)) rfl rfl hl.1 rfl (lv_room (Nat.le_of_ble_eq_true rfl)) dX11_differ_24 ⟨Nat.zero_le _, Nat.zero_le _⟩) (fun H locs hP hD hS => ?_)
      refine lv_istore (lv' := [(5, .int r2), (0, .ref h), (1, .int l1), (2, .int l2), (3, .int l3), (4, .int l4)]) hx hb dX11_differ_27 hl (by decide) rfl (fun ls hl => ?_)
      refine lv_iload hx hb dX11_differ_29 (lv_at hl 0 rfl) ?_
      refine lv_bipush (v := (-5)) hx hb dX11_differ_31 (by decide) ?_
      refine lv_icmp_ne (tgt := 39) hx hb dX11_differ_33 (by decide) (fun c4 => ?_) (fun c4 => ?_)
      · rw [if_neg c4] at hF
        refine lv_iload_n hx hb dX11_differ_39 rfl (lv_at hl 2 rfl) ?_
        refine W.eq (g2 := F0 m 40 ls [.int l1]) rfl ?_
        refine lv_if_ne (tgt := 48) hx hb dX11_differ_40 (by decide) (fun c5 => ?_) (fun c5 => ?_)
        · rw [if_neg c5] at hF
          refine lv_iload_n hx hb dX11_differ_48 rfl (lv_at hl 3 rfl) ?_
          refine lv_iload hx hb dX11_differ_49 (lv_at hl 0 rfl) ?_
          refine va_mmin hx hb (hml.trans hl.1.symm) hown lm_178 ms_min mi mc_min (Nat.le_of_ble_eq_true rfl) (Nat.le_of_ble_eq_true rfl) (Nat.zero_le _) (Nat.zero_le _) dX11_differ_51 ?_
          exact B54 _ _ _ _ _ H locs ls hP hD hS (lv_sub hl [1, 2, 4, 5, 0] rfl) hF
        rw [if_pos c5] at hF
        refine lv_iload hx hb dX11_differ_43 (lv_at hl 0 rfl) ?_
        refine lv_goto (tgt := 54) hx hb dX11_differ_45 (by decide) ?_
        exact B54 _ _ _ _ _ H locs ls hP hD hS (lv_sub hl [1, 2, 4, 5, 0] rfl) hF
      rw [if_pos c4] at hF
      refine lv_goto (tgt := 74) hx hb dX11_differ_36 (by decide) ?_
      refine W.eq (g2 := F0 m 74 ls []) rfl ?_
      refine lv_iinc (v := l4 + 1) (lv' := [(4, .int (l4 + 1)), (5, .int r2), (0, .ref h), (1, .int l1), (2, .int l2), (3, .int l3)]) hx hb dX11_differ_74 hl (k := 5) rfl rfl (by decide) rfl (fun ls hl => ?_)
      refine lv_goto (tgt := 9) hx hb dX11_differ_77 (by decide) ?_
      exact ih _ _ _ _ H locs ls hP hD hS (lv_sub hl [2, 3, 4, 5, 0] rfl) hF
  intro hF
  unfold fX11_differ at hF
  refine lv_iconst (v := 0) hx hb dX11_differ_0 (by decide) ?_
  refine lv_istore_n (lv' := [(1, .int 0), (0, .ref h)]) hx hb dX11_differ_1 rfl hl (by decide) rfl (fun ls hl => ?_)
  refine lv_iconst (v := 0) hx hb dX11_differ_2 (by decide) ?_
  refine lv_istore_n (lv' := [(2, .int 0), (1, .int 0), (0, .ref h)]) hx hb dX11_differ_3 rfl hl (by decide) rfl (fun ls hl => ?_)
  refine lv_iconst (v := 0) hx hb dX11_differ_4 (by decide) ?_
  refine lv_istore_n (lv' := [(3, .int 0), (2, .int 0), (1, .int 0), (0, .ref h)]) hx hb dX11_differ_5 rfl hl (by decide) rfl (fun ls hl => ?_)
  refine lv_iconst (v := 0) hx hb dX11_differ_6 (by decide) ?_
  refine lv_istore (lv' := [(4, .int 0), (3, .int 0), (2, .int 0), (1, .int 0), (0, .ref h)]) hx hb dX11_differ_7 hl (by decide) rfl (fun ls hl => ?_)
  refine LP9 _ (fun l1_7 l2_8 l3_9 H locs ls hP hD hS hl hF => ?_) _ _ _ _ _ H locs ls hP hD hS (lv_sub hl [4, 3, 2, 1, 0] rfl) hF
  refine lv_iload_n hx hb dX11_differ_80 rfl (lv_at hl 0 rfl) ?_
  refine lv_iconst (v := 2) hx hb dX11_differ_81 (by decide) ?_
  refine lv_icmp_ge (tgt := 90) hx hb dX11_differ_82 (by decide) (fun c10 => ?_) (fun c10 => ?_)
  · rw [if_pos c10] at hF
    refine lv_iload_n hx hb dX11_differ_90 rfl (lv_at hl 2 rfl) ?_
    refine lv_iload_n hx hb dX11_differ_91 rfl (lv_at hl 1 rfl) ?_
    refine W.eq (g2 := F0 m 92 ls [.int l2_8, .int l3_9]) rfl ?_
    refine lv_isub hx hb dX11_differ_92 ?_
    injection hF with hz
    subst hz
    exact cm_reti hx hb hr rfl hlk hK hP hD hS dX11_differ_93
  rw [if_neg c10] at hF
  refine lv_bipush (v := (-5)) hx hb dX11_differ_85 (by decide) ?_
  refine lv_goto (tgt := 93) hx hb dX11_differ_87 (by decide) ?_
  refine W.eq (g2 := F0 m 93 ls [.int (-5)]) rfl ?_
  injection hF with hz
  subst hz
  exact cm_reti hx hb hr rfl hlk hK hP hD hS dX11_differ_93

/-! HeadsByHair.choices(II)J -/
abbrev rm_X11_choices : Room := { frames := 0, cells := 0, slots := 0, locals := 0 }
set_option maxHeartbeats 4000000 in
set_option maxRecDepth 100000 in
theorem c_X11_choices (l : Launch) (G : GG) (l0 : Int32) (l1 : Int32) (z : Int64) (hF : fX11_choices l0 l1 = some (z)) : CMl l yX11_choices wsX11_choices rm_X11_choices G [] [] [.int l0, .int l1] z := by
  refine cm_start (cc := cX11_choices) (maxL := 5) (ret := (some .long)) (Qc := fun A => QL G [] z A) (by decide +kernel) rfl (Nat.le_of_ble_eq_true rfl) ?_
  intro p e s m args below meth c A hx hb hr hlk hml hown hnm hts hA H locs hP hK hD hE hS ls hl
  have hown : s.vm.findClass RX11 = some m.cls := hown
  have hl : lv_has ls 5 [(0, .int l0), (1, .int l1)] := hl
  revert hF
  have LP5 : ∀ (l0 : Int32) (l1 : Int32) (n : Nat) (l2 : Int64) (l4 : Int32) (H : Heap) (locs : List Loc) (ls : Array Slot), va_P G.1 vwCl [] H → va_D A [] → va_S A s.heap H locs → lv_has ls 5 [(0, .int l0), (1, .int l1), (2, .long l2), (4, .int l4)] → fX11_choices_L5 l0 l1 n l2 l4 = some (z) → W p l e (rm_X11_choices) s m args below meth c H locs 0 0 (MQ below (QL G [] z A) args s 0 0 A) (F0 m 5 ls []) := by
    intro l0 l1 n
    induction n with
    | zero =>
      intro l2 l4 H locs ls hP hD hS hl hF
      cases hF
    | succ n ih =>
      intro l2 l4 H locs ls hP hD hS hl hF
      rw [fX11_choices_L5] at hF
      refine lv_iload hx hb dX11_choices_5 (lv_at hl 3 rfl) ?_
      refine lv_iload_n hx hb dX11_choices_7 rfl (lv_at hl 1 rfl) ?_
      refine lv_icmp_gt (tgt := 31) hx hb dX11_choices_8 (by decide) (fun c1 => ?_) (fun c1 => ?_)
      · rw [if_pos c1] at hF
        refine lv_lload_n hx hb dX11_choices_31 rfl (lv_at hl 2 rfl) ?_
        injection hF with hz
        subst hz
        exact cm_retl hx hb hr hlk hK hP hD hS dX11_choices_32
      rw [if_neg c1] at hF
      refine lv_lload_n hx hb dX11_choices_11 rfl (lv_at hl 2 rfl) ?_
      refine lv_iload_n hx hb dX11_choices_12 rfl (lv_at hl 0 rfl) ?_
      refine lv_iload hx hb dX11_choices_13 (lv_at hl 3 rfl) ?_
      refine lv_isub hx hb dX11_choices_15 ?_
      refine lv_iconst (v := 1) hx hb dX11_choices_16 (by decide) ?_
      refine lv_iadd hx hb dX11_choices_17 ?_
      refine lv_i2l (v := ((l0 - l4) + 1).toInt64) hx hb dX11_choices_18 rfl ?_
      refine lv_lmul hx hb dX11_choices_19 ?_
      refine lv_iload hx hb dX11_choices_20 (lv_at hl 3 rfl) ?_
      refine lv_i2l (v := l4.toInt64) hx hb dX11_choices_22 rfl ?_
      refine W.eq (g2 := F0 m 23 ls [.long l4.toInt64, .long (l2 * (((l0 - l4) + 1).toInt64))]) rfl ?_
      obtain ⟨hz2, hF⟩ := ck_some hF
      refine lv_ldiv hx hb dX11_choices_23 hz2 ?_
      refine lv_lstore_n (lv' := [(2, .long ((l2 * (((l0 - l4) + 1).toInt64)) / l4.toInt64)), (0, .int l0), (1, .int l1), (4, .int l4)]) hx hb dX11_choices_24 rfl hl (by decide) rfl (fun ls hl => ?_)
      refine lv_iinc (v := l4 + 1) (lv' := [(4, .int (l4 + 1)), (2, .long ((l2 * (((l0 - l4) + 1).toInt64)) / l4.toInt64)), (0, .int l0), (1, .int l1)]) hx hb dX11_choices_25 hl (k := 3) rfl rfl (by decide) rfl (fun ls hl => ?_)
      refine lv_goto (tgt := 5) hx hb dX11_choices_28 (by decide) ?_
      exact ih _ _ H locs ls hP hD hS (lv_sub hl [2, 3, 1, 0] rfl) hF
  intro hF
  unfold fX11_choices at hF
  refine lv_lconst (v := 1) hx hb dX11_choices_0 (by decide) ?_
  refine lv_lstore_n (lv' := [(2, .long 1), (0, .int l0), (1, .int l1)]) hx hb dX11_choices_1 rfl hl (by decide) rfl (fun ls hl => ?_)
  refine lv_iconst (v := 1) hx hb dX11_choices_2 (by decide) ?_
  refine lv_istore (lv' := [(4, .int 1), (2, .long 1), (0, .int l0), (1, .int l1)]) hx hb dX11_choices_3 hl (by decide) rfl (fun ls hl => ?_)
  refine LP5 _ _ _ _ _ H locs ls hP hD hS (lv_sub hl [2, 3, 1, 0] rfl) hF

/-! HeadsByHair.choicesBetween(III)J -/
abbrev rm_X11_choicesBetween : Room := { frames := 1, cells := 0, slots := 0, locals := 24 }
set_option maxHeartbeats 4000000 in
set_option maxRecDepth 100000 in
theorem c_X11_choicesBetween (l : Launch) (G : GG) (l0 : Int32) (l1 : Int32) (l2 : Int32) (z : Int64) (hF : fX11_choicesBetween l0 l1 l2 = some (z)) : CMl l yX11_choicesBetween wsX11_choicesBetween rm_X11_choicesBetween G [] [] [.int l0, .int l1, .int l2] z := by
  refine cm_start (cc := cX11_choicesBetween) (maxL := 6) (ret := (some .long)) (Qc := fun A => QL G [] z A) (by decide +kernel) rfl (Nat.le_of_ble_eq_true rfl) ?_
  intro p e s m args below meth c A hx hb hr hlk hml hown hnm hts hA H locs hP hK hD hE hS ls hl
  have hown : s.vm.findClass RX11 = some m.cls := hown
  have hl : lv_has ls 6 [(0, .int l0), (1, .int l1), (2, .int l2)] := hl
  revert hF
  have LP5 : ∀ (l0 : Int32) (l2 : Int32) (n : Nat) (l3 : Int64) (l5 : Int32) (H : Heap) (locs : List Loc) (ls : Array Slot), va_P G.1 vwCl [] H → va_D A [] → va_S A s.heap H locs → lv_has ls 6 [(0, .int l0), (2, .int l2), (3, .long l3), (5, .int l5)] → fX11_choicesBetween_L5 l0 l2 n l3 l5 = some (z) → W p l e (rm_X11_choicesBetween) s m args below meth c H locs 0 0 (MQ below (QL G [] z A) args s 0 0 A) (F0 m 5 ls []) := by
    intro l0 l2 n
    induction n with
    | zero =>
      intro l3 l5 H locs ls hP hD hS hl hF
      cases hF
    | succ n ih =>
      intro l3 l5 H locs ls hP hD hS hl hF
      rw [fX11_choicesBetween_L5] at hF
      refine lv_iload hx hb dX11_choicesBetween_5 (lv_at hl 3 rfl) ?_
      refine lv_iload_n hx hb dX11_choicesBetween_7 rfl (lv_at hl 1 rfl) ?_
      refine lv_icmp_gt (tgt := 26) hx hb dX11_choicesBetween_8 (by decide) (fun c1 => ?_) (fun c1 => ?_)
      · rw [if_pos c1] at hF
        refine lv_lload_n hx hb dX11_choicesBetween_26 rfl (lv_at hl 2 rfl) ?_
        injection hF with hz
        subst hz
        exact cm_retl hx hb hr hlk hK hP hD hS dX11_choicesBetween_27
      rw [if_neg c1] at hF
      refine lv_lload_n hx hb dX11_choicesBetween_11 rfl (lv_at hl 2 rfl) ?_
      refine lv_iload_n hx hb dX11_choicesBetween_12 rfl (lv_at hl 0 rfl) ?_
      refine lv_iload hx hb dX11_choicesBetween_13 (lv_at hl 3 rfl) ?_
      obtain ⟨r2, hc3, hF⟩ := bd_some hF
      have hPc := hP.sub (ws' := []) [] rfl
      have hDc := hD.sub (ws' := []) [] (by decide) rfl
      have hFc := va_free (wc := []) hD hS hA [] rfl
      have hM := c_X11_choices l G l0 l5 r2 hc3 H.size
      refine cl_l (w1 := []) (ws' := []) hP hD hS hFc [] rfl rfl rfl (va_runS (As := [.int l0, .int l5]) (rest := [.long l3]) ⟨hx, hb, hml, hown, hts⟩ hM (va_cwS 2 hts gX11_choicesBetween_X11_choices rfl rfl rfl (by decide +kernel) ⟨Nat.le_of_ble_eq_true rfl, Nat.le_of_ble_eq_true rfl⟩) (cp_S hK hE hS hPc hDc hFc) rfl rfl hl.1 rfl (lv_room (Nat.le_of_ble_eq_true rfl)) dX11_choicesBetween_15 ⟨Nat.zero_le _, Nat.zero_le _⟩) (fun H locs hP hD hS => ?_)
      refine lv_ladd hx hb dX11_choicesBetween_18 ?_
      refine lv_lstore_n (lv' := [(3, .long (l3 + r2)), (0, .int l0), (2, .int l2), (5, .int l5)]) hx hb dX11_choicesBetween_19 rfl hl (by decide) rfl (fun ls hl => ?_)
      refine lv_iinc (v := l5 + 1) (lv' := [(5, .int (l5 + 1)), (3, .long (l3 + r2)), (0, .int l0), (2, .int l2)]) hx hb dX11_choicesBetween_20 hl (k := 3) rfl rfl (by decide) rfl (fun ls hl => ?_)
      refine lv_goto (tgt := 5) hx hb dX11_choicesBetween_23 (by decide) ?_
      exact ih _ _ H locs ls hP hD hS (lv_sub hl [2, 3, 1, 0] rfl) hF
  intro hF
  unfold fX11_choicesBetween at hF
  refine lv_lconst (v := 0) hx hb dX11_choicesBetween_0 (by decide) ?_
  refine lv_lstore_n (lv' := [(3, .long 0), (0, .int l0), (1, .int l1), (2, .int l2)]) hx hb dX11_choicesBetween_1 rfl hl (by decide) rfl (fun ls hl => ?_)
  refine lv_iload_n hx hb dX11_choicesBetween_2 rfl (lv_at hl 2 rfl) ?_
  refine lv_istore (lv' := [(5, .int l1), (3, .long 0), (0, .int l0), (1, .int l1), (2, .int l2)]) hx hb dX11_choicesBetween_3 hl (by decide) rfl (fun ls hl => ?_)
  refine LP5 _ _ _ _ _ H locs ls hP hD hS (lv_sub hl [2, 4, 1, 0] rfl) hF

/-! HeadsByHair.commonDivisor(JJ)J -/
abbrev rm_X11_commonDivisor : Room := { frames := 0, cells := 0, slots := 0, locals := 0 }
set_option maxHeartbeats 4000000 in
set_option maxRecDepth 100000 in
theorem c_X11_commonDivisor (l : Launch) (G : GG) (l0 : Int64) (l2 : Int64) (z : Int64) (hF : fX11_commonDivisor l0 l2 = some (z)) : CMl l yX11_commonDivisor wsX11_commonDivisor rm_X11_commonDivisor G [] [] [.long l0, .long l2] z := by
  refine cm_start (cc := cX11_commonDivisor) (maxL := 7) (ret := (some .long)) (Qc := fun A => QL G [] z A) (by decide +kernel) rfl (Nat.le_of_ble_eq_true rfl) ?_
  intro p e s m args below meth c A hx hb hr hlk hml hown hnm hts hA H locs hP hK hD hE hS ls hl
  have hown : s.vm.findClass RX11 = some m.cls := hown
  have hl : lv_has ls 7 [(0, .long l0), (2, .long l2)] := hl
  revert hF
  have LP3 : ∀ (n : Nat) (l0 : Int64) (l2 : Int64) (l4 : Int32) (H : Heap) (locs : List Loc) (ls : Array Slot), va_P G.1 vwCl [] H → va_D A [] → va_S A s.heap H locs → lv_has ls 7 [(0, .long l0), (2, .long l2), (4, .int l4)] → fX11_commonDivisor_L3 n l0 l2 l4 = some (z) → W p l e (rm_X11_commonDivisor) s m args below meth c H locs 0 0 (MQ below (QL G [] z A) args s 0 0 A) (F0 m 3 ls []) := by
    intro n
    induction n with
    | zero =>
      intro l0 l2 l4 H locs ls hP hD hS hl hF
      cases hF
    | succ n ih =>
      intro l0 l2 l4 H locs ls hP hD hS hl hF
      rw [fX11_commonDivisor_L3] at hF
      refine lv_iload hx hb dX11_commonDivisor_3 (lv_at hl 2 rfl) ?_
      refine lv_bipush (v := 100) hx hb dX11_commonDivisor_5 (by decide) ?_
      refine lv_icmp_ge (tgt := 32) hx hb dX11_commonDivisor_7 (by decide) (fun c1 => ?_) (fun c1 => ?_)
      · rw [if_pos c1] at hF
        refine lv_lload_n hx hb dX11_commonDivisor_32 rfl (lv_at hl 0 rfl) ?_
        injection hF with hz
        subst hz
        exact cm_retl hx hb hr hlk hK hP hD hS dX11_commonDivisor_33
      rw [if_neg c1] at hF
      refine lv_lload_n hx hb dX11_commonDivisor_10 rfl (lv_at hl 1 rfl) ?_
      refine lv_lconst (v := 0) hx hb dX11_commonDivisor_11 (by decide) ?_
      refine W.lcmp hx hb dX11_commonDivisor_12 ?_
      refine lv_if_eq (tgt := 32) hx hb dX11_commonDivisor_13 (by decide) (fun c2 => ?_) (fun c2 => ?_)
      · rw [if_pos c2] at hF
        refine lv_lload_n hx hb dX11_commonDivisor_32 rfl (lv_at hl 0 rfl) ?_
        injection hF with hz
        subst hz
        exact cm_retl hx hb hr hlk hK hP hD hS dX11_commonDivisor_33
      rw [if_neg c2] at hF
      refine lv_lload_n hx hb dX11_commonDivisor_16 rfl (lv_at hl 0 rfl) ?_
      refine lv_lload_n hx hb dX11_commonDivisor_17 rfl (lv_at hl 1 rfl) ?_
      obtain ⟨hz3, hF⟩ := ck_some hF
      refine lv_lrem hx hb dX11_commonDivisor_18 hz3 ?_
      refine lv_lstore (lv' := [(5, .long (l0 - l0 / l2 * l2)), (0, .long l0), (2, .long l2), (4, .int l4)]) hx hb dX11_commonDivisor_19 hl (by decide) rfl (fun ls hl => ?_)
      refine lv_lload_n hx hb dX11_commonDivisor_21 rfl (lv_at hl 2 rfl) ?_
      refine lv_lstore_n (lv' := [(0, .long l2), (5, .long (l0 - l0 / l2 * l2)), (2, .long l2), (4, .int l4)]) hx hb dX11_commonDivisor_22 rfl hl (by decide) rfl (fun ls hl => ?_)
      refine W.eq (g2 := F0 m 23 ls []) rfl ?_
      refine lv_lload hx hb dX11_commonDivisor_23 (lv_at hl 1 rfl) ?_
      refine lv_lstore_n (lv' := [(2, .long (l0 - l0 / l2 * l2)), (0, .long l2), (5, .long (l0 - l0 / l2 * l2)), (4, .int l4)]) hx hb dX11_commonDivisor_25 rfl hl (by decide) rfl (fun ls hl => ?_)
      refine lv_iinc (v := l4 + 1) (lv' := [(4, .int (l4 + 1)), (2, .long (l0 - l0 / l2 * l2)), (0, .long l2), (5, .long (l0 - l0 / l2 * l2))]) hx hb dX11_commonDivisor_26 hl (k := 3) rfl rfl (by decide) rfl (fun ls hl => ?_)
      refine lv_goto (tgt := 3) hx hb dX11_commonDivisor_29 (by decide) ?_
      exact ih _ _ _ H locs ls hP hD hS (lv_sub hl [2, 1, 0] rfl) hF
  intro hF
  unfold fX11_commonDivisor at hF
  refine lv_iconst (v := 0) hx hb dX11_commonDivisor_0 (by decide) ?_
  refine lv_istore (lv' := [(4, .int 0), (0, .long l0), (2, .long l2)]) hx hb dX11_commonDivisor_1 hl (by decide) rfl (fun ls hl => ?_)
  refine LP3 _ _ _ _ H locs ls hP hD hS (lv_sub hl [1, 2, 0] rfl) hF

/-! HeadsByHair.inLowest(JJI)J -/
abbrev rm_X11_inLowest : Room := { frames := 1, cells := 0, slots := 0, locals := 26 }
set_option maxHeartbeats 4000000 in
set_option maxRecDepth 100000 in
theorem c_X11_inLowest (l : Launch) (G : GG) (l0 : Int64) (l2 : Int64) (l4 : Int32) (z : Int64) (hF : fX11_inLowest l0 l2 l4 = some (z)) : CMl l yX11_inLowest wsX11_inLowest rm_X11_inLowest G [] [] [.long l0, .long l2, .int l4] z := by
  refine cm_start (cc := cX11_inLowest) (maxL := 7) (ret := (some .long)) (Qc := fun A => QL G [] z A) (by decide +kernel) rfl (Nat.le_of_ble_eq_true rfl) ?_
  intro p e s m args below meth c A hx hb hr hlk hml hown hnm hts hA H locs hP hK hD hE hS ls hl
  have hown : s.vm.findClass RX11 = some m.cls := hown
  have hl : lv_has ls 7 [(0, .long l0), (2, .long l2), (4, .int l4)] := hl
  have lm_288 := hts (.methodLink RX11 288 Lib.MathLoose.max_long.x) (by decide +kernel)
  have ms_max := hts (.static Lib.MathLoose.max_long.x) (by decide +kernel)
  have mi := hts (.initialized "java/lang/Math") (by decide +kernel)
  have mc_max := hts (.code Lib.MathLoose.max_long.x Lib.MathLoose.max_long.code 4 (some .long)) (by decide +kernel)
  revert hF
  intro hF
  unfold fX11_inLowest at hF
  refine lv_lconst (v := 1) hx hb dX11_inLowest_0 (by decide) ?_
  refine lv_lload_n hx hb dX11_inLowest_1 rfl (lv_at hl 0 rfl) ?_
  refine lv_lload_n hx hb dX11_inLowest_2 rfl (lv_at hl 1 rfl) ?_
  obtain ⟨r1, hc2, hF⟩ := bd_some hF
  have hPc := hP.sub (ws' := []) [] rfl
  have hDc := hD.sub (ws' := []) [] (by decide) rfl
  have hFc := va_free (wc := []) hD hS hA [] rfl
  have hM := c_X11_commonDivisor l G l0 l2 r1 hc2 H.size
  refine cl_l (w1 := []) (ws' := []) hP hD hS hFc [] rfl rfl rfl (va_runS (As := [.long l0, .long l2]) (rest := [.long 1]) ⟨hx, hb, hml, hown, hts⟩ hM (va_cwS 2 hts gX11_inLowest_X11_commonDivisor rfl rfl rfl (by decide +kernel) ⟨Nat.le_of_ble_eq_true rfl, Nat.le_of_ble_eq_true rfl⟩) (cp_S hK hE hS hPc hDc hFc) rfl rfl hl.1 rfl (lv_room (Nat.le_of_ble_eq_true rfl)) dX11_inLowest_3 ⟨Nat.zero_le _, Nat.zero_le _⟩) (fun H locs hP hD hS => ?_)
  refine va_mmax_long hx hb (hml.trans hl.1.symm) hown lm_288 ms_max mi mc_max (Nat.le_of_ble_eq_true rfl) (Nat.le_of_ble_eq_true rfl) (Nat.zero_le _) (Nat.zero_le _) dX11_inLowest_6 ?_
  refine lv_lstore (lv' := [(5, .long (if r1 < (1 : Int64) then (1 : Int64) else r1)), (0, .long l0), (2, .long l2), (4, .int l4)]) hx hb dX11_inLowest_9 hl (by decide) rfl (fun ls hl => ?_)
  refine lv_iload hx hb dX11_inLowest_11 (lv_at hl 3 rfl) ?_
  refine lv_if_ne (tgt := 20) hx hb dX11_inLowest_13 (by decide) (fun c3 => ?_) (fun c3 => ?_)
  · rw [if_neg c3] at hF
    refine lv_lload_n hx hb dX11_inLowest_20 rfl (lv_at hl 2 rfl) ?_
    refine lv_lload hx hb dX11_inLowest_21 (lv_at hl 0 rfl) ?_
    obtain ⟨hz4, hF⟩ := ck_some hF
    refine lv_ldiv hx hb dX11_inLowest_23 hz4 ?_
    injection hF with hz
    subst hz
    exact cm_retl hx hb hr hlk hK hP hD hS dX11_inLowest_24
  rw [if_pos c3] at hF
  refine lv_lload_n hx hb dX11_inLowest_16 rfl (lv_at hl 1 rfl) ?_
  refine lv_goto (tgt := 21) hx hb dX11_inLowest_17 (by decide) ?_
  refine lv_lload hx hb dX11_inLowest_21 (lv_at hl 0 rfl) ?_
  obtain ⟨hz5, hF⟩ := ck_some hF
  refine lv_ldiv hx hb dX11_inLowest_23 hz5 ?_
  injection hF with hz
  subst hz
  exact cm_retl hx hb hr hlk hK hP hD hS dX11_inLowest_24

/-! HeadsByHair.far(III)J -/
abbrev rm_X11_far : Room := { frames := 2, cells := 0, slots := 0, locals := 52 }
set_option maxHeartbeats 4000000 in
set_option maxRecDepth 100000 in
theorem c_X11_far (l : Launch) (G : GG) (h a_now a_kept a_reader a_flight a_latest a_now_edge a_now_bend a_now_rise a_now_wandering a_now_thrown a_now_alike a_now_law a_now_tape a_now_side : Nat) (x_isKept x_now_coins x_now_hands x_now_laws x_now_bytes x_now_sides : Int32) (f_now_alike : Nat → Int32) (f_now_thrown : Nat → Int32) (l1 : Int32) (l2 : Int32) (l3 : Int32) (z : Int64) (hF : fX11_far x_now_coins x_now_hands f_now_alike f_now_thrown l1 l2 l3 = some (z)) : CMl l yX11_far wsX11_far rm_X11_far G [o11 h a_now a_kept x_isKept a_reader a_flight a_latest, o6 a_now x_now_coins x_now_hands x_now_laws x_now_bytes x_now_sides a_now_edge a_now_bend a_now_rise a_now_wandering a_now_thrown a_now_alike a_now_law a_now_tape a_now_side, aI G a_now_alike 36 f_now_alike, aI G a_now_thrown 36 f_now_thrown] [o11 h a_now a_kept x_isKept a_reader a_flight a_latest, o6 a_now x_now_coins x_now_hands x_now_laws x_now_bytes x_now_sides a_now_edge a_now_bend a_now_rise a_now_wandering a_now_thrown a_now_alike a_now_law a_now_tape a_now_side, aI G a_now_alike 36 f_now_alike, aI G a_now_thrown 36 f_now_thrown] [.ref h, .int l1, .int l2, .int l3] z := by
  refine cm_start (cc := cX11_far) (maxL := 8) (ret := (some .long)) (Qc := fun A => QL G [o11 h a_now a_kept x_isKept a_reader a_flight a_latest, o6 a_now x_now_coins x_now_hands x_now_laws x_now_bytes x_now_sides a_now_edge a_now_bend a_now_rise a_now_wandering a_now_thrown a_now_alike a_now_law a_now_tape a_now_side, aI G a_now_alike 36 f_now_alike, aI G a_now_thrown 36 f_now_thrown] z A) (by decide +kernel) rfl (Nat.le_of_ble_eq_true rfl) ?_
  intro p e s m args below meth c A hx hb hr hlk hml hown hnm hts hA H locs hP hK hD hE hS ls hl
  have hown : s.vm.findClass RX11 = some m.cls := hown
  have hl : lv_has ls 8 [(0, .ref h), (1, .int l1), (2, .int l2), (3, .int l3)] := hl
  have hin11 : ∀ w ∈ wsX110, w ∈ wsX11_far := by decide +kernel
  have lc_156 := hts (.constantLong RX11 156 (-9223372036854775808)) (by decide +kernel)
  have lk_12 := hts (.fieldLink RX11 12 "HeadsByHair" "now" "LHeadsByHair$Stock;") (by decide +kernel)
  revert hF
  have B82 : ∀ (l3 : Int32) (l4 : Int32) (s0 : Int64) (H : Heap) (locs : List Loc) (ls : Array Slot), va_P G.1 vwCl [o11 h a_now a_kept x_isKept a_reader a_flight a_latest, o6 a_now x_now_coins x_now_hands x_now_laws x_now_bytes x_now_sides a_now_edge a_now_bend a_now_rise a_now_wandering a_now_thrown a_now_alike a_now_law a_now_tape a_now_side, aI G a_now_alike 36 f_now_alike, aI G a_now_thrown 36 f_now_thrown] H → va_D A [o11 h a_now a_kept x_isKept a_reader a_flight a_latest, o6 a_now x_now_coins x_now_hands x_now_laws x_now_bytes x_now_sides a_now_edge a_now_bend a_now_rise a_now_wandering a_now_thrown a_now_alike a_now_law a_now_tape a_now_side, aI G a_now_alike 36 f_now_alike, aI G a_now_thrown 36 f_now_thrown] → va_S A s.heap H locs → lv_has ls 8 [(3, .int l3), (4, .int l4)] → fX11_far_b82 x_now_coins x_now_hands f_now_alike f_now_thrown l3 l4 s0 = some (z) → W p l e (rm_X11_far) s m args below meth c H locs 0 0 (MQ below (QL G [o11 h a_now a_kept x_isKept a_reader a_flight a_latest, o6 a_now x_now_coins x_now_hands x_now_laws x_now_bytes x_now_sides a_now_edge a_now_bend a_now_rise a_now_wandering a_now_thrown a_now_alike a_now_law a_now_tape a_now_side, aI G a_now_alike 36 f_now_alike, aI G a_now_thrown 36 f_now_thrown] z A) args s 0 0 A) (F0 m 82 ls [.long s0]) := by
    intro l3 l4 s0 H locs ls hP hD hS hl hF
    unfold fX11_far_b82 at hF
    refine lv_lstore (lv' := [(6, .long s0), (3, .int l3), (4, .int l4)]) hx hb dX11_far_82 hl (by decide) rfl (fun ls hl => ?_)
    refine lv_lload hx hb dX11_far_84 (lv_at hl 0 rfl) ?_
    refine lv_lconst (v := 1) hx hb dX11_far_86 (by decide) ?_
    refine lv_iload hx hb dX11_far_87 (lv_at hl 2 rfl) ?_
    refine lv_lshl (v := ((1 : Int64) <<< (l4.toInt64 &&& 63))) hx hb dX11_far_89 rfl ?_
    refine lv_iload_n hx hb dX11_far_90 rfl (lv_at hl 1 rfl) ?_
    obtain ⟨r18, hc19, hF⟩ := bd_some hF
    have hPc := hP.sub (ws' := []) [] rfl
    have hDc := hD.sub (ws' := []) [] (by decide) rfl
    have hFc := va_free (wc := []) hD hS hA [] rfl
    have hM := c_X11_inLowest l G s0 ((1 : Int64) <<< (l4.toInt64 &&& 63)) l3 r18 hc19 H.size
    refine cl_l (w1 := []) (ws' := [o11 h a_now a_kept x_isKept a_reader a_flight a_latest, o6 a_now x_now_coins x_now_hands x_now_laws x_now_bytes x_now_sides a_now_edge a_now_bend a_now_rise a_now_wandering a_now_thrown a_now_alike a_now_law a_now_tape a_now_side, aI G a_now_alike 36 f_now_alike, aI G a_now_thrown 36 f_now_thrown]) hP hD hS hFc [] rfl rfl rfl (va_runS (As := [.long s0, .long ((1 : Int64) <<< (l4.toInt64 &&& 63)), .int l3]) (rest := []) ⟨hx, hb, hml, hown, hts⟩ hM (va_cwS 3 hts gX11_far_X11_inLowest rfl rfl rfl (by decide +kernel) ⟨Nat.le_of_ble_eq_true rfl, Nat.le_of_ble_eq_true rfl⟩) (cp_S hK hE hS hPc hDc hFc) rfl rfl hl.1 rfl (lv_room (Nat.le_of_ble_eq_true rfl)) dX11_far_91 ⟨Nat.zero_le _, Nat.zero_le _⟩) (fun H locs hP hD hS => ?_)
    injection hF with hz
    subst hz
    exact cm_retl hx hb hr hlk hK hP hD hS dX11_far_94
  intro hF
  unfold fX11_far at hF
  refine lv_aload_n hx hb dX11_far_0 rfl (lv_at hl 0 rfl) ?_
  refine lv_iload_n hx hb dX11_far_1 rfl (lv_at hl 1 rfl) ?_
  obtain ⟨r1, hc2, hF⟩ := bd_some hF
  have hPc := hP.sub (ws' := [o11 h a_now a_kept x_isKept a_reader a_flight a_latest, o6 a_now x_now_coins x_now_hands x_now_laws x_now_bytes x_now_sides a_now_edge a_now_bend a_now_rise a_now_wandering a_now_thrown a_now_alike a_now_law a_now_tape a_now_side]) [0, 1] rfl
  have hDc := hD.sub (ws' := [o11 h a_now a_kept x_isKept a_reader a_flight a_latest, o6 a_now x_now_coins x_now_hands x_now_laws x_now_bytes x_now_sides a_now_edge a_now_bend a_now_rise a_now_wandering a_now_thrown a_now_alike a_now_law a_now_tape a_now_side]) [0, 1] (by decide) rfl
  have hFc := va_free (wc := [o11 h a_now a_kept x_isKept a_reader a_flight a_latest, o6 a_now x_now_coins x_now_hands x_now_laws x_now_bytes x_now_sides a_now_edge a_now_bend a_now_rise a_now_wandering a_now_thrown a_now_alike a_now_law a_now_tape a_now_side]) hD hS hA [0, 1] rfl
  have hM := c_X11_isHand l G h a_now a_kept a_reader a_flight a_latest a_now_edge a_now_bend a_now_rise a_now_wandering a_now_thrown a_now_alike a_now_law a_now_tape a_now_side x_isKept x_now_coins x_now_hands x_now_laws x_now_bytes x_now_sides l1 r1 hc2 H.size
  refine cl_i (w1 := [o11 h a_now a_kept x_isKept a_reader a_flight a_latest, o6 a_now x_now_coins x_now_hands x_now_laws x_now_bytes x_now_sides a_now_edge a_now_bend a_now_rise a_now_wandering a_now_thrown a_now_alike a_now_law a_now_tape a_now_side]) (ws' := [o11 h a_now a_kept x_isKept a_reader a_flight a_latest, o6 a_now x_now_coins x_now_hands x_now_laws x_now_bytes x_now_sides a_now_edge a_now_bend a_now_rise a_now_wandering a_now_thrown a_now_alike a_now_law a_now_tape a_now_side, aI G a_now_alike 36 f_now_alike, aI G a_now_thrown 36 f_now_thrown]) hP hD hS hFc [0, 1] rfl rfl rfl (va_runV (As := [.int l1]) (rest := []) ⟨hx, hb, hml, hown, hts⟩ hM (cwV 1 hts gX11_far_X11_isHand rfl rfl rfl (by decide +kernel) ⟨Nat.le_of_ble_eq_true rfl, Nat.le_of_ble_eq_true rfl⟩) (cp_V hK hE hS hPc hDc hFc (va_recv hK hPc (ci := 11) (q0 := 0) rfl rfl)) rfl rfl hl.1 rfl (lv_room (Nat.le_of_ble_eq_true rfl)) dX11_far_2 ⟨Nat.zero_le _, Nat.zero_le _⟩) (fun H locs hP hD hS => ?_)
  refine lv_if_eq (tgt := 24) hx hb dX11_far_5 (by decide) (fun c3 => ?_) (fun c3 => ?_)
  · rw [if_pos c3] at hF
    refine lv_ldc2 hx hb hown lc_156 dX11_far_24 ?_
    injection hF with hz
    subst hz
    exact cm_retl hx hb hr hlk hK hP hD hS dX11_far_27
  rw [if_neg c3] at hF
  refine lv_iload_n hx hb dX11_far_8 rfl (lv_at hl 2 rfl) ?_
  refine lv_iconst (v := 0) hx hb dX11_far_9 (by decide) ?_
  refine lv_iconst (v := 1) hx hb dX11_far_10 (by decide) ?_
  obtain ⟨r4, hc5, hF⟩ := bd_some hF
  have hPc := hP.sub (ws' := []) [] rfl
  have hDc := hD.sub (ws' := []) [] (by decide) rfl
  have hFc := va_free (wc := []) hD hS hA [] rfl
  have hM := c_X11_isWithin l G l2 (0 : Int32) (1 : Int32) r4 hc5 H.size
  refine cl_i (w1 := []) (ws' := [o11 h a_now a_kept x_isKept a_reader a_flight a_latest, o6 a_now x_now_coins x_now_hands x_now_laws x_now_bytes x_now_sides a_now_edge a_now_bend a_now_rise a_now_wandering a_now_thrown a_now_alike a_now_law a_now_tape a_now_side, aI G a_now_alike 36 f_now_alike, aI G a_now_thrown 36 f_now_thrown]) hP hD hS hFc [] rfl rfl rfl (va_runS (As := [.int l2, .int 0, .int 1]) (rest := []) ⟨hx, hb, hml, hown, hts⟩ hM (va_cwS 3 hts gX11_far_X11_isWithin rfl rfl rfl (by decide +kernel) ⟨Nat.le_of_ble_eq_true rfl, Nat.le_of_ble_eq_true rfl⟩) (cp_S hK hE hS hPc hDc hFc) rfl rfl hl.1 rfl (lv_room (Nat.le_of_ble_eq_true rfl)) dX11_far_11 ⟨Nat.zero_le _, Nat.zero_le _⟩) (fun H locs hP hD hS => ?_)
  refine lv_if_eq (tgt := 24) hx hb dX11_far_14 (by decide) (fun c6 => ?_) (fun c6 => ?_)
  · rw [if_pos c6] at hF
    refine lv_ldc2 hx hb hown lc_156 dX11_far_24 ?_
    injection hF with hz
    subst hz
    exact cm_retl hx hb hr hlk hK hP hD hS dX11_far_27
  rw [if_neg c6] at hF
  refine lv_iload_n hx hb dX11_far_17 rfl (lv_at hl 3 rfl) ?_
  obtain ⟨r7, hc8, hF⟩ := bd_some hF
  have hPc := hP.sub (ws' := []) [] rfl
  have hDc := hD.sub (ws' := []) [] (by decide) rfl
  have hFc := va_free (wc := []) hD hS hA [] rfl
  have hM := c_X11_isPart l G l3 r7 hc8 H.size
  refine cl_i (w1 := []) (ws' := [o11 h a_now a_kept x_isKept a_reader a_flight a_latest, o6 a_now x_now_coins x_now_hands x_now_laws x_now_bytes x_now_sides a_now_edge a_now_bend a_now_rise a_now_wandering a_now_thrown a_now_alike a_now_law a_now_tape a_now_side, aI G a_now_alike 36 f_now_alike, aI G a_now_thrown 36 f_now_thrown]) hP hD hS hFc [] rfl rfl rfl (va_runS (As := [.int l3]) (rest := []) ⟨hx, hb, hml, hown, hts⟩ hM (va_cwS 1 hts gX11_far_X11_isPart rfl rfl rfl (by decide +kernel) ⟨Nat.le_of_ble_eq_true rfl, Nat.le_of_ble_eq_true rfl⟩) (cp_S hK hE hS hPc hDc hFc) rfl rfl hl.1 rfl (lv_room (Nat.le_of_ble_eq_true rfl)) dX11_far_18 ⟨Nat.zero_le _, Nat.zero_le _⟩) (fun H locs hP hD hS => ?_)
  refine lv_if_ne (tgt := 28) hx hb dX11_far_21 (by decide) (fun c9 => ?_) (fun c9 => ?_)
  · rw [if_neg c9] at hF
    refine lv_aload_n hx hb dX11_far_28 rfl (lv_at hl 0 rfl) ?_
    refine W.eq (g2 := F0 m 29 ls [.ref h]) rfl ?_
    refine va_get (D := G.1) (ci := 11) (v := .ref a_now) (C := RX11) (T := TX11) (N := 6) hx hb hts hin11 hown hK hP 0 rfl rfl 0 (by decide) lk_12 (fun _ h9 => h9) rfl dX11_far_29 ?_
    refine lv_iload_n hx hb dX11_far_32 rfl (lv_at hl 1 rfl) ?_
    obtain ⟨r10, hc11, hF⟩ := bd_some hF
    have hPc := hP.sub (ws' := [o6 a_now x_now_coins x_now_hands x_now_laws x_now_bytes x_now_sides a_now_edge a_now_bend a_now_rise a_now_wandering a_now_thrown a_now_alike a_now_law a_now_tape a_now_side, aI G a_now_thrown 36 f_now_thrown]) [1, 3] rfl
    have hDc := hD.sub (ws' := [o6 a_now x_now_coins x_now_hands x_now_laws x_now_bytes x_now_sides a_now_edge a_now_bend a_now_rise a_now_wandering a_now_thrown a_now_alike a_now_law a_now_tape a_now_side, aI G a_now_thrown 36 f_now_thrown]) [1, 3] (by decide) rfl
    have hFc := va_free (wc := [o6 a_now x_now_coins x_now_hands x_now_laws x_now_bytes x_now_sides a_now_edge a_now_bend a_now_rise a_now_wandering a_now_thrown a_now_alike a_now_law a_now_tape a_now_side, aI G a_now_thrown 36 f_now_thrown]) hD hS hA [1, 3] rfl
    have hM := c_X6_allThrown l G a_now a_now_edge a_now_bend a_now_rise a_now_wandering a_now_thrown a_now_alike a_now_law a_now_tape a_now_side x_now_coins x_now_hands x_now_laws x_now_bytes x_now_sides f_now_thrown l1 r10 hc11 H.size
    refine cl_i (w1 := [o6 a_now x_now_coins x_now_hands x_now_laws x_now_bytes x_now_sides a_now_edge a_now_bend a_now_rise a_now_wandering a_now_thrown a_now_alike a_now_law a_now_tape a_now_side, aI G a_now_thrown 36 f_now_thrown]) (ws' := [o11 h a_now a_kept x_isKept a_reader a_flight a_latest, o6 a_now x_now_coins x_now_hands x_now_laws x_now_bytes x_now_sides a_now_edge a_now_bend a_now_rise a_now_wandering a_now_thrown a_now_alike a_now_law a_now_tape a_now_side, aI G a_now_alike 36 f_now_alike, aI G a_now_thrown 36 f_now_thrown]) hP hD hS hFc [1, 3] rfl rfl rfl (va_runVN (As := [.int l1]) (rest := []) ⟨hx, hb, hml, hown, hts⟩ hM ⟨va_cnB 1 hts gX11_far_X6_allThrown_n74 rfl rfl rfl (hE.nw (.methodLinkNest RX11 74 yX6_allThrown "HeadsByHair") (by decide +kernel)) (hts (.initialized RX6) (by decide +kernel)) (by decide +kernel) ⟨Nat.le_of_ble_eq_true rfl, Nat.le_of_ble_eq_true rfl⟩, hts (.instanceMethod yX6_allThrown) (by decide +kernel), hts (.selects RX6 yX6_allThrown yX6_allThrown) (by decide +kernel)⟩ (cp_V hK hE hS hPc hDc hFc (va_recv hK hPc (ci := 6) (q0 := 0) rfl rfl)) rfl rfl hl.1 rfl (lv_room (Nat.le_of_ble_eq_true rfl)) dX11_far_33 ⟨Nat.zero_le _, Nat.zero_le _⟩) (fun H locs hP hD hS => ?_)
    refine lv_istore (lv' := [(4, .int r10), (0, .ref h), (1, .int l1), (2, .int l2), (3, .int l3)]) hx hb dX11_far_36 hl (by decide) rfl (fun ls hl => ?_)
    refine lv_aload_n hx hb dX11_far_38 rfl (lv_at hl 1 rfl) ?_
    refine va_get (D := G.1) (ci := 11) (v := .ref a_now) (C := RX11) (T := TX11) (N := 6) hx hb hts hin11 hown hK hP 0 rfl rfl 0 (by decide) lk_12 (fun _ h9 => h9) rfl dX11_far_39 ?_
    refine lv_iload_n hx hb dX11_far_42 rfl (lv_at hl 2 rfl) ?_
    obtain ⟨r12, hc13, hF⟩ := bd_some hF
    have hPc := hP.sub (ws' := [o6 a_now x_now_coins x_now_hands x_now_laws x_now_bytes x_now_sides a_now_edge a_now_bend a_now_rise a_now_wandering a_now_thrown a_now_alike a_now_law a_now_tape a_now_side, aI G a_now_alike 36 f_now_alike]) [1, 2] rfl
    have hDc := hD.sub (ws' := [o6 a_now x_now_coins x_now_hands x_now_laws x_now_bytes x_now_sides a_now_edge a_now_bend a_now_rise a_now_wandering a_now_thrown a_now_alike a_now_law a_now_tape a_now_side, aI G a_now_alike 36 f_now_alike]) [1, 2] (by decide) rfl
    have hFc := va_free (wc := [o6 a_now x_now_coins x_now_hands x_now_laws x_now_bytes x_now_sides a_now_edge a_now_bend a_now_rise a_now_wandering a_now_thrown a_now_alike a_now_law a_now_tape a_now_side, aI G a_now_alike 36 f_now_alike]) hD hS hA [1, 2] rfl
    have hM := c_X6_allAlike l G a_now a_now_edge a_now_bend a_now_rise a_now_wandering a_now_thrown a_now_alike a_now_law a_now_tape a_now_side x_now_coins x_now_hands x_now_laws x_now_bytes x_now_sides f_now_alike l1 r12 hc13 H.size
    refine cl_i (w1 := [o6 a_now x_now_coins x_now_hands x_now_laws x_now_bytes x_now_sides a_now_edge a_now_bend a_now_rise a_now_wandering a_now_thrown a_now_alike a_now_law a_now_tape a_now_side, aI G a_now_alike 36 f_now_alike]) (ws' := [o11 h a_now a_kept x_isKept a_reader a_flight a_latest, o6 a_now x_now_coins x_now_hands x_now_laws x_now_bytes x_now_sides a_now_edge a_now_bend a_now_rise a_now_wandering a_now_thrown a_now_alike a_now_law a_now_tape a_now_side, aI G a_now_alike 36 f_now_alike, aI G a_now_thrown 36 f_now_thrown]) hP hD hS hFc [1, 2] rfl rfl rfl (va_runVN (As := [.int l1]) (rest := []) ⟨hx, hb, hml, hown, hts⟩ hM ⟨va_cnB 1 hts gX11_far_X6_allAlike_n77 rfl rfl rfl (hE.nw (.methodLinkNest RX11 77 yX6_allAlike "HeadsByHair") (by decide +kernel)) (hts (.initialized RX6) (by decide +kernel)) (by decide +kernel) ⟨Nat.le_of_ble_eq_true rfl, Nat.le_of_ble_eq_true rfl⟩, hts (.instanceMethod yX6_allAlike) (by decide +kernel), hts (.selects RX6 yX6_allAlike yX6_allAlike) (by decide +kernel)⟩ (cp_V hK hE hS hPc hDc hFc (va_recv hK hPc (ci := 6) (q0 := 0) rfl rfl)) rfl rfl hl.1 rfl (lv_room (Nat.le_of_ble_eq_true rfl)) dX11_far_43 ⟨Nat.zero_le _, Nat.zero_le _⟩) (fun H locs hP hD hS => ?_)
    refine lv_istore (lv' := [(5, .int r12), (4, .int r10), (0, .ref h), (1, .int l1), (2, .int l2), (3, .int l3)]) hx hb dX11_far_46 hl (by decide) rfl (fun ls hl => ?_)
    refine lv_iload hx hb dX11_far_48 (lv_at hl 1 rfl) ?_
    refine lv_bipush (v := 30) hx hb dX11_far_50 (by decide) ?_
    refine lv_icmp_le (tgt := 59) hx hb dX11_far_52 (by decide) (fun c14 => ?_) (fun c14 => ?_)
    · rw [if_pos c14] at hF
      refine lv_iload_n hx hb dX11_far_59 rfl (lv_at hl 4 rfl) ?_
      refine lv_if_ne (tgt := 73) hx hb dX11_far_60 (by decide) (fun c15 => ?_) (fun c15 => ?_)
      · rw [if_neg c15] at hF
        refine W.eq (g2 := F0 m 73 ls []) rfl ?_
        refine lv_iload hx hb dX11_far_73 (lv_at hl 1 rfl) ?_
        refine lv_iload hx hb dX11_far_75 (lv_at hl 0 rfl) ?_
        refine lv_iload hx hb dX11_far_77 (lv_at hl 1 rfl) ?_
        obtain ⟨r16, hc17, hF⟩ := bd_some hF
        have hPc := hP.sub (ws' := []) [] rfl
        have hDc := hD.sub (ws' := []) [] (by decide) rfl
        have hFc := va_free (wc := []) hD hS hA [] rfl
        have hM := c_X11_choicesBetween l G r10 r12 r10 r16 hc17 H.size
        refine cl_l (w1 := []) (ws' := [o11 h a_now a_kept x_isKept a_reader a_flight a_latest, o6 a_now x_now_coins x_now_hands x_now_laws x_now_bytes x_now_sides a_now_edge a_now_bend a_now_rise a_now_wandering a_now_thrown a_now_alike a_now_law a_now_tape a_now_side, aI G a_now_alike 36 f_now_alike, aI G a_now_thrown 36 f_now_thrown]) hP hD hS hFc [] rfl rfl rfl (va_runS (As := [.int r10, .int r12, .int r10]) (rest := []) ⟨hx, hb, hml, hown, hts⟩ hM (va_cwS 3 hts gX11_far_X11_choicesBetween rfl rfl rfl (by decide +kernel) ⟨Nat.le_of_ble_eq_true rfl, Nat.le_of_ble_eq_true rfl⟩) (cp_S hK hE hS hPc hDc hFc) rfl rfl hl.1 rfl (lv_room (Nat.le_of_ble_eq_true rfl)) dX11_far_79 ⟨Nat.zero_le _, Nat.zero_le _⟩) (fun H locs hP hD hS => ?_)
        exact B82 _ _ _ H locs ls hP hD hS (lv_sub hl [5, 1] rfl) hF
      rw [if_pos c15] at hF
      refine W.eq (g2 := F0 m 63 ls []) rfl ?_
      refine lv_iload hx hb dX11_far_63 (lv_at hl 1 rfl) ?_
      refine lv_iload hx hb dX11_far_65 (lv_at hl 0 rfl) ?_
      obtain ⟨r20, hc21, hF⟩ := bd_some hF
      have hPc := hP.sub (ws' := []) [] rfl
      have hDc := hD.sub (ws' := []) [] (by decide) rfl
      have hFc := va_free (wc := []) hD hS hA [] rfl
      have hM := c_X11_choices l G r10 r12 r20 hc21 H.size
      refine cl_l (w1 := []) (ws' := [o11 h a_now a_kept x_isKept a_reader a_flight a_latest, o6 a_now x_now_coins x_now_hands x_now_laws x_now_bytes x_now_sides a_now_edge a_now_bend a_now_rise a_now_wandering a_now_thrown a_now_alike a_now_law a_now_tape a_now_side, aI G a_now_alike 36 f_now_alike, aI G a_now_thrown 36 f_now_thrown]) hP hD hS hFc [] rfl rfl rfl (va_runS (As := [.int r10, .int r12]) (rest := []) ⟨hx, hb, hml, hown, hts⟩ hM (va_cwS 2 hts gX11_far_X11_choices rfl rfl rfl (by decide +kernel) ⟨Nat.le_of_ble_eq_true rfl, Nat.le_of_ble_eq_true rfl⟩) (cp_S hK hE hS hPc hDc hFc) rfl rfl hl.1 rfl (lv_room (Nat.le_of_ble_eq_true rfl)) dX11_far_67 ⟨Nat.zero_le _, Nat.zero_le _⟩) (fun H locs hP hD hS => ?_)
      refine lv_goto (tgt := 82) hx hb dX11_far_70 (by decide) ?_
      exact B82 _ _ _ H locs ls hP hD hS (lv_sub hl [5, 1] rfl) hF
    rw [if_neg c14] at hF
    refine lv_ldc2 hx hb hown lc_156 dX11_far_55 ?_
    injection hF with hz
    subst hz
    exact cm_retl hx hb hr hlk hK hP hD hS dX11_far_58
  rw [if_pos c9] at hF
  refine lv_ldc2 hx hb hown lc_156 dX11_far_24 ?_
  refine W.eq (g2 := F0 m 27 ls [.long (-9223372036854775808)]) rfl ?_
  injection hF with hz
  subst hz
  exact cm_retl hx hb hr hlk hK hP hD hS dX11_far_27

/-! HeadsByHair.power(JI)J -/
abbrev rm_X11_power : Room := { frames := 0, cells := 0, slots := 0, locals := 0 }
set_option maxHeartbeats 4000000 in
set_option maxRecDepth 100000 in
theorem c_X11_power (l : Launch) (G : GG) (l0 : Int64) (l2 : Int32) (z : Int64) (hF : fX11_power l0 l2 = some (z)) : CMl l yX11_power wsX11_power rm_X11_power G [] [] [.long l0, .int l2] z := by
  refine cm_start (cc := cX11_power) (maxL := 6) (ret := (some .long)) (Qc := fun A => QL G [] z A) (by decide +kernel) rfl (Nat.le_of_ble_eq_true rfl) ?_
  intro p e s m args below meth c A hx hb hr hlk hml hown hnm hts hA H locs hP hK hD hE hS ls hl
  have hown : s.vm.findClass RX11 = some m.cls := hown
  have hl : lv_has ls 6 [(0, .long l0), (2, .int l2)] := hl
  revert hF
  have LP5 : ∀ (l0 : Int64) (l2 : Int32) (n : Nat) (l3 : Int64) (l5 : Int32) (H : Heap) (locs : List Loc) (ls : Array Slot), va_P G.1 vwCl [] H → va_D A [] → va_S A s.heap H locs → lv_has ls 6 [(0, .long l0), (2, .int l2), (3, .long l3), (5, .int l5)] → fX11_power_L5 l0 l2 n l3 l5 = some (z) → W p l e (rm_X11_power) s m args below meth c H locs 0 0 (MQ below (QL G [] z A) args s 0 0 A) (F0 m 5 ls []) := by
    intro l0 l2 n
    induction n with
    | zero =>
      intro l3 l5 H locs ls hP hD hS hl hF
      cases hF
    | succ n ih =>
      intro l3 l5 H locs ls hP hD hS hl hF
      rw [fX11_power_L5] at hF
      refine lv_iload hx hb dX11_power_5 (lv_at hl 3 rfl) ?_
      refine lv_iload_n hx hb dX11_power_7 rfl (lv_at hl 1 rfl) ?_
      refine lv_icmp_ge (tgt := 21) hx hb dX11_power_8 (by decide) (fun c1 => ?_) (fun c1 => ?_)
      · rw [if_pos c1] at hF
        refine lv_lload_n hx hb dX11_power_21 rfl (lv_at hl 2 rfl) ?_
        injection hF with hz
        subst hz
        exact cm_retl hx hb hr hlk hK hP hD hS dX11_power_22
      rw [if_neg c1] at hF
      refine lv_lload_n hx hb dX11_power_11 rfl (lv_at hl 2 rfl) ?_
      refine lv_lload_n hx hb dX11_power_12 rfl (lv_at hl 0 rfl) ?_
      refine lv_lmul hx hb dX11_power_13 ?_
      refine lv_lstore_n (lv' := [(3, .long (l3 * l0)), (0, .long l0), (2, .int l2), (5, .int l5)]) hx hb dX11_power_14 rfl hl (by decide) rfl (fun ls hl => ?_)
      refine lv_iinc (v := l5 + 1) (lv' := [(5, .int (l5 + 1)), (3, .long (l3 * l0)), (0, .long l0), (2, .int l2)]) hx hb dX11_power_15 hl (k := 3) rfl rfl (by decide) rfl (fun ls hl => ?_)
      refine lv_goto (tgt := 5) hx hb dX11_power_18 (by decide) ?_
      exact ih _ _ H locs ls hP hD hS (lv_sub hl [2, 3, 1, 0] rfl) hF
  intro hF
  unfold fX11_power at hF
  refine lv_lconst (v := 1) hx hb dX11_power_0 (by decide) ?_
  refine lv_lstore_n (lv' := [(3, .long 1), (0, .long l0), (2, .int l2)]) hx hb dX11_power_1 rfl hl (by decide) rfl (fun ls hl => ?_)
  refine lv_iconst (v := 0) hx hb dX11_power_2 (by decide) ?_
  refine lv_istore (lv' := [(5, .int 0), (3, .long 1), (0, .long l0), (2, .int l2)]) hx hb dX11_power_3 hl (by decide) rfl (fun ls hl => ?_)
  refine LP5 _ _ _ _ _ H locs ls hP hD hS (lv_sub hl [2, 3, 1, 0] rfl) hF

/-! HeadsByHair.atLeast(III)J -/
abbrev rm_X11_atLeast : Room := { frames := 1, cells := 0, slots := 0, locals := 25 }
set_option maxHeartbeats 4000000 in
set_option maxRecDepth 100000 in
theorem c_X11_atLeast (l : Launch) (G : GG) (l0 : Int32) (l1 : Int32) (l2 : Int32) (z : Int64) (hF : fX11_atLeast l0 l1 l2 = some (z)) : CMl l yX11_atLeast wsX11_atLeast rm_X11_atLeast G [] [] [.int l0, .int l1, .int l2] z := by
  refine cm_start (cc := cX11_atLeast) (maxL := 6) (ret := (some .long)) (Qc := fun A => QL G [] z A) (by decide +kernel) rfl (Nat.le_of_ble_eq_true rfl) ?_
  intro p e s m args below meth c A hx hb hr hlk hml hown hnm hts hA H locs hP hK hD hE hS ls hl
  have hown : s.vm.findClass RX11 = some m.cls := hown
  have hl : lv_has ls 6 [(0, .int l0), (1, .int l1), (2, .int l2)] := hl
  revert hF
  have LP5 : ∀ (l0 : Int32) (l2 : Int32) (n : Nat) (l3 : Int64) (l5 : Int32) (H : Heap) (locs : List Loc) (ls : Array Slot), va_P G.1 vwCl [] H → va_D A [] → va_S A s.heap H locs → lv_has ls 6 [(0, .int l0), (2, .int l2), (3, .long l3), (5, .int l5)] → fX11_atLeast_L5 l0 l2 n l3 l5 = some (z) → W p l e (rm_X11_atLeast) s m args below meth c H locs 0 0 (MQ below (QL G [] z A) args s 0 0 A) (F0 m 5 ls []) := by
    intro l0 l2 n
    induction n with
    | zero =>
      intro l3 l5 H locs ls hP hD hS hl hF
      cases hF
    | succ n ih =>
      intro l3 l5 H locs ls hP hD hS hl hF
      rw [fX11_atLeast_L5] at hF
      refine lv_iload hx hb dX11_atLeast_5 (lv_at hl 3 rfl) ?_
      refine lv_iload_n hx hb dX11_atLeast_7 rfl (lv_at hl 0 rfl) ?_
      refine lv_icmp_gt (tgt := 47) hx hb dX11_atLeast_8 (by decide) (fun c1 => ?_) (fun c1 => ?_)
      · rw [if_pos c1] at hF
        refine lv_lload_n hx hb dX11_atLeast_47 rfl (lv_at hl 2 rfl) ?_
        injection hF with hz
        subst hz
        exact cm_retl hx hb hr hlk hK hP hD hS dX11_atLeast_48
      rw [if_neg c1] at hF
      refine lv_lload_n hx hb dX11_atLeast_11 rfl (lv_at hl 2 rfl) ?_
      refine lv_iload_n hx hb dX11_atLeast_12 rfl (lv_at hl 0 rfl) ?_
      refine lv_iload hx hb dX11_atLeast_13 (lv_at hl 3 rfl) ?_
      obtain ⟨r2, hc3, hF⟩ := bd_some hF
      have hPc := hP.sub (ws' := []) [] rfl
      have hDc := hD.sub (ws' := []) [] (by decide) rfl
      have hFc := va_free (wc := []) hD hS hA [] rfl
      have hM := c_X11_choices l G l0 l5 r2 hc3 H.size
      refine cl_l (w1 := []) (ws' := []) hP hD hS hFc [] rfl rfl rfl (va_runS (As := [.int l0, .int l5]) (rest := [.long l3]) ⟨hx, hb, hml, hown, hts⟩ hM (va_cwS 2 hts gX11_atLeast_X11_choices rfl rfl rfl (by decide +kernel) ⟨Nat.le_of_ble_eq_true rfl, Nat.le_of_ble_eq_true rfl⟩) (cp_S hK hE hS hPc hDc hFc) rfl rfl hl.1 rfl (lv_room (Nat.le_of_ble_eq_true rfl)) dX11_atLeast_15 ⟨Nat.zero_le _, Nat.zero_le _⟩) (fun H locs hP hD hS => ?_)
      refine lv_iload_n hx hb dX11_atLeast_18 rfl (lv_at hl 1 rfl) ?_
      refine lv_i2l (v := l2.toInt64) hx hb dX11_atLeast_19 rfl ?_
      refine lv_iload hx hb dX11_atLeast_20 (lv_at hl 3 rfl) ?_
      obtain ⟨r4, hc5, hF⟩ := bd_some hF
      have hPc := hP.sub (ws' := []) [] rfl
      have hDc := hD.sub (ws' := []) [] (by decide) rfl
      have hFc := va_free (wc := []) hD hS hA [] rfl
      have hM := c_X11_power l G l2.toInt64 l5 r4 hc5 H.size
      refine cl_l (w1 := []) (ws' := []) hP hD hS hFc [] rfl rfl rfl (va_runS (As := [.long l2.toInt64, .int l5]) (rest := [.long r2, .long l3]) ⟨hx, hb, hml, hown, hts⟩ hM (va_cwS 2 hts gX11_atLeast_X11_power rfl rfl rfl (by decide +kernel) ⟨Nat.le_of_ble_eq_true rfl, Nat.le_of_ble_eq_true rfl⟩) (cp_S hK hE hS hPc hDc hFc) rfl rfl hl.1 rfl (lv_room (Nat.le_of_ble_eq_true rfl)) dX11_atLeast_22 ⟨Nat.zero_le _, Nat.zero_le _⟩) (fun H locs hP hD hS => ?_)
      refine lv_lmul hx hb dX11_atLeast_25 ?_
      refine lv_bipush (v := 100) hx hb dX11_atLeast_26 (by decide) ?_
      refine W.eq (g2 := F0 m 28 ls [.int 100, .long (r2 * r4), .long l3]) rfl ?_
      refine lv_iload_n hx hb dX11_atLeast_28 rfl (lv_at hl 1 rfl) ?_
      refine lv_isub hx hb dX11_atLeast_29 ?_
      refine lv_i2l (v := (100 - l2).toInt64) hx hb dX11_atLeast_30 rfl ?_
      refine lv_iload_n hx hb dX11_atLeast_31 rfl (lv_at hl 0 rfl) ?_
      refine lv_iload hx hb dX11_atLeast_32 (lv_at hl 3 rfl) ?_
      refine lv_isub hx hb dX11_atLeast_34 ?_
      obtain ⟨r6, hc7, hF⟩ := bd_some hF
      have hPc := hP.sub (ws' := []) [] rfl
      have hDc := hD.sub (ws' := []) [] (by decide) rfl
      have hFc := va_free (wc := []) hD hS hA [] rfl
      have hM := c_X11_power l G ((100 - l2).toInt64) (l0 - l5) r6 hc7 H.size
      refine cl_l (w1 := []) (ws' := []) hP hD hS hFc [] rfl rfl rfl (va_runS (As := [.long ((100 - l2).toInt64), .int (l0 - l5)]) (rest := [.long (r2 * r4), .long l3]) ⟨hx, hb, hml, hown, hts⟩ hM (va_cwS 2 hts gX11_atLeast_X11_power rfl rfl rfl (by decide +kernel) ⟨Nat.le_of_ble_eq_true rfl, Nat.le_of_ble_eq_true rfl⟩) (cp_S hK hE hS hPc hDc hFc) rfl rfl hl.1 rfl (lv_room (Nat.le_of_ble_eq_true rfl)) dX11_atLeast_35 ⟨Nat.zero_le _, Nat.zero_le _⟩) (fun H locs hP hD hS => ?_)
      refine lv_lmul hx hb dX11_atLeast_38 ?_
      refine lv_ladd hx hb dX11_atLeast_39 ?_
      refine lv_lstore_n (lv' := [(3, .long (l3 + ((r2 * r4) * r6))), (0, .int l0), (2, .int l2), (5, .int l5)]) hx hb dX11_atLeast_40 rfl hl (by decide) rfl (fun ls hl => ?_)
      refine lv_iinc (v := l5 + 1) (lv' := [(5, .int (l5 + 1)), (3, .long (l3 + ((r2 * r4) * r6))), (0, .int l0), (2, .int l2)]) hx hb dX11_atLeast_41 hl (k := 3) rfl rfl (by decide) rfl (fun ls hl => ?_)
      refine lv_goto (tgt := 5) hx hb dX11_atLeast_44 (by decide) ?_
      exact ih _ _ H locs ls hP hD hS (lv_sub hl [2, 3, 1, 0] rfl) hF
  intro hF
  unfold fX11_atLeast at hF
  refine lv_lconst (v := 0) hx hb dX11_atLeast_0 (by decide) ?_
  refine lv_lstore_n (lv' := [(3, .long 0), (0, .int l0), (1, .int l1), (2, .int l2)]) hx hb dX11_atLeast_1 rfl hl (by decide) rfl (fun ls hl => ?_)
  refine lv_iload_n hx hb dX11_atLeast_2 rfl (lv_at hl 2 rfl) ?_
  refine lv_istore (lv' := [(5, .int l1), (3, .long 0), (0, .int l0), (1, .int l1), (2, .int l2)]) hx hb dX11_atLeast_3 hl (by decide) rfl (fun ls hl => ?_)
  refine LP5 _ _ _ _ _ H locs ls hP hD hS (lv_sub hl [2, 4, 1, 0] rfl) hF

/-! HeadsByHair.need(III)I -/
abbrev rm_X11_need : Room := { frames := 2, cells := 0, slots := 0, locals := 50 }
set_option maxHeartbeats 4000000 in
set_option maxRecDepth 100000 in
theorem c_X11_need (l : Launch) (G : GG) (h : Nat) (l1 : Int32) (l2 : Int32) (l3 : Int32) (z : Int32) (hF : fX11_need l1 l2 l3 = some (z)) : CMi l yX11_need wsX11_need rm_X11_need G [] [] [.ref h, .int l1, .int l2, .int l3] z := by
  refine cm_start (cc := cX11_need) (maxL := 9) (ret := (some .int)) (Qc := fun A => QI G [] z A) (by decide +kernel) rfl (Nat.le_of_ble_eq_true rfl) ?_
  intro p e s m args below meth c A hx hb hr hlk hml hown hnm hts hA H locs hP hK hD hE hS ls hl
  have hown : s.vm.findClass RX11 = some m.cls := hown
  have hl : lv_has ls 9 [(0, .ref h), (1, .int l1), (2, .int l2), (3, .int l3)] := hl
  have lc_172 := hts (.constantLong RX11 172 (100)) (by decide +kernel)
  revert hF
  have LP47 : ∀ (l1 : Int32) (l2 : Int32) (l3 : Int32) (l4 : Int32) (l5 : Int64) (k124 : Option (Int32)) (hk124 : ∀ (H : Heap) (locs : List Loc) (ls : Array Slot), va_P G.1 vwCl [] H → va_D A [] → va_S A s.heap H locs → lv_has ls 9 [(1, .int l1), (2, .int l2), (3, .int l3), (4, .int l4)] → k124 = some (z) → W p l e (rm_X11_need) s m args below meth c H locs 0 0 (MQ below (QI G [] z A) args s 0 0 A) (F0 m 124 ls [])) (n : Nat) (l7 : Int32) (H : Heap) (locs : List Loc) (ls : Array Slot), va_P G.1 vwCl [] H → va_D A [] → va_S A s.heap H locs → lv_has ls 9 [(1, .int l1), (2, .int l2), (3, .int l3), (4, .int l4), (5, .long l5), (7, .int l7)] → fX11_need_L47 k124 l1 l2 l3 l4 l5 n l7 = some (z) → W p l e (rm_X11_need) s m args below meth c H locs 0 0 (MQ below (QI G [] z A) args s 0 0 A) (F0 m 47 ls []) := by
    intro l1 l2 l3 l4 l5 k124 hk124 n
    induction n with
    | zero =>
      intro l7 H locs ls hP hD hS hl hF
      cases hF
    | succ n ih =>
      have B80 : ∀ (l7 : Int32) (s0 : Int32) (H : Heap) (locs : List Loc) (ls : Array Slot), va_P G.1 vwCl [] H → va_D A [] → va_S A s.heap H locs → lv_has ls 9 [(1, .int l1), (2, .int l2), (3, .int l3), (4, .int l4), (5, .long l5), (7, .int l7)] → fX11_need_b80 (fX11_need_L47 k124 l1 l2 l3 l4 l5 n) k124 l1 l2 l3 l4 l5 l7 s0 = some (z) → W p l e (rm_X11_need) s m args below meth c H locs 0 0 (MQ below (QI G [] z A) args s 0 0 A) (F0 m 80 ls [.int s0]) := by
        intro l7 s0 H locs ls hP hD hS hl hF
        unfold fX11_need_b80 at hF
        refine lv_istore (lv' := [(8, .int s0), (1, .int l1), (2, .int l2), (3, .int l3), (4, .int l4), (5, .long l5), (7, .int l7)]) hx hb dX11_need_80 hl (by decide) rfl (fun ls hl => ?_)
        refine lv_iload hx hb dX11_need_82 (lv_at hl 0 rfl) ?_
        refine lv_if_eq (tgt := 118) hx hb dX11_need_84 (by decide) (fun c17 => ?_) (fun c17 => ?_)
        · rw [if_pos c17] at hF
          refine lv_iinc (v := l7 + 1) (lv' := [(7, .int (l7 + 1)), (8, .int s0), (1, .int l1), (2, .int l2), (3, .int l3), (4, .int l4), (5, .long l5)]) hx hb dX11_need_118 hl (k := 6) rfl rfl (by decide) rfl (fun ls hl => ?_)
          refine lv_goto (tgt := 47) hx hb dX11_need_121 (by decide) ?_
          exact ih _ H locs ls hP hD hS (lv_sub hl [2, 3, 4, 5, 6, 0] rfl) hF
        rw [if_neg c17] at hF
        refine lv_ldc2 hx hb hown lc_172 dX11_need_87 ?_
        refine lv_iload hx hb dX11_need_90 (lv_at hl 4 rfl) ?_
        refine lv_iload hx hb dX11_need_92 (lv_at hl 6 rfl) ?_
        refine lv_bipush (v := 50) hx hb dX11_need_94 (by decide) ?_
        obtain ⟨r18, hc19, hF⟩ := bd_some hF
        have hPc := hP.sub (ws' := []) [] rfl
        have hDc := hD.sub (ws' := []) [] (by decide) rfl
        have hFc := va_free (wc := []) hD hS hA [] rfl
        have hM := c_X11_atLeast l G l4 l7 (50 : Int32) r18 hc19 H.size
        refine cl_l (w1 := []) (ws' := []) hP hD hS hFc [] rfl rfl rfl (va_runS (As := [.int l4, .int l7, .int 50]) (rest := [.long 100]) ⟨hx, hb, hml, hown, hts⟩ hM (va_cwS 3 hts gX11_need_X11_atLeast rfl rfl rfl (by decide +kernel) ⟨Nat.le_of_ble_eq_true rfl, Nat.le_of_ble_eq_true rfl⟩) (cp_S hK hE hS hPc hDc hFc) rfl rfl hl.1 rfl (lv_room (Nat.le_of_ble_eq_true rfl)) dX11_need_96 ⟨Nat.zero_le _, Nat.zero_le _⟩) (fun H locs hP hD hS => ?_)
        refine lv_lmul hx hb dX11_need_99 ?_
        refine lv_iload_n hx hb dX11_need_100 rfl (lv_at hl 3 rfl) ?_
        refine lv_i2l (v := l3.toInt64) hx hb dX11_need_101 rfl ?_
        refine lv_lload hx hb dX11_need_102 (lv_at hl 5 rfl) ?_
        refine lv_lmul hx hb dX11_need_104 ?_
        refine W.eq (g2 := F0 m 105 ls [.long (l3.toInt64 * l5), .long (100 * r18)]) rfl ?_
        refine W.lcmp hx hb dX11_need_105 ?_
        refine lv_if_gt (tgt := 118) hx hb dX11_need_106 (by decide) (fun c20 => ?_) (fun c20 => ?_)
        · rw [if_pos c20] at hF
          refine lv_iinc (v := l7 + 1) (lv' := [(7, .int (l7 + 1)), (8, .int s0), (1, .int l1), (2, .int l2), (3, .int l3), (4, .int l4), (5, .long l5)]) hx hb dX11_need_118 hl (k := 6) rfl rfl (by decide) rfl (fun ls hl => ?_)
          refine lv_goto (tgt := 47) hx hb dX11_need_121 (by decide) ?_
          exact ih _ H locs ls hP hD hS (lv_sub hl [2, 3, 4, 5, 6, 0] rfl) hF
        rw [if_neg c20] at hF
        refine lv_bipush (v := 10) hx hb dX11_need_109 (by decide) ?_
        refine lv_iload hx hb dX11_need_111 (lv_at hl 4 rfl) ?_
        refine lv_imul hx hb dX11_need_113 ?_
        refine lv_iload hx hb dX11_need_114 (lv_at hl 6 rfl) ?_
        refine lv_iadd hx hb dX11_need_116 ?_
        injection hF with hz
        subst hz
        exact cm_reti hx hb hr rfl hlk hK hP hD hS dX11_need_117
      intro l7 H locs ls hP hD hS hl hF
      rw [fX11_need_L47] at hF
      refine lv_iload hx hb dX11_need_47 (lv_at hl 5 rfl) ?_
      refine lv_iload hx hb dX11_need_49 (lv_at hl 3 rfl) ?_
      refine lv_icmp_gt (tgt := 124) hx hb dX11_need_51 (by decide) (fun c13 => ?_) (fun c13 => ?_)
      · rw [if_pos c13] at hF
        exact hk124 H locs ls hP hD hS (lv_sub hl [0, 1, 2, 3] rfl) hF
      rw [if_neg c13] at hF
      refine lv_ldc2 hx hb hown lc_172 dX11_need_54 ?_
      refine lv_iload hx hb dX11_need_57 (lv_at hl 3 rfl) ?_
      refine lv_iload hx hb dX11_need_59 (lv_at hl 5 rfl) ?_
      refine lv_iload_n hx hb dX11_need_61 rfl (lv_at hl 0 rfl) ?_
      obtain ⟨r14, hc15, hF⟩ := bd_some hF
      have hPc := hP.sub (ws' := []) [] rfl
      have hDc := hD.sub (ws' := []) [] (by decide) rfl
      have hFc := va_free (wc := []) hD hS hA [] rfl
      have hM := c_X11_atLeast l G l4 l7 l1 r14 hc15 H.size
      refine cl_l (w1 := []) (ws' := []) hP hD hS hFc [] rfl rfl rfl (va_runS (As := [.int l4, .int l7, .int l1]) (rest := [.long 100]) ⟨hx, hb, hml, hown, hts⟩ hM (va_cwS 3 hts gX11_need_X11_atLeast rfl rfl rfl (by decide +kernel) ⟨Nat.le_of_ble_eq_true rfl, Nat.le_of_ble_eq_true rfl⟩) (cp_S hK hE hS hPc hDc hFc) rfl rfl hl.1 rfl (lv_room (Nat.le_of_ble_eq_true rfl)) dX11_need_62 ⟨Nat.zero_le _, Nat.zero_le _⟩) (fun H locs hP hD hS => ?_)
      refine lv_lmul hx hb dX11_need_65 ?_
      refine lv_iload_n hx hb dX11_need_66 rfl (lv_at hl 1 rfl) ?_
      refine lv_i2l (v := l2.toInt64) hx hb dX11_need_67 rfl ?_
      refine lv_lload hx hb dX11_need_68 (lv_at hl 4 rfl) ?_
      refine lv_lmul hx hb dX11_need_70 ?_
      refine W.eq (g2 := F0 m 71 ls [.long (l2.toInt64 * l5), .long (100 * r14)]) rfl ?_
      refine W.lcmp hx hb dX11_need_71 ?_
      refine lv_if_lt (tgt := 79) hx hb dX11_need_72 (by decide) (fun c16 => ?_) (fun c16 => ?_)
      · rw [if_pos c16] at hF
        refine lv_iconst (v := 0) hx hb dX11_need_79 (by decide) ?_
        exact B80 _ _ H locs ls hP hD hS (lv_sub hl [0, 1, 2, 3, 4, 5] rfl) hF
      rw [if_neg c16] at hF
      refine lv_iconst (v := 1) hx hb dX11_need_75 (by decide) ?_
      refine lv_goto (tgt := 80) hx hb dX11_need_76 (by decide) ?_
      exact B80 _ _ H locs ls hP hD hS (lv_sub hl [0, 1, 2, 3, 4, 5] rfl) hF
  have LP27 : ∀ (l1 : Int32) (l2 : Int32) (l3 : Int32) (n : Nat) (l4 : Int32) (H : Heap) (locs : List Loc) (ls : Array Slot), va_P G.1 vwCl [] H → va_D A [] → va_S A s.heap H locs → lv_has ls 9 [(1, .int l1), (2, .int l2), (3, .int l3), (4, .int l4)] → fX11_need_L27 l1 l2 l3 n l4 = some (z) → W p l e (rm_X11_need) s m args below meth c H locs 0 0 (MQ below (QI G [] z A) args s 0 0 A) (F0 m 27 ls []) := by
    intro l1 l2 l3 n
    induction n with
    | zero =>
      intro l4 H locs ls hP hD hS hl hF
      cases hF
    | succ n ih =>
      intro l4 H locs ls hP hD hS hl hF
      rw [fX11_need_L27] at hF
      refine lv_iload hx hb dX11_need_27 (lv_at hl 3 rfl) ?_
      refine lv_bipush (v := 8) hx hb dX11_need_29 (by decide) ?_
      refine lv_icmp_gt (tgt := 130) hx hb dX11_need_31 (by decide) (fun c10 => ?_) (fun c10 => ?_)
      · rw [if_pos c10] at hF
        refine lv_bipush (v := (-5)) hx hb dX11_need_130 (by decide) ?_
        injection hF with hz
        subst hz
        exact cm_reti hx hb hr rfl hlk hK hP hD hS dX11_need_132
      rw [if_neg c10] at hF
      refine lv_ldc2 hx hb hown lc_172 dX11_need_34 ?_
      refine lv_iload hx hb dX11_need_37 (lv_at hl 3 rfl) ?_
      obtain ⟨r11, hc12, hF⟩ := bd_some hF
      have hPc := hP.sub (ws' := []) [] rfl
      have hDc := hD.sub (ws' := []) [] (by decide) rfl
      have hFc := va_free (wc := []) hD hS hA [] rfl
      have hM := c_X11_power l G (100 : Int64) l4 r11 hc12 H.size
      refine cl_l (w1 := []) (ws' := []) hP hD hS hFc [] rfl rfl rfl (va_runS (As := [.long 100, .int l4]) (rest := []) ⟨hx, hb, hml, hown, hts⟩ hM (va_cwS 2 hts gX11_need_X11_power rfl rfl rfl (by decide +kernel) ⟨Nat.le_of_ble_eq_true rfl, Nat.le_of_ble_eq_true rfl⟩) (cp_S hK hE hS hPc hDc hFc) rfl rfl hl.1 rfl (lv_room (Nat.le_of_ble_eq_true rfl)) dX11_need_39 ⟨Nat.zero_le _, Nat.zero_le _⟩) (fun H locs hP hD hS => ?_)
      refine lv_lstore (lv' := [(5, .long r11), (1, .int l1), (2, .int l2), (3, .int l3), (4, .int l4)]) hx hb dX11_need_42 hl (by decide) rfl (fun ls hl => ?_)
      refine lv_iconst (v := 0) hx hb dX11_need_44 (by decide) ?_
      refine lv_istore (lv' := [(7, .int 0), (5, .long r11), (1, .int l1), (2, .int l2), (3, .int l3), (4, .int l4)]) hx hb dX11_need_45 hl (by decide) rfl (fun ls hl => ?_)
      refine LP47 _ _ _ _ _ _ (fun  H locs ls hP hD hS hl hF => ?_) _ _ H locs ls hP hD hS (lv_sub hl [2, 3, 4, 5, 1, 0] rfl) hF
      refine lv_iinc (v := l4 + 1) (lv' := [(4, .int (l4 + 1)), (1, .int l1), (2, .int l2), (3, .int l3)]) hx hb dX11_need_124 hl (k := 3) rfl rfl (by decide) rfl (fun ls hl => ?_)
      refine lv_goto (tgt := 27) hx hb dX11_need_127 (by decide) ?_
      exact ih _ H locs ls hP hD hS (lv_sub hl [1, 2, 3, 0] rfl) hF
  intro hF
  unfold fX11_need at hF
  refine lv_iload_n hx hb dX11_need_0 rfl (lv_at hl 1 rfl) ?_
  obtain ⟨r1, hc2, hF⟩ := bd_some hF
  have hPc := hP.sub (ws' := []) [] rfl
  have hDc := hD.sub (ws' := []) [] (by decide) rfl
  have hFc := va_free (wc := []) hD hS hA [] rfl
  have hM := c_X11_isPercent l G l1 r1 hc2 H.size
  refine cl_i (w1 := []) (ws' := []) hP hD hS hFc [] rfl rfl rfl (va_runS (As := [.int l1]) (rest := []) ⟨hx, hb, hml, hown, hts⟩ hM (va_cwS 1 hts gX11_need_X11_isPercent rfl rfl rfl (by decide +kernel) ⟨Nat.le_of_ble_eq_true rfl, Nat.le_of_ble_eq_true rfl⟩) (cp_S hK hE hS hPc hDc hFc) rfl rfl hl.1 rfl (lv_room (Nat.le_of_ble_eq_true rfl)) dX11_need_1 ⟨Nat.zero_le _, Nat.zero_le _⟩) (fun H locs hP hD hS => ?_)
  refine lv_if_eq (tgt := 21) hx hb dX11_need_4 (by decide) (fun c3 => ?_) (fun c3 => ?_)
  · rw [if_pos c3] at hF
    refine lv_bipush (v := (-2)) hx hb dX11_need_21 (by decide) ?_
    injection hF with hz
    subst hz
    exact cm_reti hx hb hr rfl hlk hK hP hD hS dX11_need_23
  rw [if_neg c3] at hF
  refine lv_iload_n hx hb dX11_need_7 rfl (lv_at hl 2 rfl) ?_
  obtain ⟨r4, hc5, hF⟩ := bd_some hF
  have hPc := hP.sub (ws' := []) [] rfl
  have hDc := hD.sub (ws' := []) [] (by decide) rfl
  have hFc := va_free (wc := []) hD hS hA [] rfl
  have hM := c_X11_isPercent l G l2 r4 hc5 H.size
  refine cl_i (w1 := []) (ws' := []) hP hD hS hFc [] rfl rfl rfl (va_runS (As := [.int l2]) (rest := []) ⟨hx, hb, hml, hown, hts⟩ hM (va_cwS 1 hts gX11_need_X11_isPercent rfl rfl rfl (by decide +kernel) ⟨Nat.le_of_ble_eq_true rfl, Nat.le_of_ble_eq_true rfl⟩) (cp_S hK hE hS hPc hDc hFc) rfl rfl hl.1 rfl (lv_room (Nat.le_of_ble_eq_true rfl)) dX11_need_8 ⟨Nat.zero_le _, Nat.zero_le _⟩) (fun H locs hP hD hS => ?_)
  refine lv_if_eq (tgt := 21) hx hb dX11_need_11 (by decide) (fun c6 => ?_) (fun c6 => ?_)
  · rw [if_pos c6] at hF
    refine lv_bipush (v := (-2)) hx hb dX11_need_21 (by decide) ?_
    injection hF with hz
    subst hz
    exact cm_reti hx hb hr rfl hlk hK hP hD hS dX11_need_23
  rw [if_neg c6] at hF
  refine lv_iload_n hx hb dX11_need_14 rfl (lv_at hl 3 rfl) ?_
  obtain ⟨r7, hc8, hF⟩ := bd_some hF
  have hPc := hP.sub (ws' := []) [] rfl
  have hDc := hD.sub (ws' := []) [] (by decide) rfl
  have hFc := va_free (wc := []) hD hS hA [] rfl
  have hM := c_X11_isPercent l G l3 r7 hc8 H.size
  refine cl_i (w1 := []) (ws' := []) hP hD hS hFc [] rfl rfl rfl (va_runS (As := [.int l3]) (rest := []) ⟨hx, hb, hml, hown, hts⟩ hM (va_cwS 1 hts gX11_need_X11_isPercent rfl rfl rfl (by decide +kernel) ⟨Nat.le_of_ble_eq_true rfl, Nat.le_of_ble_eq_true rfl⟩) (cp_S hK hE hS hPc hDc hFc) rfl rfl hl.1 rfl (lv_room (Nat.le_of_ble_eq_true rfl)) dX11_need_15 ⟨Nat.zero_le _, Nat.zero_le _⟩) (fun H locs hP hD hS => ?_)
  refine lv_if_ne (tgt := 24) hx hb dX11_need_18 (by decide) (fun c9 => ?_) (fun c9 => ?_)
  · rw [if_neg c9] at hF
    refine lv_iconst (v := 1) hx hb dX11_need_24 (by decide) ?_
    refine lv_istore (lv' := [(4, .int 1), (0, .ref h), (1, .int l1), (2, .int l2), (3, .int l3)]) hx hb dX11_need_25 hl (by decide) rfl (fun ls hl => ?_)
    refine LP27 _ _ _ _ _ H locs ls hP hD hS (lv_sub hl [2, 3, 4, 0] rfl) hF
  rw [if_pos c9] at hF
  refine lv_bipush (v := (-2)) hx hb dX11_need_21 (by decide) ?_
  injection hF with hz
  subst hz
  exact cm_reti hx hb hr rfl hlk hK hP hD hS dX11_need_23

/-! HeadsByHair.row(I)I -/
abbrev rm_X11_row : Room := { frames := 1, cells := 0, slots := 0, locals := 22 }
set_option maxHeartbeats 4000000 in
set_option maxRecDepth 100000 in
theorem c_X11_row (l : Launch) (G : GG) (h a_now a_kept a_reader a_flight a_latest a_now_edge a_now_bend a_now_rise a_now_wandering a_now_thrown a_now_alike a_now_law a_now_tape a_now_side : Nat) (x_isKept x_now_coins x_now_hands x_now_laws x_now_bytes x_now_sides : Int32) (f_now_side : Nat → Int32) (l1 : Int32) (z : Int32) (z_x_now_sides : Int32) (z_f_now_side : Nat → Int32) (hF : fX11_row x_now_sides f_now_side l1 = some (z, z_x_now_sides, z_f_now_side)) : CMi l yX11_row wsX11_row rm_X11_row G [o11 h a_now a_kept x_isKept a_reader a_flight a_latest, o6 a_now x_now_coins x_now_hands x_now_laws x_now_bytes x_now_sides a_now_edge a_now_bend a_now_rise a_now_wandering a_now_thrown a_now_alike a_now_law a_now_tape a_now_side, aI G a_now_side 16 f_now_side] [o11 h a_now a_kept x_isKept a_reader a_flight a_latest, o6 a_now x_now_coins x_now_hands x_now_laws x_now_bytes z_x_now_sides a_now_edge a_now_bend a_now_rise a_now_wandering a_now_thrown a_now_alike a_now_law a_now_tape a_now_side, aI G a_now_side 16 z_f_now_side] [.ref h, .int l1] z := by
  refine cm_start (cc := cX11_row) (maxL := 2) (ret := (some .int)) (Qc := fun A => QI G [o11 h a_now a_kept x_isKept a_reader a_flight a_latest, o6 a_now x_now_coins x_now_hands x_now_laws x_now_bytes z_x_now_sides a_now_edge a_now_bend a_now_rise a_now_wandering a_now_thrown a_now_alike a_now_law a_now_tape a_now_side, aI G a_now_side 16 z_f_now_side] z A) (by decide +kernel) rfl (Nat.le_of_ble_eq_true rfl) ?_
  intro p e s m args below meth c A hx hb hr hlk hml hown hnm hts hA H locs hP hK hD hE hS ls hl
  have hown : s.vm.findClass RX11 = some m.cls := hown
  have hl : lv_has ls 2 [(0, .ref h), (1, .int l1)] := hl
  have hin11 : ∀ w ∈ wsX110, w ∈ wsX11_row := by decide +kernel
  have hin6 : ∀ w ∈ wsX60, w ∈ wsX11_row := by decide +kernel
  have lk_12 := hts (.fieldLink RX11 12 "HeadsByHair" "now" "LHeadsByHair$Stock;") (by decide +kernel)
  have lk_202 := va_Nw.use (A := args) rfl (hE.nw (.fieldLinkNest "HeadsByHair" 202 "HeadsByHair$Stock" "sides" "I" "HeadsByHair") (by decide +kernel))
  have lk_205 := va_Nw.use (A := args) rfl (hE.nw (.fieldLinkNest "HeadsByHair" 205 "HeadsByHair$Stock" "side" "[I" "HeadsByHair") (by decide +kernel))
  revert hF
  intro hF
  unfold fX11_row at hF
  refine lv_iload_n hx hb dX11_row_0 rfl (lv_at hl 1 rfl) ?_
  refine lv_iconst (v := (-1)) hx hb dX11_row_1 (by decide) ?_
  refine lv_iconst (v := 1) hx hb dX11_row_2 (by decide) ?_
  obtain ⟨r1, hc2, hF⟩ := bd_some hF
  have hPc := hP.sub (ws' := []) [] rfl
  have hDc := hD.sub (ws' := []) [] (by decide) rfl
  have hFc := va_free (wc := []) hD hS hA [] rfl
  have hM := c_X11_isWithin l G l1 ((-1) : Int32) (1 : Int32) r1 hc2 H.size
  refine cl_i (w1 := []) (ws' := [o11 h a_now a_kept x_isKept a_reader a_flight a_latest, o6 a_now x_now_coins x_now_hands x_now_laws x_now_bytes x_now_sides a_now_edge a_now_bend a_now_rise a_now_wandering a_now_thrown a_now_alike a_now_law a_now_tape a_now_side, aI G a_now_side 16 f_now_side]) hP hD hS hFc [] rfl rfl rfl (va_runS (As := [.int l1, .int (-1), .int 1]) (rest := []) ⟨hx, hb, hml, hown, hts⟩ hM (va_cwS 3 hts gX11_row_X11_isWithin rfl rfl rfl (by decide +kernel) ⟨Nat.le_of_ble_eq_true rfl, Nat.le_of_ble_eq_true rfl⟩) (cp_S hK hE hS hPc hDc hFc) rfl rfl hl.1 rfl (lv_room (Nat.le_of_ble_eq_true rfl)) dX11_row_3 ⟨Nat.zero_le _, Nat.zero_le _⟩) (fun H locs hP hD hS => ?_)
  refine lv_if_ne (tgt := 12) hx hb dX11_row_6 (by decide) (fun c3 => ?_) (fun c3 => ?_)
  · rw [if_neg c3] at hF
    refine lv_iload_n hx hb dX11_row_12 rfl (lv_at hl 1 rfl) ?_
    refine lv_iconst (v := (-1)) hx hb dX11_row_13 (by decide) ?_
    refine lv_icmp_ne (tgt := 27) hx hb dX11_row_14 (by decide) (fun c4 => ?_) (fun c4 => ?_)
    · rw [if_neg c4] at hF
      refine lv_aload_n hx hb dX11_row_27 rfl (lv_at hl 0 rfl) ?_
      refine va_get (D := G.1) (ci := 11) (v := .ref a_now) (C := RX11) (T := TX11) (N := 6) hx hb hts hin11 hown hK hP 0 rfl rfl 0 (by decide) lk_12 (fun _ h9 => h9) rfl dX11_row_28 ?_
      refine va_getN (D := G.1) (ci := 6) (v := .int x_now_sides) (C := RX6) (T := TX6) (N := 14) hx hb hts hin6 hown hK hP 1 rfl rfl 4 (by decide) lk_202 (fun _ h9 => h9) rfl dX11_row_31 ?_
      refine lv_bipush (v := 16) hx hb dX11_row_34 (by decide) ?_
      refine lv_icmp_lt (tgt := 42) hx hb dX11_row_36 (by decide) (fun c5 => ?_) (fun c5 => ?_)
      · rw [if_pos c5] at hF
        refine W.eq (g2 := F0 m 42 ls []) rfl ?_
        refine lv_aload_n hx hb dX11_row_42 rfl (lv_at hl 0 rfl) ?_
        refine va_get (D := G.1) (ci := 11) (v := .ref a_now) (C := RX11) (T := TX11) (N := 6) hx hb hts hin11 hown hK hP 0 rfl rfl 0 (by decide) lk_12 (fun _ h9 => h9) rfl dX11_row_43 ?_
        refine va_getN (D := G.1) (ci := 6) (v := .ref a_now_side) (C := RX6) (T := TX6) (N := 14) hx hb hts hin6 hown hK hP 1 rfl rfl 13 (by decide) lk_205 (fun _ h9 => h9) rfl dX11_row_46 ?_
        refine lv_aload_n hx hb dX11_row_49 rfl (lv_at hl 0 rfl) ?_
        refine va_get (D := G.1) (ci := 11) (v := .ref a_now) (C := RX11) (T := TX11) (N := 6) hx hb hts hin11 hown hK hP 0 rfl rfl 0 (by decide) lk_12 (fun _ h9 => h9) rfl dX11_row_50 ?_
        refine va_getN (D := G.1) (ci := 6) (v := .int x_now_sides) (C := RX6) (T := TX6) (N := 14) hx hb hts hin6 hown hK hP 1 rfl rfl 4 (by decide) lk_202 (fun _ h9 => h9) rfl dX11_row_53 ?_
        refine lv_iload_n hx hb dX11_row_56 rfl (lv_at hl 1 rfl) ?_
        obtain ⟨hi6, hF⟩ := ck_some hF
        refine va_iast (D := G.1) hx hb hK hP hD hS 2 0 rfl rfl hi6 dX11_row_57 (fun H locs hP hD hS => ?_)
        have hP : va_P G.1 vwCl [o11 h a_now a_kept x_isKept a_reader a_flight a_latest, o6 a_now x_now_coins x_now_hands x_now_laws x_now_bytes x_now_sides a_now_edge a_now_bend a_now_rise a_now_wandering a_now_thrown a_now_alike a_now_law a_now_tape a_now_side, aI G a_now_side 16 (upd f_now_side x_now_sides.toNatClampNeg l1)] H := hP
        have hD : va_D A [o11 h a_now a_kept x_isKept a_reader a_flight a_latest, o6 a_now x_now_coins x_now_hands x_now_laws x_now_bytes x_now_sides a_now_edge a_now_bend a_now_rise a_now_wandering a_now_thrown a_now_alike a_now_law a_now_tape a_now_side, aI G a_now_side 16 (upd f_now_side x_now_sides.toNatClampNeg l1)] := hD
        refine lv_aload_n hx hb dX11_row_58 rfl (lv_at hl 0 rfl) ?_
        refine va_get (D := G.1) (ci := 11) (v := .ref a_now) (C := RX11) (T := TX11) (N := 6) hx hb hts hin11 hown hK hP 0 rfl rfl 0 (by decide) lk_12 (fun _ h9 => h9) rfl dX11_row_59 ?_
        refine lv_dup hx hb dX11_row_62 rfl ?_
        refine va_getN (D := G.1) (ci := 6) (v := .int x_now_sides) (C := RX6) (T := TX6) (N := 14) hx hb hts hin6 hown hK hP 1 rfl rfl 4 (by decide) lk_202 (fun _ h9 => h9) rfl dX11_row_63 ?_
        refine lv_iconst (v := 1) hx hb dX11_row_66 (by decide) ?_
        refine lv_iadd hx hb dX11_row_67 ?_
        refine W.eq (g2 := F0 m 68 ls [.int (x_now_sides + 1), .ref a_now]) rfl ?_
        refine va_putN (D := G.1) (ci := 6) (v := .int (x_now_sides + 1)) (ty := .int) (C := RX6) (T := TX6) (N := 14) hx hb hts hin6 tyX6 tyX6_ok nmX6 hown hK hP hD hS 1 rfl rfl 4 (by decide) lk_202 (fun _ h9 => h9) rfl (tyX6_ok 4 (by decide)) rfl rfl (Nat.le_of_ble_eq_true rfl) dX11_row_68 (fun H locs hP hD hS => ?_)
        have hP : va_P G.1 vwCl [o11 h a_now a_kept x_isKept a_reader a_flight a_latest, o6 a_now x_now_coins x_now_hands x_now_laws x_now_bytes (x_now_sides + 1) a_now_edge a_now_bend a_now_rise a_now_wandering a_now_thrown a_now_alike a_now_law a_now_tape a_now_side, aI G a_now_side 16 (upd f_now_side x_now_sides.toNatClampNeg l1)] H := hP
        have hD : va_D A [o11 h a_now a_kept x_isKept a_reader a_flight a_latest, o6 a_now x_now_coins x_now_hands x_now_laws x_now_bytes (x_now_sides + 1) a_now_edge a_now_bend a_now_rise a_now_wandering a_now_thrown a_now_alike a_now_law a_now_tape a_now_side, aI G a_now_side 16 (upd f_now_side x_now_sides.toNatClampNeg l1)] := hD
        refine lv_aload_n hx hb dX11_row_71 rfl (lv_at hl 0 rfl) ?_
        refine va_get (D := G.1) (ci := 11) (v := .ref a_now) (C := RX11) (T := TX11) (N := 6) hx hb hts hin11 hown hK hP 0 rfl rfl 0 (by decide) lk_12 (fun _ h9 => h9) rfl dX11_row_72 ?_
        refine va_getN (D := G.1) (ci := 6) (v := .int (x_now_sides + 1)) (C := RX6) (T := TX6) (N := 14) hx hb hts hin6 hown hK hP 1 rfl rfl 4 (by decide) lk_202 (fun _ h9 => h9) rfl dX11_row_75 ?_
        injection hF with hz
        injection hz with hq0 hz
        injection hz with hq1 hz
        subst hq0
        subst hq1
        subst hz
        exact cm_reti hx hb hr rfl hlk hK hP hD hS dX11_row_78
      rw [if_neg c5] at hF
      refine W.eq (g2 := F0 m 39 ls []) rfl ?_
      refine lv_bipush (v := (-4)) hx hb dX11_row_39 (by decide) ?_
      injection hF with hz
      injection hz with hq0 hz
      injection hz with hq1 hz
      subst hq0
      subst hq1
      subst hz
      exact cm_reti hx hb hr rfl hlk hK hP hD hS dX11_row_41
    rw [if_pos c4] at hF
    refine lv_aload_n hx hb dX11_row_17 rfl (lv_at hl 0 rfl) ?_
    refine va_get (D := G.1) (ci := 11) (v := .ref a_now) (C := RX11) (T := TX11) (N := 6) hx hb hts hin11 hown hK hP 0 rfl rfl 0 (by decide) lk_12 (fun _ h9 => h9) rfl dX11_row_18 ?_
    refine lv_iconst (v := 0) hx hb dX11_row_21 (by decide) ?_
    refine va_putN (D := G.1) (ci := 6) (v := .int 0) (ty := .int) (C := RX6) (T := TX6) (N := 14) hx hb hts hin6 tyX6 tyX6_ok nmX6 hown hK hP hD hS 1 rfl rfl 4 (by decide) lk_202 (fun _ h9 => h9) rfl (tyX6_ok 4 (by decide)) rfl rfl (Nat.le_of_ble_eq_true rfl) dX11_row_22 (fun H locs hP hD hS => ?_)
    have hP : va_P G.1 vwCl [o11 h a_now a_kept x_isKept a_reader a_flight a_latest, o6 a_now x_now_coins x_now_hands x_now_laws x_now_bytes 0 a_now_edge a_now_bend a_now_rise a_now_wandering a_now_thrown a_now_alike a_now_law a_now_tape a_now_side, aI G a_now_side 16 f_now_side] H := hP
    have hD : va_D A [o11 h a_now a_kept x_isKept a_reader a_flight a_latest, o6 a_now x_now_coins x_now_hands x_now_laws x_now_bytes 0 a_now_edge a_now_bend a_now_rise a_now_wandering a_now_thrown a_now_alike a_now_law a_now_tape a_now_side, aI G a_now_side 16 f_now_side] := hD
    refine lv_iconst (v := 0) hx hb dX11_row_25 (by decide) ?_
    refine W.eq (g2 := F0 m 26 ls [.int 0]) rfl ?_
    injection hF with hz
    injection hz with hq0 hz
    injection hz with hq1 hz
    subst hq0
    subst hq1
    subst hz
    exact cm_reti hx hb hr rfl hlk hK hP hD hS dX11_row_26
  rw [if_pos c3] at hF
  refine lv_bipush (v := (-2)) hx hb dX11_row_9 (by decide) ?_
  injection hF with hz
  injection hz with hq0 hz
  injection hz with hq1 hz
  subst hq0
  subst hq1
  subst hz
  exact cm_reti hx hb hr rfl hlk hK hP hD hS dX11_row_11

/-! HeadsByHair.stretches()I -/
abbrev rm_X11_stretches : Room := { frames := 0, cells := 0, slots := 0, locals := 0 }
set_option maxHeartbeats 4000000 in
set_option maxRecDepth 100000 in
theorem c_X11_stretches (l : Launch) (G : GG) (h a_now a_kept a_reader a_flight a_latest a_now_edge a_now_bend a_now_rise a_now_wandering a_now_thrown a_now_alike a_now_law a_now_tape a_now_side : Nat) (x_isKept x_now_coins x_now_hands x_now_laws x_now_bytes x_now_sides : Int32) (f_now_side : Nat → Int32) (z : Int32) (hF : fX11_stretches x_now_sides f_now_side = some (z)) : CMi l yX11_stretches wsX11_stretches rm_X11_stretches G [o11 h a_now a_kept x_isKept a_reader a_flight a_latest, o6 a_now x_now_coins x_now_hands x_now_laws x_now_bytes x_now_sides a_now_edge a_now_bend a_now_rise a_now_wandering a_now_thrown a_now_alike a_now_law a_now_tape a_now_side, aI G a_now_side 16 f_now_side] [o11 h a_now a_kept x_isKept a_reader a_flight a_latest, o6 a_now x_now_coins x_now_hands x_now_laws x_now_bytes x_now_sides a_now_edge a_now_bend a_now_rise a_now_wandering a_now_thrown a_now_alike a_now_law a_now_tape a_now_side, aI G a_now_side 16 f_now_side] [.ref h] z := by
  refine cm_start (cc := cX11_stretches) (maxL := 3) (ret := (some .int)) (Qc := fun A => QI G [o11 h a_now a_kept x_isKept a_reader a_flight a_latest, o6 a_now x_now_coins x_now_hands x_now_laws x_now_bytes x_now_sides a_now_edge a_now_bend a_now_rise a_now_wandering a_now_thrown a_now_alike a_now_law a_now_tape a_now_side, aI G a_now_side 16 f_now_side] z A) (by decide +kernel) rfl (Nat.le_of_ble_eq_true rfl) ?_
  intro p e s m args below meth c A hx hb hr hlk hml hown hnm hts hA H locs hP hK hD hE hS ls hl
  have hown : s.vm.findClass RX11 = some m.cls := hown
  have hl : lv_has ls 3 [(0, .ref h)] := hl
  have hin11 : ∀ w ∈ wsX110, w ∈ wsX11_stretches := by decide +kernel
  have hin6 : ∀ w ∈ wsX60, w ∈ wsX11_stretches := by decide +kernel
  have lk_12 := hts (.fieldLink RX11 12 "HeadsByHair" "now" "LHeadsByHair$Stock;") (by decide +kernel)
  have lk_202 := va_Nw.use (A := args) rfl (hE.nw (.fieldLinkNest "HeadsByHair" 202 "HeadsByHair$Stock" "sides" "I" "HeadsByHair") (by decide +kernel))
  have lk_205 := va_Nw.use (A := args) rfl (hE.nw (.fieldLinkNest "HeadsByHair" 205 "HeadsByHair$Stock" "side" "[I" "HeadsByHair") (by decide +kernel))
  revert hF
  have LP18 : ∀ (n : Nat) (l1 : Int32) (l2 : Int32) (H : Heap) (locs : List Loc) (ls : Array Slot), va_P G.1 vwCl [o11 h a_now a_kept x_isKept a_reader a_flight a_latest, o6 a_now x_now_coins x_now_hands x_now_laws x_now_bytes x_now_sides a_now_edge a_now_bend a_now_rise a_now_wandering a_now_thrown a_now_alike a_now_law a_now_tape a_now_side, aI G a_now_side 16 f_now_side] H → va_D A [o11 h a_now a_kept x_isKept a_reader a_flight a_latest, o6 a_now x_now_coins x_now_hands x_now_laws x_now_bytes x_now_sides a_now_edge a_now_bend a_now_rise a_now_wandering a_now_thrown a_now_alike a_now_law a_now_tape a_now_side, aI G a_now_side 16 f_now_side] → va_S A s.heap H locs → lv_has ls 3 [(0, .ref h), (1, .int l1), (2, .int l2)] → fX11_stretches_L18 x_now_sides f_now_side n l1 l2 = some (z) → W p l e (rm_X11_stretches) s m args below meth c H locs 0 0 (MQ below (QI G [o11 h a_now a_kept x_isKept a_reader a_flight a_latest, o6 a_now x_now_coins x_now_hands x_now_laws x_now_bytes x_now_sides a_now_edge a_now_bend a_now_rise a_now_wandering a_now_thrown a_now_alike a_now_law a_now_tape a_now_side, aI G a_now_side 16 f_now_side] z A) args s 0 0 A) (F0 m 18 ls []) := by
    intro n
    induction n with
    | zero =>
      intro l1 l2 H locs ls hP hD hS hl hF
      cases hF
    | succ n ih =>
      intro l1 l2 H locs ls hP hD hS hl hF
      rw [fX11_stretches_L18] at hF
      refine lv_iload_n hx hb dX11_stretches_18 rfl (lv_at hl 2 rfl) ?_
      refine lv_aload_n hx hb dX11_stretches_19 rfl (lv_at hl 0 rfl) ?_
      refine va_get (D := G.1) (ci := 11) (v := .ref a_now) (C := RX11) (T := TX11) (N := 6) hx hb hts hin11 hown hK hP 0 rfl rfl 0 (by decide) lk_12 (fun _ h9 => h9) rfl dX11_stretches_20 ?_
      refine va_getN (D := G.1) (ci := 6) (v := .int x_now_sides) (C := RX6) (T := TX6) (N := 14) hx hb hts hin6 hown hK hP 1 rfl rfl 4 (by decide) lk_202 (fun _ h9 => h9) rfl dX11_stretches_23 ?_
      refine lv_icmp_ge (tgt := 61) hx hb dX11_stretches_26 (by decide) (fun c2 => ?_) (fun c2 => ?_)
      · rw [if_pos c2] at hF
        refine lv_iload_n hx hb dX11_stretches_61 rfl (lv_at hl 1 rfl) ?_
        injection hF with hz
        subst hz
        exact cm_reti hx hb hr rfl hlk hK hP hD hS dX11_stretches_62
      rw [if_neg c2] at hF
      refine lv_aload_n hx hb dX11_stretches_29 rfl (lv_at hl 0 rfl) ?_
      refine va_get (D := G.1) (ci := 11) (v := .ref a_now) (C := RX11) (T := TX11) (N := 6) hx hb hts hin11 hown hK hP 0 rfl rfl 0 (by decide) lk_12 (fun _ h9 => h9) rfl dX11_stretches_30 ?_
      refine va_getN (D := G.1) (ci := 6) (v := .ref a_now_side) (C := RX6) (T := TX6) (N := 14) hx hb hts hin6 hown hK hP 1 rfl rfl 13 (by decide) lk_205 (fun _ h9 => h9) rfl dX11_stretches_33 ?_
      refine lv_iload_n hx hb dX11_stretches_36 rfl (lv_at hl 2 rfl) ?_
      obtain ⟨hi3, hF⟩ := ck_some hF
      refine va_iald (D := G.1) hx hb hK hP 2 0 rfl rfl hi3 dX11_stretches_37 ?_
      refine lv_aload_n hx hb dX11_stretches_38 rfl (lv_at hl 0 rfl) ?_
      refine va_get (D := G.1) (ci := 11) (v := .ref a_now) (C := RX11) (T := TX11) (N := 6) hx hb hts hin11 hown hK hP 0 rfl rfl 0 (by decide) lk_12 (fun _ h9 => h9) rfl dX11_stretches_39 ?_
      refine va_getN (D := G.1) (ci := 6) (v := .ref a_now_side) (C := RX6) (T := TX6) (N := 14) hx hb hts hin6 hown hK hP 1 rfl rfl 13 (by decide) lk_205 (fun _ h9 => h9) rfl dX11_stretches_42 ?_
      refine W.eq (g2 := F0 m 45 ls [.ref a_now_side, .int (f_now_side l2.toNatClampNeg)]) rfl ?_
      refine lv_iload_n hx hb dX11_stretches_45 rfl (lv_at hl 2 rfl) ?_
      refine lv_iconst (v := 1) hx hb dX11_stretches_46 (by decide) ?_
      refine lv_isub hx hb dX11_stretches_47 ?_
      obtain ⟨hi4, hF⟩ := ck_some hF
      refine va_iald (D := G.1) hx hb hK hP 2 0 rfl rfl hi4 dX11_stretches_48 ?_
      refine lv_icmp_eq (tgt := 55) hx hb dX11_stretches_49 (by decide) (fun c5 => ?_) (fun c5 => ?_)
      · rw [if_pos c5] at hF
        refine lv_iinc (v := l2 + 1) (lv' := [(2, .int (l2 + 1)), (0, .ref h), (1, .int l1)]) hx hb dX11_stretches_55 hl (k := 2) rfl rfl (by decide) rfl (fun ls hl => ?_)
        refine lv_goto (tgt := 18) hx hb dX11_stretches_58 (by decide) ?_
        exact ih _ _ H locs ls hP hD hS (lv_sub hl [1, 2, 0] rfl) hF
      rw [if_neg c5] at hF
      refine lv_iinc (v := l1 + 1) (lv' := [(1, .int (l1 + 1)), (0, .ref h), (2, .int l2)]) hx hb dX11_stretches_52 hl (k := 1) rfl rfl (by decide) rfl (fun ls hl => ?_)
      refine lv_iinc (v := l2 + 1) (lv' := [(2, .int (l2 + 1)), (1, .int (l1 + 1)), (0, .ref h)]) hx hb dX11_stretches_55 hl (k := 2) rfl rfl (by decide) rfl (fun ls hl => ?_)
      refine lv_goto (tgt := 18) hx hb dX11_stretches_58 (by decide) ?_
      exact ih _ _ H locs ls hP hD hS (lv_sub hl [2, 1, 0] rfl) hF
  have B15 : ∀ (s0 : Int32) (H : Heap) (locs : List Loc) (ls : Array Slot), va_P G.1 vwCl [o11 h a_now a_kept x_isKept a_reader a_flight a_latest, o6 a_now x_now_coins x_now_hands x_now_laws x_now_bytes x_now_sides a_now_edge a_now_bend a_now_rise a_now_wandering a_now_thrown a_now_alike a_now_law a_now_tape a_now_side, aI G a_now_side 16 f_now_side] H → va_D A [o11 h a_now a_kept x_isKept a_reader a_flight a_latest, o6 a_now x_now_coins x_now_hands x_now_laws x_now_bytes x_now_sides a_now_edge a_now_bend a_now_rise a_now_wandering a_now_thrown a_now_alike a_now_law a_now_tape a_now_side, aI G a_now_side 16 f_now_side] → va_S A s.heap H locs → lv_has ls 3 [(0, .ref h)] → fX11_stretches_b15 x_now_sides f_now_side s0 = some (z) → W p l e (rm_X11_stretches) s m args below meth c H locs 0 0 (MQ below (QI G [o11 h a_now a_kept x_isKept a_reader a_flight a_latest, o6 a_now x_now_coins x_now_hands x_now_laws x_now_bytes x_now_sides a_now_edge a_now_bend a_now_rise a_now_wandering a_now_thrown a_now_alike a_now_law a_now_tape a_now_side, aI G a_now_side 16 f_now_side] z A) args s 0 0 A) (F0 m 15 ls [.int s0]) := by
    intro s0 H locs ls hP hD hS hl hF
    unfold fX11_stretches_b15 at hF
    refine lv_istore_n (lv' := [(1, .int s0), (0, .ref h)]) hx hb dX11_stretches_15 rfl hl (by decide) rfl (fun ls hl => ?_)
    refine lv_iconst (v := 1) hx hb dX11_stretches_16 (by decide) ?_
    refine lv_istore_n (lv' := [(2, .int 1), (1, .int s0), (0, .ref h)]) hx hb dX11_stretches_17 rfl hl (by decide) rfl (fun ls hl => ?_)
    refine LP18 _ _ _ H locs ls hP hD hS (lv_sub hl [2, 1, 0] rfl) hF
  intro hF
  unfold fX11_stretches at hF
  refine lv_aload_n hx hb dX11_stretches_0 rfl (lv_at hl 0 rfl) ?_
  refine va_get (D := G.1) (ci := 11) (v := .ref a_now) (C := RX11) (T := TX11) (N := 6) hx hb hts hin11 hown hK hP 0 rfl rfl 0 (by decide) lk_12 (fun _ h9 => h9) rfl dX11_stretches_1 ?_
  refine va_getN (D := G.1) (ci := 6) (v := .int x_now_sides) (C := RX6) (T := TX6) (N := 14) hx hb hts hin6 hown hK hP 1 rfl rfl 4 (by decide) lk_202 (fun _ h9 => h9) rfl dX11_stretches_4 ?_
  refine lv_if_ne (tgt := 14) hx hb dX11_stretches_7 (by decide) (fun c1 => ?_) (fun c1 => ?_)
  · rw [if_neg c1] at hF
    refine lv_iconst (v := 1) hx hb dX11_stretches_14 (by decide) ?_
    exact B15 _ H locs ls hP hD hS (lv_sub hl [0] rfl) hF
  rw [if_pos c1] at hF
  refine lv_iconst (v := 0) hx hb dX11_stretches_10 (by decide) ?_
  refine lv_goto (tgt := 15) hx hb dX11_stretches_11 (by decide) ?_
  exact B15 _ H locs ls hP hD hS (lv_sub hl [0] rfl) hF

/-! HeadsByHair.longestStretch()I -/
abbrev rm_X11_longestStretch : Room := { frames := 1, cells := 0, slots := 0, locals := 24 }
set_option maxHeartbeats 4000000 in
set_option maxRecDepth 100000 in
theorem c_X11_longestStretch (l : Launch) (G : GG) (h a_now a_kept a_reader a_flight a_latest a_now_edge a_now_bend a_now_rise a_now_wandering a_now_thrown a_now_alike a_now_law a_now_tape a_now_side : Nat) (x_isKept x_now_coins x_now_hands x_now_laws x_now_bytes x_now_sides : Int32) (f_now_side : Nat → Int32) (z : Int32) (hF : fX11_longestStretch x_now_sides f_now_side = some (z)) : CMi l yX11_longestStretch wsX11_longestStretch rm_X11_longestStretch G [o11 h a_now a_kept x_isKept a_reader a_flight a_latest, o6 a_now x_now_coins x_now_hands x_now_laws x_now_bytes x_now_sides a_now_edge a_now_bend a_now_rise a_now_wandering a_now_thrown a_now_alike a_now_law a_now_tape a_now_side, aI G a_now_side 16 f_now_side] [o11 h a_now a_kept x_isKept a_reader a_flight a_latest, o6 a_now x_now_coins x_now_hands x_now_laws x_now_bytes x_now_sides a_now_edge a_now_bend a_now_rise a_now_wandering a_now_thrown a_now_alike a_now_law a_now_tape a_now_side, aI G a_now_side 16 f_now_side] [.ref h] z := by
  refine cm_start (cc := cX11_longestStretch) (maxL := 4) (ret := (some .int)) (Qc := fun A => QI G [o11 h a_now a_kept x_isKept a_reader a_flight a_latest, o6 a_now x_now_coins x_now_hands x_now_laws x_now_bytes x_now_sides a_now_edge a_now_bend a_now_rise a_now_wandering a_now_thrown a_now_alike a_now_law a_now_tape a_now_side, aI G a_now_side 16 f_now_side] z A) (by decide +kernel) rfl (Nat.le_of_ble_eq_true rfl) ?_
  intro p e s m args below meth c A hx hb hr hlk hml hown hnm hts hA H locs hP hK hD hE hS ls hl
  have hown : s.vm.findClass RX11 = some m.cls := hown
  have hl : lv_has ls 4 [(0, .ref h)] := hl
  have hin11 : ∀ w ∈ wsX110, w ∈ wsX11_longestStretch := by decide +kernel
  have hin6 : ∀ w ∈ wsX60, w ∈ wsX11_longestStretch := by decide +kernel
  have lk_12 := hts (.fieldLink RX11 12 "HeadsByHair" "now" "LHeadsByHair$Stock;") (by decide +kernel)
  have lk_202 := va_Nw.use (A := args) rfl (hE.nw (.fieldLinkNest "HeadsByHair" 202 "HeadsByHair$Stock" "sides" "I" "HeadsByHair") (by decide +kernel))
  have lm_184 := hts (.methodLink RX11 184 Lib.Math.max.name) (by decide +kernel)
  have ms_max := hts (.static Lib.Math.max.name) (by decide +kernel)
  have mi := hts (.initialized "java/lang/Math") (by decide +kernel)
  have mc_max := hts (.code Lib.Math.max.name Lib.Math.max.code 2 (some .int)) (by decide +kernel)
  have lk_205 := va_Nw.use (A := args) rfl (hE.nw (.fieldLinkNest "HeadsByHair" 205 "HeadsByHair$Stock" "side" "[I" "HeadsByHair") (by decide +kernel))
  revert hF
  have LP6 : ∀ (n : Nat) (l1 : Int32) (l2 : Int32) (l3 : Int32) (H : Heap) (locs : List Loc) (ls : Array Slot), va_P G.1 vwCl [o11 h a_now a_kept x_isKept a_reader a_flight a_latest, o6 a_now x_now_coins x_now_hands x_now_laws x_now_bytes x_now_sides a_now_edge a_now_bend a_now_rise a_now_wandering a_now_thrown a_now_alike a_now_law a_now_tape a_now_side, aI G a_now_side 16 f_now_side] H → va_D A [o11 h a_now a_kept x_isKept a_reader a_flight a_latest, o6 a_now x_now_coins x_now_hands x_now_laws x_now_bytes x_now_sides a_now_edge a_now_bend a_now_rise a_now_wandering a_now_thrown a_now_alike a_now_law a_now_tape a_now_side, aI G a_now_side 16 f_now_side] → va_S A s.heap H locs → lv_has ls 4 [(0, .ref h), (1, .int l1), (2, .int l2), (3, .int l3)] → fX11_longestStretch_L6 x_now_sides f_now_side n l1 l2 l3 = some (z) → W p l e (rm_X11_longestStretch) s m args below meth c H locs 0 0 (MQ below (QI G [o11 h a_now a_kept x_isKept a_reader a_flight a_latest, o6 a_now x_now_coins x_now_hands x_now_laws x_now_bytes x_now_sides a_now_edge a_now_bend a_now_rise a_now_wandering a_now_thrown a_now_alike a_now_law a_now_tape a_now_side, aI G a_now_side 16 f_now_side] z A) args s 0 0 A) (F0 m 6 ls []) := by
    intro n
    induction n with
    | zero =>
      intro l1 l2 l3 H locs ls hP hD hS hl hF
      cases hF
    | succ n ih =>
      have B51 : ∀ (l1 : Int32) (l3 : Int32) (s0 : Int32) (H : Heap) (locs : List Loc) (ls : Array Slot), va_P G.1 vwCl [o11 h a_now a_kept x_isKept a_reader a_flight a_latest, o6 a_now x_now_coins x_now_hands x_now_laws x_now_bytes x_now_sides a_now_edge a_now_bend a_now_rise a_now_wandering a_now_thrown a_now_alike a_now_law a_now_tape a_now_side, aI G a_now_side 16 f_now_side] H → va_D A [o11 h a_now a_kept x_isKept a_reader a_flight a_latest, o6 a_now x_now_coins x_now_hands x_now_laws x_now_bytes x_now_sides a_now_edge a_now_bend a_now_rise a_now_wandering a_now_thrown a_now_alike a_now_law a_now_tape a_now_side, aI G a_now_side 16 f_now_side] → va_S A s.heap H locs → lv_has ls 4 [(0, .ref h), (1, .int l1), (3, .int l3)] → fX11_longestStretch_b51 (fX11_longestStretch_L6 x_now_sides f_now_side n) x_now_sides f_now_side l1 l3 s0 = some (z) → W p l e (rm_X11_longestStretch) s m args below meth c H locs 0 0 (MQ below (QI G [o11 h a_now a_kept x_isKept a_reader a_flight a_latest, o6 a_now x_now_coins x_now_hands x_now_laws x_now_bytes x_now_sides a_now_edge a_now_bend a_now_rise a_now_wandering a_now_thrown a_now_alike a_now_law a_now_tape a_now_side, aI G a_now_side 16 f_now_side] z A) args s 0 0 A) (F0 m 51 ls [.int s0]) := by
        intro l1 l3 s0 H locs ls hP hD hS hl hF
        unfold fX11_longestStretch_b51 at hF
        refine lv_istore_n (lv' := [(2, .int s0), (0, .ref h), (1, .int l1), (3, .int l3)]) hx hb dX11_longestStretch_51 rfl hl (by decide) rfl (fun ls hl => ?_)
        refine lv_iload_n hx hb dX11_longestStretch_52 rfl (lv_at hl 2 rfl) ?_
        refine lv_iload_n hx hb dX11_longestStretch_53 rfl (lv_at hl 0 rfl) ?_
        refine va_mmax hx hb (hml.trans hl.1.symm) hown lm_184 ms_max mi mc_max (Nat.le_of_ble_eq_true rfl) (Nat.le_of_ble_eq_true rfl) (Nat.zero_le _) (Nat.zero_le _) dX11_longestStretch_54 ?_
        refine lv_istore_n (lv' := [(1, .int (if l1 < s0 then s0 else l1)), (2, .int s0), (0, .ref h), (3, .int l3)]) hx hb dX11_longestStretch_57 rfl hl (by decide) rfl (fun ls hl => ?_)
        refine lv_iinc (v := l3 + 1) (lv' := [(3, .int (l3 + 1)), (1, .int (if l1 < s0 then s0 else l1)), (2, .int s0), (0, .ref h)]) hx hb dX11_longestStretch_58 hl (k := 3) rfl rfl (by decide) rfl (fun ls hl => ?_)
        refine lv_goto (tgt := 6) hx hb dX11_longestStretch_61 (by decide) ?_
        exact ih _ _ _ H locs ls hP hD hS (lv_sub hl [3, 1, 2, 0] rfl) hF
      have B50 : ∀ (l1 : Int32) (l3 : Int32) (H : Heap) (locs : List Loc) (ls : Array Slot), va_P G.1 vwCl [o11 h a_now a_kept x_isKept a_reader a_flight a_latest, o6 a_now x_now_coins x_now_hands x_now_laws x_now_bytes x_now_sides a_now_edge a_now_bend a_now_rise a_now_wandering a_now_thrown a_now_alike a_now_law a_now_tape a_now_side, aI G a_now_side 16 f_now_side] H → va_D A [o11 h a_now a_kept x_isKept a_reader a_flight a_latest, o6 a_now x_now_coins x_now_hands x_now_laws x_now_bytes x_now_sides a_now_edge a_now_bend a_now_rise a_now_wandering a_now_thrown a_now_alike a_now_law a_now_tape a_now_side, aI G a_now_side 16 f_now_side] → va_S A s.heap H locs → lv_has ls 4 [(0, .ref h), (1, .int l1), (3, .int l3)] → fX11_longestStretch_b50 (fX11_longestStretch_L6 x_now_sides f_now_side n) x_now_sides f_now_side l1 l3 = some (z) → W p l e (rm_X11_longestStretch) s m args below meth c H locs 0 0 (MQ below (QI G [o11 h a_now a_kept x_isKept a_reader a_flight a_latest, o6 a_now x_now_coins x_now_hands x_now_laws x_now_bytes x_now_sides a_now_edge a_now_bend a_now_rise a_now_wandering a_now_thrown a_now_alike a_now_law a_now_tape a_now_side, aI G a_now_side 16 f_now_side] z A) args s 0 0 A) (F0 m 50 ls []) := by
        intro l1 l3 H locs ls hP hD hS hl hF
        unfold fX11_longestStretch_b50 at hF
        refine lv_iconst (v := 1) hx hb dX11_longestStretch_50 (by decide) ?_
        exact B51 _ _ _ H locs ls hP hD hS (lv_sub hl [0, 1, 2] rfl) hF
      intro l1 l2 l3 H locs ls hP hD hS hl hF
      rw [fX11_longestStretch_L6] at hF
      refine lv_iload_n hx hb dX11_longestStretch_6 rfl (lv_at hl 3 rfl) ?_
      refine lv_aload_n hx hb dX11_longestStretch_7 rfl (lv_at hl 0 rfl) ?_
      refine va_get (D := G.1) (ci := 11) (v := .ref a_now) (C := RX11) (T := TX11) (N := 6) hx hb hts hin11 hown hK hP 0 rfl rfl 0 (by decide) lk_12 (fun _ h9 => h9) rfl dX11_longestStretch_8 ?_
      refine va_getN (D := G.1) (ci := 6) (v := .int x_now_sides) (C := RX6) (T := TX6) (N := 14) hx hb hts hin6 hown hK hP 1 rfl rfl 4 (by decide) lk_202 (fun _ h9 => h9) rfl dX11_longestStretch_11 ?_
      refine lv_icmp_ge (tgt := 64) hx hb dX11_longestStretch_14 (by decide) (fun c1 => ?_) (fun c1 => ?_)
      · rw [if_pos c1] at hF
        refine lv_iload_n hx hb dX11_longestStretch_64 rfl (lv_at hl 1 rfl) ?_
        injection hF with hz
        subst hz
        exact cm_reti hx hb hr rfl hlk hK hP hD hS dX11_longestStretch_65
      rw [if_neg c1] at hF
      refine lv_iload_n hx hb dX11_longestStretch_17 rfl (lv_at hl 3 rfl) ?_
      refine lv_if_le (tgt := 50) hx hb dX11_longestStretch_18 (by decide) (fun c2 => ?_) (fun c2 => ?_)
      · rw [if_pos c2] at hF
        exact B50 _ _ H locs ls hP hD hS (lv_sub hl [0, 1, 3] rfl) hF
      rw [if_neg c2] at hF
      refine lv_aload_n hx hb dX11_longestStretch_21 rfl (lv_at hl 0 rfl) ?_
      refine va_get (D := G.1) (ci := 11) (v := .ref a_now) (C := RX11) (T := TX11) (N := 6) hx hb hts hin11 hown hK hP 0 rfl rfl 0 (by decide) lk_12 (fun _ h9 => h9) rfl dX11_longestStretch_22 ?_
      refine va_getN (D := G.1) (ci := 6) (v := .ref a_now_side) (C := RX6) (T := TX6) (N := 14) hx hb hts hin6 hown hK hP 1 rfl rfl 13 (by decide) lk_205 (fun _ h9 => h9) rfl dX11_longestStretch_25 ?_
      refine lv_iload_n hx hb dX11_longestStretch_28 rfl (lv_at hl 3 rfl) ?_
      obtain ⟨hi3, hF⟩ := ck_some hF
      refine va_iald (D := G.1) hx hb hK hP 2 0 rfl rfl hi3 dX11_longestStretch_29 ?_
      refine lv_aload_n hx hb dX11_longestStretch_30 rfl (lv_at hl 0 rfl) ?_
      refine W.eq (g2 := F0 m 31 ls [.ref h, .int (f_now_side l3.toNatClampNeg)]) rfl ?_
      refine va_get (D := G.1) (ci := 11) (v := .ref a_now) (C := RX11) (T := TX11) (N := 6) hx hb hts hin11 hown hK hP 0 rfl rfl 0 (by decide) lk_12 (fun _ h9 => h9) rfl dX11_longestStretch_31 ?_
      refine va_getN (D := G.1) (ci := 6) (v := .ref a_now_side) (C := RX6) (T := TX6) (N := 14) hx hb hts hin6 hown hK hP 1 rfl rfl 13 (by decide) lk_205 (fun _ h9 => h9) rfl dX11_longestStretch_34 ?_
      refine lv_iload_n hx hb dX11_longestStretch_37 rfl (lv_at hl 3 rfl) ?_
      refine lv_iconst (v := 1) hx hb dX11_longestStretch_38 (by decide) ?_
      refine lv_isub hx hb dX11_longestStretch_39 ?_
      obtain ⟨hi4, hF⟩ := ck_some hF
      refine va_iald (D := G.1) hx hb hK hP 2 0 rfl rfl hi4 dX11_longestStretch_40 ?_
      refine lv_icmp_ne (tgt := 50) hx hb dX11_longestStretch_41 (by decide) (fun c5 => ?_) (fun c5 => ?_)
      · rw [if_neg c5] at hF
        exact B50 _ _ H locs ls hP hD hS (lv_sub hl [0, 1, 3] rfl) hF
      rw [if_pos c5] at hF
      refine lv_iload_n hx hb dX11_longestStretch_44 rfl (lv_at hl 2 rfl) ?_
      refine lv_iconst (v := 1) hx hb dX11_longestStretch_45 (by decide) ?_
      refine lv_iadd hx hb dX11_longestStretch_46 ?_
      refine lv_goto (tgt := 51) hx hb dX11_longestStretch_47 (by decide) ?_
      exact B51 _ _ _ H locs ls hP hD hS (lv_sub hl [0, 1, 3] rfl) hF
  intro hF
  unfold fX11_longestStretch at hF
  refine lv_iconst (v := 0) hx hb dX11_longestStretch_0 (by decide) ?_
  refine lv_istore_n (lv' := [(1, .int 0), (0, .ref h)]) hx hb dX11_longestStretch_1 rfl hl (by decide) rfl (fun ls hl => ?_)
  refine lv_iconst (v := 0) hx hb dX11_longestStretch_2 (by decide) ?_
  refine lv_istore_n (lv' := [(2, .int 0), (1, .int 0), (0, .ref h)]) hx hb dX11_longestStretch_3 rfl hl (by decide) rfl (fun ls hl => ?_)
  refine lv_iconst (v := 0) hx hb dX11_longestStretch_4 (by decide) ?_
  refine lv_istore_n (lv' := [(3, .int 0), (2, .int 0), (1, .int 0), (0, .ref h)]) hx hb dX11_longestStretch_5 rfl hl (by decide) rfl (fun ls hl => ?_)
  refine LP6 _ _ _ _ H locs ls hP hD hS (lv_sub hl [3, 2, 1, 0] rfl) hF

/-! HeadsByHair.runs(I)I -/
abbrev rm_X11_runs : Room := { frames := 2, cells := 0, slots := 0, locals := 47 }
set_option maxHeartbeats 4000000 in
set_option maxRecDepth 100000 in
theorem c_X11_runs (l : Launch) (G : GG) (h a_now a_kept a_reader a_flight a_latest a_now_edge a_now_bend a_now_rise a_now_wandering a_now_thrown a_now_alike a_now_law a_now_tape a_now_side : Nat) (x_isKept x_now_coins x_now_hands x_now_laws x_now_bytes x_now_sides : Int32) (f_now_side : Nat → Int32) (l1 : Int32) (z : Int32) (hF : fX11_runs x_now_sides f_now_side l1 = some (z)) : CMi l yX11_runs wsX11_runs rm_X11_runs G [o11 h a_now a_kept x_isKept a_reader a_flight a_latest, o6 a_now x_now_coins x_now_hands x_now_laws x_now_bytes x_now_sides a_now_edge a_now_bend a_now_rise a_now_wandering a_now_thrown a_now_alike a_now_law a_now_tape a_now_side, aI G a_now_side 16 f_now_side] [o11 h a_now a_kept x_isKept a_reader a_flight a_latest, o6 a_now x_now_coins x_now_hands x_now_laws x_now_bytes x_now_sides a_now_edge a_now_bend a_now_rise a_now_wandering a_now_thrown a_now_alike a_now_law a_now_tape a_now_side, aI G a_now_side 16 f_now_side] [.ref h, .int l1] z := by
  refine cm_start (cc := cX11_runs) (maxL := 2) (ret := (some .int)) (Qc := fun A => QI G [o11 h a_now a_kept x_isKept a_reader a_flight a_latest, o6 a_now x_now_coins x_now_hands x_now_laws x_now_bytes x_now_sides a_now_edge a_now_bend a_now_rise a_now_wandering a_now_thrown a_now_alike a_now_law a_now_tape a_now_side, aI G a_now_side 16 f_now_side] z A) (by decide +kernel) rfl (Nat.le_of_ble_eq_true rfl) ?_
  intro p e s m args below meth c A hx hb hr hlk hml hown hnm hts hA H locs hP hK hD hE hS ls hl
  have hown : s.vm.findClass RX11 = some m.cls := hown
  have hl : lv_has ls 2 [(0, .ref h), (1, .int l1)] := hl
  revert hF
  intro hF
  unfold fX11_runs at hF
  refine lv_iload_n hx hb dX11_runs_0 rfl (lv_at hl 1 rfl) ?_
  by_cases c1 : l1 = 0
  · rw [if_pos c1] at hF
    refine lv_eqi c1 ?_
    refine lv_lookup (tgt := 28) (off := 27) hx hb dX11_runs_1 (by decide) (by decide) (by decide) ?_
    refine lv_aload_n hx hb dX11_runs_28 rfl (lv_at hl 0 rfl) ?_
    obtain ⟨r2, hc3, hF⟩ := bd_some hF
    have hPc := hP.sub (ws' := [o11 h a_now a_kept x_isKept a_reader a_flight a_latest, o6 a_now x_now_coins x_now_hands x_now_laws x_now_bytes x_now_sides a_now_edge a_now_bend a_now_rise a_now_wandering a_now_thrown a_now_alike a_now_law a_now_tape a_now_side, aI G a_now_side 16 f_now_side]) [0, 1, 2] rfl
    have hDc := hD.sub (ws' := [o11 h a_now a_kept x_isKept a_reader a_flight a_latest, o6 a_now x_now_coins x_now_hands x_now_laws x_now_bytes x_now_sides a_now_edge a_now_bend a_now_rise a_now_wandering a_now_thrown a_now_alike a_now_law a_now_tape a_now_side, aI G a_now_side 16 f_now_side]) [0, 1, 2] (by decide) rfl
    have hFc := va_free (wc := [o11 h a_now a_kept x_isKept a_reader a_flight a_latest, o6 a_now x_now_coins x_now_hands x_now_laws x_now_bytes x_now_sides a_now_edge a_now_bend a_now_rise a_now_wandering a_now_thrown a_now_alike a_now_law a_now_tape a_now_side, aI G a_now_side 16 f_now_side]) hD hS hA [0, 1, 2] rfl
    have hM := c_X11_stretches l G h a_now a_kept a_reader a_flight a_latest a_now_edge a_now_bend a_now_rise a_now_wandering a_now_thrown a_now_alike a_now_law a_now_tape a_now_side x_isKept x_now_coins x_now_hands x_now_laws x_now_bytes x_now_sides f_now_side r2 hc3 H.size
    refine cl_i (w1 := [o11 h a_now a_kept x_isKept a_reader a_flight a_latest, o6 a_now x_now_coins x_now_hands x_now_laws x_now_bytes x_now_sides a_now_edge a_now_bend a_now_rise a_now_wandering a_now_thrown a_now_alike a_now_law a_now_tape a_now_side, aI G a_now_side 16 f_now_side]) (ws' := [o11 h a_now a_kept x_isKept a_reader a_flight a_latest, o6 a_now x_now_coins x_now_hands x_now_laws x_now_bytes x_now_sides a_now_edge a_now_bend a_now_rise a_now_wandering a_now_thrown a_now_alike a_now_law a_now_tape a_now_side, aI G a_now_side 16 f_now_side]) hP hD hS hFc [0, 1, 2] rfl rfl rfl (va_runV (As := []) (rest := []) ⟨hx, hb, hml, hown, hts⟩ hM (cwV 0 hts gX11_runs_X11_stretches rfl rfl rfl (by decide +kernel) ⟨Nat.le_of_ble_eq_true rfl, Nat.le_of_ble_eq_true rfl⟩) (cp_V hK hE hS hPc hDc hFc (va_recv hK hPc (ci := 11) (q0 := 0) rfl rfl)) rfl rfl hl.1 rfl (lv_room (Nat.le_of_ble_eq_true rfl)) dX11_runs_29 ⟨Nat.zero_le _, Nat.zero_le _⟩) (fun H locs hP hD hS => ?_)
    injection hF with hz
    subst hz
    exact cm_reti hx hb hr rfl hlk hK hP hD hS dX11_runs_32
  rw [if_neg c1] at hF
  by_cases c4 : l1 = 1
  · rw [if_pos c4] at hF
    refine lv_eqi c4 ?_
    refine lv_lookup (tgt := 33) (off := 32) hx hb dX11_runs_1 (by decide) (by decide) (by decide) ?_
    refine lv_aload_n hx hb dX11_runs_33 rfl (lv_at hl 0 rfl) ?_
    obtain ⟨r5, hc6, hF⟩ := bd_some hF
    have hPc := hP.sub (ws' := [o11 h a_now a_kept x_isKept a_reader a_flight a_latest, o6 a_now x_now_coins x_now_hands x_now_laws x_now_bytes x_now_sides a_now_edge a_now_bend a_now_rise a_now_wandering a_now_thrown a_now_alike a_now_law a_now_tape a_now_side, aI G a_now_side 16 f_now_side]) [0, 1, 2] rfl
    have hDc := hD.sub (ws' := [o11 h a_now a_kept x_isKept a_reader a_flight a_latest, o6 a_now x_now_coins x_now_hands x_now_laws x_now_bytes x_now_sides a_now_edge a_now_bend a_now_rise a_now_wandering a_now_thrown a_now_alike a_now_law a_now_tape a_now_side, aI G a_now_side 16 f_now_side]) [0, 1, 2] (by decide) rfl
    have hFc := va_free (wc := [o11 h a_now a_kept x_isKept a_reader a_flight a_latest, o6 a_now x_now_coins x_now_hands x_now_laws x_now_bytes x_now_sides a_now_edge a_now_bend a_now_rise a_now_wandering a_now_thrown a_now_alike a_now_law a_now_tape a_now_side, aI G a_now_side 16 f_now_side]) hD hS hA [0, 1, 2] rfl
    have hM := c_X11_longestStretch l G h a_now a_kept a_reader a_flight a_latest a_now_edge a_now_bend a_now_rise a_now_wandering a_now_thrown a_now_alike a_now_law a_now_tape a_now_side x_isKept x_now_coins x_now_hands x_now_laws x_now_bytes x_now_sides f_now_side r5 hc6 H.size
    refine cl_i (w1 := [o11 h a_now a_kept x_isKept a_reader a_flight a_latest, o6 a_now x_now_coins x_now_hands x_now_laws x_now_bytes x_now_sides a_now_edge a_now_bend a_now_rise a_now_wandering a_now_thrown a_now_alike a_now_law a_now_tape a_now_side, aI G a_now_side 16 f_now_side]) (ws' := [o11 h a_now a_kept x_isKept a_reader a_flight a_latest, o6 a_now x_now_coins x_now_hands x_now_laws x_now_bytes x_now_sides a_now_edge a_now_bend a_now_rise a_now_wandering a_now_thrown a_now_alike a_now_law a_now_tape a_now_side, aI G a_now_side 16 f_now_side]) hP hD hS hFc [0, 1, 2] rfl rfl rfl (va_runV (As := []) (rest := []) ⟨hx, hb, hml, hown, hts⟩ hM (cwV 0 hts gX11_runs_X11_longestStretch rfl rfl rfl (by decide +kernel) ⟨Nat.le_of_ble_eq_true rfl, Nat.le_of_ble_eq_true rfl⟩) (cp_V hK hE hS hPc hDc hFc (va_recv hK hPc (ci := 11) (q0 := 0) rfl rfl)) rfl rfl hl.1 rfl (lv_room (Nat.le_of_ble_eq_true rfl)) dX11_runs_34 ⟨Nat.zero_le _, Nat.zero_le _⟩) (fun H locs hP hD hS => ?_)
    injection hF with hz
    subst hz
    exact cm_reti hx hb hr rfl hlk hK hP hD hS dX11_runs_37
  rw [if_neg c4] at hF
  refine lv_lookup (tgt := 38) (off := 37) hx hb dX11_runs_1 (by decide) (by refine (lv_osw (k := 0) c1 (by decide)).trans ?_; refine (lv_osw (k := 1) c4 (by decide)).trans ?_; rfl) (by decide) ?_
  refine lv_iconst (v := (-1)) hx hb dX11_runs_38 (by decide) ?_
  injection hF with hz
  subst hz
  exact cm_reti hx hb hr rfl hlk hK hP hD hS dX11_runs_39

/-! HeadsByHair.made(I)I -/
abbrev rm_X11_made : Room := { frames := 2, cells := 0, slots := 0, locals := 52 }
set_option maxHeartbeats 4000000 in
set_option maxRecDepth 100000 in
theorem c_X11_made (l : Launch) (G : GG) (h a_now a_kept a_reader a_flight a_latest a_now_edge a_now_bend a_now_rise a_now_wandering a_now_thrown a_now_alike a_now_law a_now_tape a_now_side : Nat) (x_isKept x_now_coins x_now_hands x_now_laws x_now_bytes x_now_sides : Int32) (f_now_side : Nat → Int32) (l1 : Int32) (z : Int32) (hF : fX11_made x_now_sides f_now_side l1 = some (z)) : CMi l yX11_made wsX11_made rm_X11_made G [o11 h a_now a_kept x_isKept a_reader a_flight a_latest, o6 a_now x_now_coins x_now_hands x_now_laws x_now_bytes x_now_sides a_now_edge a_now_bend a_now_rise a_now_wandering a_now_thrown a_now_alike a_now_law a_now_tape a_now_side, aI G a_now_side 16 f_now_side] [o11 h a_now a_kept x_isKept a_reader a_flight a_latest, o6 a_now x_now_coins x_now_hands x_now_laws x_now_bytes x_now_sides a_now_edge a_now_bend a_now_rise a_now_wandering a_now_thrown a_now_alike a_now_law a_now_tape a_now_side, aI G a_now_side 16 f_now_side] [.ref h, .int l1] z := by
  refine cm_start (cc := cX11_made) (maxL := 5) (ret := (some .int)) (Qc := fun A => QI G [o11 h a_now a_kept x_isKept a_reader a_flight a_latest, o6 a_now x_now_coins x_now_hands x_now_laws x_now_bytes x_now_sides a_now_edge a_now_bend a_now_rise a_now_wandering a_now_thrown a_now_alike a_now_law a_now_tape a_now_side, aI G a_now_side 16 f_now_side] z A) (by decide +kernel) rfl (Nat.le_of_ble_eq_true rfl) ?_
  intro p e s m args below meth c A hx hb hr hlk hml hown hnm hts hA H locs hP hK hD hE hS ls hl
  have hown : s.vm.findClass RX11 = some m.cls := hown
  have hl : lv_has ls 5 [(0, .ref h), (1, .int l1)] := hl
  have hin11 : ∀ w ∈ wsX110, w ∈ wsX11_made := by decide +kernel
  have hin6 : ∀ w ∈ wsX60, w ∈ wsX11_made := by decide +kernel
  have lk_12 := hts (.fieldLink RX11 12 "HeadsByHair" "now" "LHeadsByHair$Stock;") (by decide +kernel)
  have lk_202 := va_Nw.use (A := args) rfl (hE.nw (.fieldLinkNest "HeadsByHair" 202 "HeadsByHair$Stock" "sides" "I" "HeadsByHair") (by decide +kernel))
  revert hF
  intro hF
  unfold fX11_made at hF
  refine lv_iload_n hx hb dX11_made_0 rfl (lv_at hl 1 rfl) ?_
  obtain ⟨r1, hc2, hF⟩ := bd_some hF
  have hPc := hP.sub (ws' := []) [] rfl
  have hDc := hD.sub (ws' := []) [] (by decide) rfl
  have hFc := va_free (wc := []) hD hS hA [] rfl
  have hM := c_X11_isPart l G l1 r1 hc2 H.size
  refine cl_i (w1 := []) (ws' := [o11 h a_now a_kept x_isKept a_reader a_flight a_latest, o6 a_now x_now_coins x_now_hands x_now_laws x_now_bytes x_now_sides a_now_edge a_now_bend a_now_rise a_now_wandering a_now_thrown a_now_alike a_now_law a_now_tape a_now_side, aI G a_now_side 16 f_now_side]) hP hD hS hFc [] rfl rfl rfl (va_runS (As := [.int l1]) (rest := []) ⟨hx, hb, hml, hown, hts⟩ hM (va_cwS 1 hts gX11_made_X11_isPart rfl rfl rfl (by decide +kernel) ⟨Nat.le_of_ble_eq_true rfl, Nat.le_of_ble_eq_true rfl⟩) (cp_S hK hE hS hPc hDc hFc) rfl rfl hl.1 rfl (lv_room (Nat.le_of_ble_eq_true rfl)) dX11_made_1 ⟨Nat.zero_le _, Nat.zero_le _⟩) (fun H locs hP hD hS => ?_)
  refine lv_if_ne (tgt := 9) hx hb dX11_made_4 (by decide) (fun c3 => ?_) (fun c3 => ?_)
  · rw [if_neg c3] at hF
    refine lv_aload_n hx hb dX11_made_9 rfl (lv_at hl 0 rfl) ?_
    refine va_get (D := G.1) (ci := 11) (v := .ref a_now) (C := RX11) (T := TX11) (N := 6) hx hb hts hin11 hown hK hP 0 rfl rfl 0 (by decide) lk_12 (fun _ h9 => h9) rfl dX11_made_10 ?_
    refine va_getN (D := G.1) (ci := 6) (v := .int x_now_sides) (C := RX6) (T := TX6) (N := 14) hx hb hts hin6 hown hK hP 1 rfl rfl 4 (by decide) lk_202 (fun _ h9 => h9) rfl dX11_made_13 ?_
    refine lv_if_ne (tgt := 21) hx hb dX11_made_16 (by decide) (fun c4 => ?_) (fun c4 => ?_)
    · rw [if_neg c4] at hF
      refine lv_aload_n hx hb dX11_made_21 rfl (lv_at hl 0 rfl) ?_
      refine va_get (D := G.1) (ci := 11) (v := .ref a_now) (C := RX11) (T := TX11) (N := 6) hx hb hts hin11 hown hK hP 0 rfl rfl 0 (by decide) lk_12 (fun _ h9 => h9) rfl dX11_made_22 ?_
      refine va_getN (D := G.1) (ci := 6) (v := .int x_now_sides) (C := RX6) (T := TX6) (N := 14) hx hb hts hin6 hown hK hP 1 rfl rfl 4 (by decide) lk_202 (fun _ h9 => h9) rfl dX11_made_25 ?_
      refine lv_iconst (v := 1) hx hb dX11_made_28 (by decide) ?_
      refine lv_isub hx hb dX11_made_29 ?_
      refine lv_istore_n (lv' := [(2, .int (x_now_sides - 1)), (0, .ref h), (1, .int l1)]) hx hb dX11_made_30 rfl hl (by decide) rfl (fun ls hl => ?_)
      refine W.eq (g2 := F0 m 31 ls []) rfl ?_
      refine lv_iload_n hx hb dX11_made_31 rfl (lv_at hl 0 rfl) ?_
      refine lv_iconst (v := 0) hx hb dX11_made_32 (by decide) ?_
      refine lv_aload_n hx hb dX11_made_33 rfl (lv_at hl 1 rfl) ?_
      obtain ⟨r5, hc6, hF⟩ := bd_some hF
      have hPc := hP.sub (ws' := [o11 h a_now a_kept x_isKept a_reader a_flight a_latest, o6 a_now x_now_coins x_now_hands x_now_laws x_now_bytes x_now_sides a_now_edge a_now_bend a_now_rise a_now_wandering a_now_thrown a_now_alike a_now_law a_now_tape a_now_side, aI G a_now_side 16 f_now_side]) [0, 1, 2] rfl
      have hDc := hD.sub (ws' := [o11 h a_now a_kept x_isKept a_reader a_flight a_latest, o6 a_now x_now_coins x_now_hands x_now_laws x_now_bytes x_now_sides a_now_edge a_now_bend a_now_rise a_now_wandering a_now_thrown a_now_alike a_now_law a_now_tape a_now_side, aI G a_now_side 16 f_now_side]) [0, 1, 2] (by decide) rfl
      have hFc := va_free (wc := [o11 h a_now a_kept x_isKept a_reader a_flight a_latest, o6 a_now x_now_coins x_now_hands x_now_laws x_now_bytes x_now_sides a_now_edge a_now_bend a_now_rise a_now_wandering a_now_thrown a_now_alike a_now_law a_now_tape a_now_side, aI G a_now_side 16 f_now_side]) hD hS hA [0, 1, 2] rfl
      have hM := c_X11_stretches l G h a_now a_kept a_reader a_flight a_latest a_now_edge a_now_bend a_now_rise a_now_wandering a_now_thrown a_now_alike a_now_law a_now_tape a_now_side x_isKept x_now_coins x_now_hands x_now_laws x_now_bytes x_now_sides f_now_side r5 hc6 H.size
      refine cl_i (w1 := [o11 h a_now a_kept x_isKept a_reader a_flight a_latest, o6 a_now x_now_coins x_now_hands x_now_laws x_now_bytes x_now_sides a_now_edge a_now_bend a_now_rise a_now_wandering a_now_thrown a_now_alike a_now_law a_now_tape a_now_side, aI G a_now_side 16 f_now_side]) (ws' := [o11 h a_now a_kept x_isKept a_reader a_flight a_latest, o6 a_now x_now_coins x_now_hands x_now_laws x_now_bytes x_now_sides a_now_edge a_now_bend a_now_rise a_now_wandering a_now_thrown a_now_alike a_now_law a_now_tape a_now_side, aI G a_now_side 16 f_now_side]) hP hD hS hFc [0, 1, 2] rfl rfl rfl (va_runV (As := []) (rest := [.int 0, .int (x_now_sides - 1)]) ⟨hx, hb, hml, hown, hts⟩ hM (cwV 0 hts gX11_made_X11_stretches rfl rfl rfl (by decide +kernel) ⟨Nat.le_of_ble_eq_true rfl, Nat.le_of_ble_eq_true rfl⟩) (cp_V hK hE hS hPc hDc hFc (va_recv hK hPc (ci := 11) (q0 := 0) rfl rfl)) rfl rfl hl.1 rfl (lv_room (Nat.le_of_ble_eq_true rfl)) dX11_made_34 ⟨Nat.zero_le _, Nat.zero_le _⟩) (fun H locs hP hD hS => ?_)
      refine lv_iconst (v := 1) hx hb dX11_made_37 (by decide) ?_
      refine lv_isub hx hb dX11_made_38 ?_
      obtain ⟨r7, hc8, hF⟩ := bd_some hF
      have hPc := hP.sub (ws' := []) [] rfl
      have hDc := hD.sub (ws' := []) [] (by decide) rfl
      have hFc := va_free (wc := []) hD hS hA [] rfl
      have hM := c_X11_choicesBetween l G (x_now_sides - 1) (0 : Int32) (r5 - 1) r7 hc8 H.size
      refine cl_l (w1 := []) (ws' := [o11 h a_now a_kept x_isKept a_reader a_flight a_latest, o6 a_now x_now_coins x_now_hands x_now_laws x_now_bytes x_now_sides a_now_edge a_now_bend a_now_rise a_now_wandering a_now_thrown a_now_alike a_now_law a_now_tape a_now_side, aI G a_now_side 16 f_now_side]) hP hD hS hFc [] rfl rfl rfl (va_runS (As := [.int (x_now_sides - 1), .int 0, .int (r5 - 1)]) (rest := []) ⟨hx, hb, hml, hown, hts⟩ hM (va_cwS 3 hts gX11_made_X11_choicesBetween rfl rfl rfl (by decide +kernel) ⟨Nat.le_of_ble_eq_true rfl, Nat.le_of_ble_eq_true rfl⟩) (cp_S hK hE hS hPc hDc hFc) rfl rfl hl.1 rfl (lv_room (Nat.le_of_ble_eq_true rfl)) dX11_made_39 ⟨Nat.zero_le _, Nat.zero_le _⟩) (fun H locs hP hD hS => ?_)
      refine lv_lstore_n (lv' := [(3, .long r7), (2, .int (x_now_sides - 1)), (0, .ref h), (1, .int l1)]) hx hb dX11_made_42 rfl hl (by decide) rfl (fun ls hl => ?_)
      refine lv_lload_n hx hb dX11_made_43 rfl (lv_at hl 0 rfl) ?_
      refine lv_lconst (v := 1) hx hb dX11_made_44 (by decide) ?_
      refine lv_iload_n hx hb dX11_made_45 rfl (lv_at hl 1 rfl) ?_
      refine lv_lshl (v := ((1 : Int64) <<< ((x_now_sides - 1).toInt64 &&& 63))) hx hb dX11_made_46 rfl ?_
      refine lv_iload_n hx hb dX11_made_47 rfl (lv_at hl 3 rfl) ?_
      obtain ⟨r9, hc10, hF⟩ := bd_some hF
      have hPc := hP.sub (ws' := []) [] rfl
      have hDc := hD.sub (ws' := []) [] (by decide) rfl
      have hFc := va_free (wc := []) hD hS hA [] rfl
      have hM := c_X11_inLowest l G r7 ((1 : Int64) <<< ((x_now_sides - 1).toInt64 &&& 63)) l1 r9 hc10 H.size
      refine cl_l (w1 := []) (ws' := [o11 h a_now a_kept x_isKept a_reader a_flight a_latest, o6 a_now x_now_coins x_now_hands x_now_laws x_now_bytes x_now_sides a_now_edge a_now_bend a_now_rise a_now_wandering a_now_thrown a_now_alike a_now_law a_now_tape a_now_side, aI G a_now_side 16 f_now_side]) hP hD hS hFc [] rfl rfl rfl (va_runS (As := [.long r7, .long ((1 : Int64) <<< ((x_now_sides - 1).toInt64 &&& 63)), .int l1]) (rest := []) ⟨hx, hb, hml, hown, hts⟩ hM (va_cwS 3 hts gX11_made_X11_inLowest rfl rfl rfl (by decide +kernel) ⟨Nat.le_of_ble_eq_true rfl, Nat.le_of_ble_eq_true rfl⟩) (cp_S hK hE hS hPc hDc hFc) rfl rfl hl.1 rfl (lv_room (Nat.le_of_ble_eq_true rfl)) dX11_made_48 ⟨Nat.zero_le _, Nat.zero_le _⟩) (fun H locs hP hD hS => ?_)
      refine W.eq (g2 := F0 m 51 ls [.long r9]) rfl ?_
      refine lv_l2i (v := r9.toInt32) hx hb dX11_made_51 rfl ?_
      injection hF with hz
      subst hz
      exact cm_reti hx hb hr rfl hlk hK hP hD hS dX11_made_52
    rw [if_pos c4] at hF
    refine lv_iconst (v := 1) hx hb dX11_made_19 (by decide) ?_
    injection hF with hz
    subst hz
    exact cm_reti hx hb hr rfl hlk hK hP hD hS dX11_made_20
  rw [if_pos c3] at hF
  refine lv_iconst (v := (-1)) hx hb dX11_made_7 (by decide) ?_
  injection hF with hz
  subst hz
  exact cm_reti hx hb hr rfl hlk hK hP hD hS dX11_made_8

/-! HeadsByHair.fair(II)I -/
abbrev rm_X11_fair : Room := { frames := 2, cells := 0, slots := 0, locals := 52 }
set_option maxHeartbeats 4000000 in
set_option maxRecDepth 100000 in
theorem c_X11_fair (l : Launch) (G : GG) (h : Nat) (l1 : Int32) (l2 : Int32) (z : Int32) (hF : fX11_fair l1 l2 = some (z)) : CMi l yX11_fair wsX11_fair rm_X11_fair G [] [] [.ref h, .int l1, .int l2] z := by
  refine cm_start (cc := cX11_fair) (maxL := 3) (ret := (some .int)) (Qc := fun A => QI G [] z A) (by decide +kernel) rfl (Nat.le_of_ble_eq_true rfl) ?_
  intro p e s m args below meth c A hx hb hr hlk hml hown hnm hts hA H locs hP hK hD hE hS ls hl
  have hown : s.vm.findClass RX11 = some m.cls := hown
  have hl : lv_has ls 3 [(0, .ref h), (1, .int l1), (2, .int l2)] := hl
  have lc_218 := hts (.constantLong RX11 218 (10000)) (by decide +kernel)
  revert hF
  intro hF
  unfold fX11_fair at hF
  refine lv_iload_n hx hb dX11_fair_0 rfl (lv_at hl 2 rfl) ?_
  obtain ⟨r1, hc2, hF⟩ := bd_some hF
  have hPc := hP.sub (ws' := []) [] rfl
  have hDc := hD.sub (ws' := []) [] (by decide) rfl
  have hFc := va_free (wc := []) hD hS hA [] rfl
  have hM := c_X11_isPart l G l2 r1 hc2 H.size
  refine cl_i (w1 := []) (ws' := []) hP hD hS hFc [] rfl rfl rfl (va_runS (As := [.int l2]) (rest := []) ⟨hx, hb, hml, hown, hts⟩ hM (va_cwS 1 hts gX11_fair_X11_isPart rfl rfl rfl (by decide +kernel) ⟨Nat.le_of_ble_eq_true rfl, Nat.le_of_ble_eq_true rfl⟩) (cp_S hK hE hS hPc hDc hFc) rfl rfl hl.1 rfl (lv_room (Nat.le_of_ble_eq_true rfl)) dX11_fair_1 ⟨Nat.zero_le _, Nat.zero_le _⟩) (fun H locs hP hD hS => ?_)
  refine lv_if_ne (tgt := 9) hx hb dX11_fair_4 (by decide) (fun c3 => ?_) (fun c3 => ?_)
  · rw [if_neg c3] at hF
    refine lv_iload_n hx hb dX11_fair_9 rfl (lv_at hl 1 rfl) ?_
    refine lv_iconst (v := 1) hx hb dX11_fair_10 (by decide) ?_
    refine lv_bipush (v := 99) hx hb dX11_fair_11 (by decide) ?_
    obtain ⟨r4, hc5, hF⟩ := bd_some hF
    have hPc := hP.sub (ws' := []) [] rfl
    have hDc := hD.sub (ws' := []) [] (by decide) rfl
    have hFc := va_free (wc := []) hD hS hA [] rfl
    have hM := c_X11_isWithin l G l1 (1 : Int32) (99 : Int32) r4 hc5 H.size
    refine cl_i (w1 := []) (ws' := []) hP hD hS hFc [] rfl rfl rfl (va_runS (As := [.int l1, .int 1, .int 99]) (rest := []) ⟨hx, hb, hml, hown, hts⟩ hM (va_cwS 3 hts gX11_fair_X11_isWithin rfl rfl rfl (by decide +kernel) ⟨Nat.le_of_ble_eq_true rfl, Nat.le_of_ble_eq_true rfl⟩) (cp_S hK hE hS hPc hDc hFc) rfl rfl hl.1 rfl (lv_room (Nat.le_of_ble_eq_true rfl)) dX11_fair_13 ⟨Nat.zero_le _, Nat.zero_le _⟩) (fun H locs hP hD hS => ?_)
    refine lv_if_ne (tgt := 22) hx hb dX11_fair_16 (by decide) (fun c6 => ?_) (fun c6 => ?_)
    · rw [if_neg c6] at hF
      refine lv_ldc2 hx hb hown lc_218 dX11_fair_22 ?_
      refine lv_iload_n hx hb dX11_fair_25 rfl (lv_at hl 1 rfl) ?_
      refine lv_bipush (v := 100) hx hb dX11_fair_26 (by decide) ?_
      refine lv_iload_n hx hb dX11_fair_28 rfl (lv_at hl 1 rfl) ?_
      refine lv_isub hx hb dX11_fair_29 ?_
      refine W.eq (g2 := F0 m 30 ls [.int (100 - l1), .int l1, .long 10000]) rfl ?_
      refine lv_imul hx hb dX11_fair_30 ?_
      refine lv_i2l (v := (l1 * (100 - l1)).toInt64) hx hb dX11_fair_31 rfl ?_
      refine lv_iload_n hx hb dX11_fair_32 rfl (lv_at hl 2 rfl) ?_
      obtain ⟨r7, hc8, hF⟩ := bd_some hF
      have hPc := hP.sub (ws' := []) [] rfl
      have hDc := hD.sub (ws' := []) [] (by decide) rfl
      have hFc := va_free (wc := []) hD hS hA [] rfl
      have hM := c_X11_inLowest l G (10000 : Int64) ((l1 * (100 - l1)).toInt64) l2 r7 hc8 H.size
      refine cl_l (w1 := []) (ws' := []) hP hD hS hFc [] rfl rfl rfl (va_runS (As := [.long 10000, .long ((l1 * (100 - l1)).toInt64), .int l2]) (rest := []) ⟨hx, hb, hml, hown, hts⟩ hM (va_cwS 3 hts gX11_fair_X11_inLowest rfl rfl rfl (by decide +kernel) ⟨Nat.le_of_ble_eq_true rfl, Nat.le_of_ble_eq_true rfl⟩) (cp_S hK hE hS hPc hDc hFc) rfl rfl hl.1 rfl (lv_room (Nat.le_of_ble_eq_true rfl)) dX11_fair_33 ⟨Nat.zero_le _, Nat.zero_le _⟩) (fun H locs hP hD hS => ?_)
      refine lv_l2i (v := r7.toInt32) hx hb dX11_fair_36 rfl ?_
      injection hF with hz
      subst hz
      exact cm_reti hx hb hr rfl hlk hK hP hD hS dX11_fair_37
    rw [if_pos c6] at hF
    refine lv_bipush (v := (-2)) hx hb dX11_fair_19 (by decide) ?_
    injection hF with hz
    subst hz
    exact cm_reti hx hb hr rfl hlk hK hP hD hS dX11_fair_21
  rw [if_pos c3] at hF
  refine lv_iconst (v := (-1)) hx hb dX11_fair_7 (by decide) ?_
  injection hF with hz
  subst hz
  exact cm_reti hx hb hr rfl hlk hK hP hD hS dX11_fair_8

/-! HeadsByHair.learns(IIII)I -/
abbrev rm_X11_learns : Room := { frames := 2, cells := 0, slots := 0, locals := 45 }
set_option maxHeartbeats 4000000 in
set_option maxRecDepth 100000 in
theorem c_X11_learns (l : Launch) (G : GG) (h a_now a_kept a_reader a_flight a_latest a_now_edge a_now_bend a_now_rise a_now_wandering a_now_thrown a_now_alike a_now_law a_now_tape a_now_side : Nat) (x_isKept x_now_coins x_now_hands x_now_laws x_now_bytes x_now_sides : Int32) (f_now_rise : Nat → Int32) (f_now_thrown : Nat → Int32) (f_now_wandering : Nat → Int32) (l1 : Int32) (l2 : Int32) (l3 : Int32) (l4 : Int32) (z : Int32) (hF : fX11_learns x_now_coins x_now_hands f_now_rise f_now_thrown f_now_wandering l1 l2 l3 l4 = some (z)) : CMi l yX11_learns wsX11_learns rm_X11_learns G [o11 h a_now a_kept x_isKept a_reader a_flight a_latest, o6 a_now x_now_coins x_now_hands x_now_laws x_now_bytes x_now_sides a_now_edge a_now_bend a_now_rise a_now_wandering a_now_thrown a_now_alike a_now_law a_now_tape a_now_side, aI G a_now_rise 6 f_now_rise, aI G a_now_thrown 36 f_now_thrown, aI G a_now_wandering 6 f_now_wandering] [o11 h a_now a_kept x_isKept a_reader a_flight a_latest, o6 a_now x_now_coins x_now_hands x_now_laws x_now_bytes x_now_sides a_now_edge a_now_bend a_now_rise a_now_wandering a_now_thrown a_now_alike a_now_law a_now_tape a_now_side, aI G a_now_rise 6 f_now_rise, aI G a_now_thrown 36 f_now_thrown, aI G a_now_wandering 6 f_now_wandering] [.ref h, .int l1, .int l2, .int l3, .int l4] z := by
  refine cm_start (cc := cX11_learns) (maxL := 6) (ret := (some .int)) (Qc := fun A => QI G [o11 h a_now a_kept x_isKept a_reader a_flight a_latest, o6 a_now x_now_coins x_now_hands x_now_laws x_now_bytes x_now_sides a_now_edge a_now_bend a_now_rise a_now_wandering a_now_thrown a_now_alike a_now_law a_now_tape a_now_side, aI G a_now_rise 6 f_now_rise, aI G a_now_thrown 36 f_now_thrown, aI G a_now_wandering 6 f_now_wandering] z A) (by decide +kernel) rfl (Nat.le_of_ble_eq_true rfl) ?_
  intro p e s m args below meth c A hx hb hr hlk hml hown hnm hts hA H locs hP hK hD hE hS ls hl
  have hown : s.vm.findClass RX11 = some m.cls := hown
  have hl : lv_has ls 6 [(0, .ref h), (1, .int l1), (2, .int l2), (3, .int l3), (4, .int l4)] := hl
  have hin11 : ∀ w ∈ wsX110, w ∈ wsX11_learns := by decide +kernel
  have hin6 : ∀ w ∈ wsX60, w ∈ wsX11_learns := by decide +kernel
  have lk_12 := hts (.fieldLink RX11 12 "HeadsByHair" "now" "LHeadsByHair$Stock;") (by decide +kernel)
  have lk_63 := va_Nw.use (A := args) rfl (hE.nw (.fieldLinkNest "HeadsByHair" 63 "HeadsByHair$Stock" "wandering" "[I" "HeadsByHair") (by decide +kernel))
  have lm_184 := hts (.methodLink RX11 184 Lib.Math.max.name) (by decide +kernel)
  have ms_max := hts (.static Lib.Math.max.name) (by decide +kernel)
  have mi := hts (.initialized "java/lang/Math") (by decide +kernel)
  have mc_max := hts (.code Lib.Math.max.name Lib.Math.max.code 2 (some .int)) (by decide +kernel)
  have lk_60 := va_Nw.use (A := args) rfl (hE.nw (.fieldLinkNest "HeadsByHair" 60 "HeadsByHair$Stock" "rise" "[I" "HeadsByHair") (by decide +kernel))
  have lm_178 := hts (.methodLink RX11 178 Lib.Math.min.name) (by decide +kernel)
  have ms_min := hts (.static Lib.Math.min.name) (by decide +kernel)
  have mc_min := hts (.code Lib.Math.min.name Lib.Math.min.code 2 (some .int)) (by decide +kernel)
  revert hF
  intro hF
  unfold fX11_learns at hF
  refine lv_aload_n hx hb dX11_learns_0 rfl (lv_at hl 0 rfl) ?_
  refine lv_iload_n hx hb dX11_learns_1 rfl (lv_at hl 1 rfl) ?_
  obtain ⟨r1, hc2, hF⟩ := bd_some hF
  have hPc := hP.sub (ws' := [o11 h a_now a_kept x_isKept a_reader a_flight a_latest, o6 a_now x_now_coins x_now_hands x_now_laws x_now_bytes x_now_sides a_now_edge a_now_bend a_now_rise a_now_wandering a_now_thrown a_now_alike a_now_law a_now_tape a_now_side]) [0, 1] rfl
  have hDc := hD.sub (ws' := [o11 h a_now a_kept x_isKept a_reader a_flight a_latest, o6 a_now x_now_coins x_now_hands x_now_laws x_now_bytes x_now_sides a_now_edge a_now_bend a_now_rise a_now_wandering a_now_thrown a_now_alike a_now_law a_now_tape a_now_side]) [0, 1] (by decide) rfl
  have hFc := va_free (wc := [o11 h a_now a_kept x_isKept a_reader a_flight a_latest, o6 a_now x_now_coins x_now_hands x_now_laws x_now_bytes x_now_sides a_now_edge a_now_bend a_now_rise a_now_wandering a_now_thrown a_now_alike a_now_law a_now_tape a_now_side]) hD hS hA [0, 1] rfl
  have hM := c_X11_isHand l G h a_now a_kept a_reader a_flight a_latest a_now_edge a_now_bend a_now_rise a_now_wandering a_now_thrown a_now_alike a_now_law a_now_tape a_now_side x_isKept x_now_coins x_now_hands x_now_laws x_now_bytes x_now_sides l1 r1 hc2 H.size
  refine cl_i (w1 := [o11 h a_now a_kept x_isKept a_reader a_flight a_latest, o6 a_now x_now_coins x_now_hands x_now_laws x_now_bytes x_now_sides a_now_edge a_now_bend a_now_rise a_now_wandering a_now_thrown a_now_alike a_now_law a_now_tape a_now_side]) (ws' := [o11 h a_now a_kept x_isKept a_reader a_flight a_latest, o6 a_now x_now_coins x_now_hands x_now_laws x_now_bytes x_now_sides a_now_edge a_now_bend a_now_rise a_now_wandering a_now_thrown a_now_alike a_now_law a_now_tape a_now_side, aI G a_now_rise 6 f_now_rise, aI G a_now_thrown 36 f_now_thrown, aI G a_now_wandering 6 f_now_wandering]) hP hD hS hFc [0, 1] rfl rfl rfl (va_runV (As := [.int l1]) (rest := []) ⟨hx, hb, hml, hown, hts⟩ hM (cwV 1 hts gX11_learns_X11_isHand rfl rfl rfl (by decide +kernel) ⟨Nat.le_of_ble_eq_true rfl, Nat.le_of_ble_eq_true rfl⟩) (cp_V hK hE hS hPc hDc hFc (va_recv hK hPc (ci := 11) (q0 := 0) rfl rfl)) rfl rfl hl.1 rfl (lv_room (Nat.le_of_ble_eq_true rfl)) dX11_learns_2 ⟨Nat.zero_le _, Nat.zero_le _⟩) (fun H locs hP hD hS => ?_)
  refine lv_if_eq (tgt := 18) hx hb dX11_learns_5 (by decide) (fun c3 => ?_) (fun c3 => ?_)
  · rw [if_pos c3] at hF
    refine lv_iconst (v := (-1)) hx hb dX11_learns_18 (by decide) ?_
    injection hF with hz
    subst hz
    exact cm_reti hx hb hr rfl hlk hK hP hD hS dX11_learns_19
  rw [if_neg c3] at hF
  refine lv_iload hx hb dX11_learns_8 (lv_at hl 4 rfl) ?_
  refine lv_iconst (v := 0) hx hb dX11_learns_10 (by decide) ?_
  refine lv_iconst (v := 1) hx hb dX11_learns_11 (by decide) ?_
  obtain ⟨r4, hc5, hF⟩ := bd_some hF
  have hPc := hP.sub (ws' := []) [] rfl
  have hDc := hD.sub (ws' := []) [] (by decide) rfl
  have hFc := va_free (wc := []) hD hS hA [] rfl
  have hM := c_X11_isWithin l G l4 (0 : Int32) (1 : Int32) r4 hc5 H.size
  refine cl_i (w1 := []) (ws' := [o11 h a_now a_kept x_isKept a_reader a_flight a_latest, o6 a_now x_now_coins x_now_hands x_now_laws x_now_bytes x_now_sides a_now_edge a_now_bend a_now_rise a_now_wandering a_now_thrown a_now_alike a_now_law a_now_tape a_now_side, aI G a_now_rise 6 f_now_rise, aI G a_now_thrown 36 f_now_thrown, aI G a_now_wandering 6 f_now_wandering]) hP hD hS hFc [] rfl rfl rfl (va_runS (As := [.int l4, .int 0, .int 1]) (rest := []) ⟨hx, hb, hml, hown, hts⟩ hM (va_cwS 3 hts gX11_learns_X11_isWithin rfl rfl rfl (by decide +kernel) ⟨Nat.le_of_ble_eq_true rfl, Nat.le_of_ble_eq_true rfl⟩) (cp_S hK hE hS hPc hDc hFc) rfl rfl hl.1 rfl (lv_room (Nat.le_of_ble_eq_true rfl)) dX11_learns_12 ⟨Nat.zero_le _, Nat.zero_le _⟩) (fun H locs hP hD hS => ?_)
  refine lv_if_ne (tgt := 20) hx hb dX11_learns_15 (by decide) (fun c6 => ?_) (fun c6 => ?_)
  · rw [if_neg c6] at hF
    refine lv_iload_n hx hb dX11_learns_20 rfl (lv_at hl 2 rfl) ?_
    refine lv_iconst (v := 0) hx hb dX11_learns_21 (by decide) ?_
    refine lv_bipush (v := 9) hx hb dX11_learns_22 (by decide) ?_
    obtain ⟨r7, hc8, hF⟩ := bd_some hF
    have hPc := hP.sub (ws' := []) [] rfl
    have hDc := hD.sub (ws' := []) [] (by decide) rfl
    have hFc := va_free (wc := []) hD hS hA [] rfl
    have hM := c_X11_isWithin l G l2 (0 : Int32) (9 : Int32) r7 hc8 H.size
    refine cl_i (w1 := []) (ws' := [o11 h a_now a_kept x_isKept a_reader a_flight a_latest, o6 a_now x_now_coins x_now_hands x_now_laws x_now_bytes x_now_sides a_now_edge a_now_bend a_now_rise a_now_wandering a_now_thrown a_now_alike a_now_law a_now_tape a_now_side, aI G a_now_rise 6 f_now_rise, aI G a_now_thrown 36 f_now_thrown, aI G a_now_wandering 6 f_now_wandering]) hP hD hS hFc [] rfl rfl rfl (va_runS (As := [.int l2, .int 0, .int 9]) (rest := []) ⟨hx, hb, hml, hown, hts⟩ hM (va_cwS 3 hts gX11_learns_X11_isWithin rfl rfl rfl (by decide +kernel) ⟨Nat.le_of_ble_eq_true rfl, Nat.le_of_ble_eq_true rfl⟩) (cp_S hK hE hS hPc hDc hFc) rfl rfl hl.1 rfl (lv_room (Nat.le_of_ble_eq_true rfl)) dX11_learns_24 ⟨Nat.zero_le _, Nat.zero_le _⟩) (fun H locs hP hD hS => ?_)
    refine W.eq (g2 := F0 m 27 ls [.int r7]) rfl ?_
    refine lv_if_eq (tgt := 40) hx hb dX11_learns_27 (by decide) (fun c9 => ?_) (fun c9 => ?_)
    · rw [if_pos c9] at hF
      refine lv_bipush (v := (-2)) hx hb dX11_learns_40 (by decide) ?_
      injection hF with hz
      subst hz
      exact cm_reti hx hb hr rfl hlk hK hP hD hS dX11_learns_42
    rw [if_neg c9] at hF
    refine lv_iload_n hx hb dX11_learns_30 rfl (lv_at hl 3 rfl) ?_
    refine lv_iconst (v := 0) hx hb dX11_learns_31 (by decide) ?_
    refine lv_bipush (v := 9) hx hb dX11_learns_32 (by decide) ?_
    obtain ⟨r10, hc11, hF⟩ := bd_some hF
    have hPc := hP.sub (ws' := []) [] rfl
    have hDc := hD.sub (ws' := []) [] (by decide) rfl
    have hFc := va_free (wc := []) hD hS hA [] rfl
    have hM := c_X11_isWithin l G l3 (0 : Int32) (9 : Int32) r10 hc11 H.size
    refine cl_i (w1 := []) (ws' := [o11 h a_now a_kept x_isKept a_reader a_flight a_latest, o6 a_now x_now_coins x_now_hands x_now_laws x_now_bytes x_now_sides a_now_edge a_now_bend a_now_rise a_now_wandering a_now_thrown a_now_alike a_now_law a_now_tape a_now_side, aI G a_now_rise 6 f_now_rise, aI G a_now_thrown 36 f_now_thrown, aI G a_now_wandering 6 f_now_wandering]) hP hD hS hFc [] rfl rfl rfl (va_runS (As := [.int l3, .int 0, .int 9]) (rest := []) ⟨hx, hb, hml, hown, hts⟩ hM (va_cwS 3 hts gX11_learns_X11_isWithin rfl rfl rfl (by decide +kernel) ⟨Nat.le_of_ble_eq_true rfl, Nat.le_of_ble_eq_true rfl⟩) (cp_S hK hE hS hPc hDc hFc) rfl rfl hl.1 rfl (lv_room (Nat.le_of_ble_eq_true rfl)) dX11_learns_34 ⟨Nat.zero_le _, Nat.zero_le _⟩) (fun H locs hP hD hS => ?_)
    refine lv_if_ne (tgt := 43) hx hb dX11_learns_37 (by decide) (fun c12 => ?_) (fun c12 => ?_)
    · rw [if_neg c12] at hF
      refine lv_aload_n hx hb dX11_learns_43 rfl (lv_at hl 0 rfl) ?_
      refine va_get (D := G.1) (ci := 11) (v := .ref a_now) (C := RX11) (T := TX11) (N := 6) hx hb hts hin11 hown hK hP 0 rfl rfl 0 (by decide) lk_12 (fun _ h9 => h9) rfl dX11_learns_44 ?_
      refine lv_iload_n hx hb dX11_learns_47 rfl (lv_at hl 1 rfl) ?_
      obtain ⟨r13, hc14, hF⟩ := bd_some hF
      have hPc := hP.sub (ws' := [o6 a_now x_now_coins x_now_hands x_now_laws x_now_bytes x_now_sides a_now_edge a_now_bend a_now_rise a_now_wandering a_now_thrown a_now_alike a_now_law a_now_tape a_now_side, aI G a_now_thrown 36 f_now_thrown]) [1, 3] rfl
      have hDc := hD.sub (ws' := [o6 a_now x_now_coins x_now_hands x_now_laws x_now_bytes x_now_sides a_now_edge a_now_bend a_now_rise a_now_wandering a_now_thrown a_now_alike a_now_law a_now_tape a_now_side, aI G a_now_thrown 36 f_now_thrown]) [1, 3] (by decide) rfl
      have hFc := va_free (wc := [o6 a_now x_now_coins x_now_hands x_now_laws x_now_bytes x_now_sides a_now_edge a_now_bend a_now_rise a_now_wandering a_now_thrown a_now_alike a_now_law a_now_tape a_now_side, aI G a_now_thrown 36 f_now_thrown]) hD hS hA [1, 3] rfl
      have hM := c_X6_allThrown l G a_now a_now_edge a_now_bend a_now_rise a_now_wandering a_now_thrown a_now_alike a_now_law a_now_tape a_now_side x_now_coins x_now_hands x_now_laws x_now_bytes x_now_sides f_now_thrown l1 r13 hc14 H.size
      refine cl_i (w1 := [o6 a_now x_now_coins x_now_hands x_now_laws x_now_bytes x_now_sides a_now_edge a_now_bend a_now_rise a_now_wandering a_now_thrown a_now_alike a_now_law a_now_tape a_now_side, aI G a_now_thrown 36 f_now_thrown]) (ws' := [o11 h a_now a_kept x_isKept a_reader a_flight a_latest, o6 a_now x_now_coins x_now_hands x_now_laws x_now_bytes x_now_sides a_now_edge a_now_bend a_now_rise a_now_wandering a_now_thrown a_now_alike a_now_law a_now_tape a_now_side, aI G a_now_rise 6 f_now_rise, aI G a_now_thrown 36 f_now_thrown, aI G a_now_wandering 6 f_now_wandering]) hP hD hS hFc [1, 3] rfl rfl rfl (va_runVN (As := [.int l1]) (rest := []) ⟨hx, hb, hml, hown, hts⟩ hM ⟨va_cnB 1 hts gX11_learns_X6_allThrown_n74 rfl rfl rfl (hE.nw (.methodLinkNest RX11 74 yX6_allThrown "HeadsByHair") (by decide +kernel)) (hts (.initialized RX6) (by decide +kernel)) (by decide +kernel) ⟨Nat.le_of_ble_eq_true rfl, Nat.le_of_ble_eq_true rfl⟩, hts (.instanceMethod yX6_allThrown) (by decide +kernel), hts (.selects RX6 yX6_allThrown yX6_allThrown) (by decide +kernel)⟩ (cp_V hK hE hS hPc hDc hFc (va_recv hK hPc (ci := 6) (q0 := 0) rfl rfl)) rfl rfl hl.1 rfl (lv_room (Nat.le_of_ble_eq_true rfl)) dX11_learns_48 ⟨Nat.zero_le _, Nat.zero_le _⟩) (fun H locs hP hD hS => ?_)
      refine lv_bipush (v := 100) hx hb dX11_learns_51 (by decide) ?_
      refine lv_idiv hx hb dX11_learns_53 (by decide) ?_
      refine lv_istore (lv' := [(5, .int (r13 / 100)), (0, .ref h), (1, .int l1), (2, .int l2), (3, .int l3), (4, .int l4)]) hx hb dX11_learns_54 hl (by decide) rfl (fun ls hl => ?_)
      refine lv_iload hx hb dX11_learns_56 (lv_at hl 5 rfl) ?_
      refine W.eq (g2 := F0 m 58 ls [.int l4]) rfl ?_
      refine lv_if_ne (tgt := 81) hx hb dX11_learns_58 (by decide) (fun c15 => ?_) (fun c15 => ?_)
      · rw [if_neg c15] at hF
        refine lv_iconst (v := 0) hx hb dX11_learns_81 (by decide) ?_
        refine lv_aload_n hx hb dX11_learns_82 rfl (lv_at hl 1 rfl) ?_
        refine va_get (D := G.1) (ci := 11) (v := .ref a_now) (C := RX11) (T := TX11) (N := 6) hx hb hts hin11 hown hK hP 0 rfl rfl 0 (by decide) lk_12 (fun _ h9 => h9) rfl dX11_learns_83 ?_
        refine va_getN (D := G.1) (ci := 6) (v := .ref a_now_wandering) (C := RX6) (T := TX6) (N := 14) hx hb hts hin6 hown hK hP 1 rfl rfl 8 (by decide) lk_63 (fun _ h9 => h9) rfl dX11_learns_86 ?_
        refine lv_iload_n hx hb dX11_learns_89 rfl (lv_at hl 2 rfl) ?_
        obtain ⟨hi16, hF⟩ := ck_some hF
        refine va_iald (D := G.1) hx hb hK hP 4 0 rfl rfl hi16 dX11_learns_90 ?_
        refine lv_iload hx hb dX11_learns_91 (lv_at hl 0 rfl) ?_
        refine lv_iload_n hx hb dX11_learns_93 rfl (lv_at hl 4 rfl) ?_
        refine lv_imul hx hb dX11_learns_94 ?_
        refine lv_isub hx hb dX11_learns_95 ?_
        refine va_mmax hx hb (hml.trans hl.1.symm) hown lm_184 ms_max mi mc_max (Nat.le_of_ble_eq_true rfl) (Nat.le_of_ble_eq_true rfl) (Nat.zero_le _) (Nat.zero_le _) dX11_learns_96 ?_
        injection hF with hz
        subst hz
        exact cm_reti hx hb hr rfl hlk hK hP hD hS dX11_learns_99
      rw [if_pos c15] at hF
      refine lv_bipush (v := 30) hx hb dX11_learns_61 (by decide) ?_
      refine lv_aload_n hx hb dX11_learns_63 rfl (lv_at hl 1 rfl) ?_
      refine va_get (D := G.1) (ci := 11) (v := .ref a_now) (C := RX11) (T := TX11) (N := 6) hx hb hts hin11 hown hK hP 0 rfl rfl 0 (by decide) lk_12 (fun _ h9 => h9) rfl dX11_learns_64 ?_
      refine va_getN (D := G.1) (ci := 6) (v := .ref a_now_rise) (C := RX6) (T := TX6) (N := 14) hx hb hts hin6 hown hK hP 1 rfl rfl 7 (by decide) lk_60 (fun _ h9 => h9) rfl dX11_learns_67 ?_
      refine lv_iload_n hx hb dX11_learns_70 rfl (lv_at hl 2 rfl) ?_
      obtain ⟨hi17, hF⟩ := ck_some hF
      refine va_iald (D := G.1) hx hb hK hP 2 0 rfl rfl hi17 dX11_learns_71 ?_
      refine lv_iload hx hb dX11_learns_72 (lv_at hl 0 rfl) ?_
      refine lv_iload_n hx hb dX11_learns_74 rfl (lv_at hl 3 rfl) ?_
      refine lv_imul hx hb dX11_learns_75 ?_
      refine lv_iadd hx hb dX11_learns_76 ?_
      refine va_mmin hx hb (hml.trans hl.1.symm) hown lm_178 ms_min mi mc_min (Nat.le_of_ble_eq_true rfl) (Nat.le_of_ble_eq_true rfl) (Nat.zero_le _) (Nat.zero_le _) dX11_learns_77 ?_
      injection hF with hz
      subst hz
      exact cm_reti hx hb hr rfl hlk hK hP hD hS dX11_learns_80
    rw [if_pos c12] at hF
    refine lv_bipush (v := (-2)) hx hb dX11_learns_40 (by decide) ?_
    injection hF with hz
    subst hz
    exact cm_reti hx hb hr rfl hlk hK hP hD hS dX11_learns_42
  rw [if_pos c6] at hF
  refine lv_iconst (v := (-1)) hx hb dX11_learns_18 (by decide) ?_
  injection hF with hz
  subst hz
  exact cm_reti hx hb hr rfl hlk hK hP hD hS dX11_learns_19

/-! HeadsByHair.trace(I)I -/
abbrev rm_X11_trace : Room := { frames := 1, cells := 0, slots := 0, locals := 24 }
set_option maxHeartbeats 4000000 in
set_option maxRecDepth 100000 in
theorem c_X11_trace (l : Launch) (G : GG) (h a_now a_kept a_reader a_flight a_latest a_latest_body : Nat) (x_isKept x_latest_ran : Int32) (f_latest_body : Nat → Int32) (l1 : Int32) (z : Int32) (hF : fX11_trace x_latest_ran f_latest_body l1 = some (z)) : CMi l yX11_trace wsX11_trace rm_X11_trace G [o11 h a_now a_kept x_isKept a_reader a_flight a_latest, o8 a_latest a_latest_body x_latest_ran, aI G a_latest_body 20 f_latest_body] [o11 h a_now a_kept x_isKept a_reader a_flight a_latest, o8 a_latest a_latest_body x_latest_ran, aI G a_latest_body 20 f_latest_body] [.ref h, .int l1] z := by
  refine cm_start (cc := cX11_trace) (maxL := 2) (ret := (some .int)) (Qc := fun A => QI G [o11 h a_now a_kept x_isKept a_reader a_flight a_latest, o8 a_latest a_latest_body x_latest_ran, aI G a_latest_body 20 f_latest_body] z A) (by decide +kernel) rfl (Nat.le_of_ble_eq_true rfl) ?_
  intro p e s m args below meth c A hx hb hr hlk hml hown hnm hts hA H locs hP hK hD hE hS ls hl
  have hown : s.vm.findClass RX11 = some m.cls := hown
  have hl : lv_has ls 2 [(0, .ref h), (1, .int l1)] := hl
  have hin11 : ∀ w ∈ wsX110, w ∈ wsX11_trace := by decide +kernel
  have hin8 : ∀ w ∈ wsX80, w ∈ wsX11_trace := by decide +kernel
  have lk_38 := hts (.fieldLink RX11 38 "HeadsByHair" "latest" "LHeadsByHair$Trace;") (by decide +kernel)
  have lk_220 := va_Nw.use (A := args) rfl (hE.nw (.fieldLinkNest "HeadsByHair" 220 "HeadsByHair$Trace" "ran" "I" "HeadsByHair") (by decide +kernel))
  have lm_178 := hts (.methodLink RX11 178 Lib.Math.min.name) (by decide +kernel)
  have ms_min := hts (.static Lib.Math.min.name) (by decide +kernel)
  have mi := hts (.initialized "java/lang/Math") (by decide +kernel)
  have mc_min := hts (.code Lib.Math.min.name Lib.Math.min.code 2 (some .int)) (by decide +kernel)
  have lk_233 := va_Nw.use (A := args) rfl (hE.nw (.fieldLinkNest "HeadsByHair" 233 "HeadsByHair$Trace" "body" "[I" "HeadsByHair") (by decide +kernel))
  revert hF
  intro hF
  unfold fX11_trace at hF
  refine lv_iload_n hx hb dX11_trace_0 rfl (lv_at hl 1 rfl) ?_
  refine lv_iconst (v := 0) hx hb dX11_trace_1 (by decide) ?_
  refine lv_aload_n hx hb dX11_trace_2 rfl (lv_at hl 0 rfl) ?_
  refine va_get (D := G.1) (ci := 11) (v := .ref a_latest) (C := RX11) (T := TX11) (N := 6) hx hb hts hin11 hown hK hP 0 rfl rfl 5 (by decide) lk_38 (fun _ h9 => h9) rfl dX11_trace_3 ?_
  refine va_getN (D := G.1) (ci := 8) (v := .int x_latest_ran) (C := RX8) (T := TX8) (N := 2) hx hb hts hin8 hown hK hP 1 rfl rfl 1 (by decide) lk_220 (fun _ h9 => h9) rfl dX11_trace_6 ?_
  refine lv_bipush (v := 20) hx hb dX11_trace_9 (by decide) ?_
  refine va_mmin hx hb (hml.trans hl.1.symm) hown lm_178 ms_min mi mc_min (Nat.le_of_ble_eq_true rfl) (Nat.le_of_ble_eq_true rfl) (Nat.zero_le _) (Nat.zero_le _) dX11_trace_11 ?_
  refine lv_iconst (v := 1) hx hb dX11_trace_14 (by decide) ?_
  refine lv_isub hx hb dX11_trace_15 ?_
  obtain ⟨r1, hc2, hF⟩ := bd_some hF
  have hPc := hP.sub (ws' := []) [] rfl
  have hDc := hD.sub (ws' := []) [] (by decide) rfl
  have hFc := va_free (wc := []) hD hS hA [] rfl
  have hM := c_X11_isWithin l G l1 (0 : Int32) ((if 20 < x_latest_ran then 20 else x_latest_ran) - 1) r1 hc2 H.size
  refine cl_i (w1 := []) (ws' := [o11 h a_now a_kept x_isKept a_reader a_flight a_latest, o8 a_latest a_latest_body x_latest_ran, aI G a_latest_body 20 f_latest_body]) hP hD hS hFc [] rfl rfl rfl (va_runS (As := [.int l1, .int 0, .int ((if 20 < x_latest_ran then 20 else x_latest_ran) - 1)]) (rest := []) ⟨hx, hb, hml, hown, hts⟩ hM (va_cwS 3 hts gX11_trace_X11_isWithin rfl rfl rfl (by decide +kernel) ⟨Nat.le_of_ble_eq_true rfl, Nat.le_of_ble_eq_true rfl⟩) (cp_S hK hE hS hPc hDc hFc) rfl rfl hl.1 rfl (lv_room (Nat.le_of_ble_eq_true rfl)) dX11_trace_16 ⟨Nat.zero_le _, Nat.zero_le _⟩) (fun H locs hP hD hS => ?_)
  refine lv_if_ne (tgt := 24) hx hb dX11_trace_19 (by decide) (fun c3 => ?_) (fun c3 => ?_)
  · rw [if_neg c3] at hF
    refine lv_aload_n hx hb dX11_trace_24 rfl (lv_at hl 0 rfl) ?_
    refine va_get (D := G.1) (ci := 11) (v := .ref a_latest) (C := RX11) (T := TX11) (N := 6) hx hb hts hin11 hown hK hP 0 rfl rfl 5 (by decide) lk_38 (fun _ h9 => h9) rfl dX11_trace_25 ?_
    refine W.eq (g2 := F0 m 28 ls [.ref a_latest]) rfl ?_
    refine va_getN (D := G.1) (ci := 8) (v := .ref a_latest_body) (C := RX8) (T := TX8) (N := 2) hx hb hts hin8 hown hK hP 1 rfl rfl 0 (by decide) lk_233 (fun _ h9 => h9) rfl dX11_trace_28 ?_
    refine lv_iload_n hx hb dX11_trace_31 rfl (lv_at hl 1 rfl) ?_
    obtain ⟨hi4, hF⟩ := ck_some hF
    refine va_iald (D := G.1) hx hb hK hP 2 0 rfl rfl hi4 dX11_trace_32 ?_
    injection hF with hz
    subst hz
    exact cm_reti hx hb hr rfl hlk hK hP hD hS dX11_trace_33
  rw [if_pos c3] at hF
  refine lv_iconst (v := (-1)) hx hb dX11_trace_22 (by decide) ?_
  injection hF with hz
  subst hz
  exact cm_reti hx hb hr rfl hlk hK hP hD hS dX11_trace_23

/-! HeadsByHair.count(I)I -/
abbrev rm_X11_count : Room := { frames := 0, cells := 0, slots := 0, locals := 0 }
set_option maxHeartbeats 4000000 in
set_option maxRecDepth 100000 in
theorem c_X11_count (l : Launch) (G : GG) (h a_now a_kept a_reader a_flight a_latest a_latest_body a_now_edge a_now_bend a_now_rise a_now_wandering a_now_thrown a_now_alike a_now_law a_now_tape a_now_side : Nat) (x_isKept x_latest_ran x_now_coins x_now_hands x_now_laws x_now_bytes x_now_sides : Int32) (l1 : Int32) (z : Int32) (hF : fX11_count x_latest_ran x_now_coins x_now_hands x_now_laws x_now_bytes x_now_sides l1 = some (z)) : CMi l yX11_count wsX11_count rm_X11_count G [o11 h a_now a_kept x_isKept a_reader a_flight a_latest, o8 a_latest a_latest_body x_latest_ran, o6 a_now x_now_coins x_now_hands x_now_laws x_now_bytes x_now_sides a_now_edge a_now_bend a_now_rise a_now_wandering a_now_thrown a_now_alike a_now_law a_now_tape a_now_side] [o11 h a_now a_kept x_isKept a_reader a_flight a_latest, o8 a_latest a_latest_body x_latest_ran, o6 a_now x_now_coins x_now_hands x_now_laws x_now_bytes x_now_sides a_now_edge a_now_bend a_now_rise a_now_wandering a_now_thrown a_now_alike a_now_law a_now_tape a_now_side] [.ref h, .int l1] z := by
  refine cm_start (cc := cX11_count) (maxL := 2) (ret := (some .int)) (Qc := fun A => QI G [o11 h a_now a_kept x_isKept a_reader a_flight a_latest, o8 a_latest a_latest_body x_latest_ran, o6 a_now x_now_coins x_now_hands x_now_laws x_now_bytes x_now_sides a_now_edge a_now_bend a_now_rise a_now_wandering a_now_thrown a_now_alike a_now_law a_now_tape a_now_side] z A) (by decide +kernel) rfl (Nat.le_of_ble_eq_true rfl) ?_
  intro p e s m args below meth c A hx hb hr hlk hml hown hnm hts hA H locs hP hK hD hE hS ls hl
  have hown : s.vm.findClass RX11 = some m.cls := hown
  have hl : lv_has ls 2 [(0, .ref h), (1, .int l1)] := hl
  have hin11 : ∀ w ∈ wsX110, w ∈ wsX11_count := by decide +kernel
  have hin6 : ∀ w ∈ wsX60, w ∈ wsX11_count := by decide +kernel
  have hin8 : ∀ w ∈ wsX80, w ∈ wsX11_count := by decide +kernel
  have lk_12 := hts (.fieldLink RX11 12 "HeadsByHair" "now" "LHeadsByHair$Stock;") (by decide +kernel)
  have lk_46 := va_Nw.use (A := args) rfl (hE.nw (.fieldLinkNest "HeadsByHair" 46 "HeadsByHair$Stock" "coins" "I" "HeadsByHair") (by decide +kernel))
  have lk_57 := va_Nw.use (A := args) rfl (hE.nw (.fieldLinkNest "HeadsByHair" 57 "HeadsByHair$Stock" "hands" "I" "HeadsByHair") (by decide +kernel))
  have lk_95 := va_Nw.use (A := args) rfl (hE.nw (.fieldLinkNest "HeadsByHair" 95 "HeadsByHair$Stock" "laws" "I" "HeadsByHair") (by decide +kernel))
  have lk_202 := va_Nw.use (A := args) rfl (hE.nw (.fieldLinkNest "HeadsByHair" 202 "HeadsByHair$Stock" "sides" "I" "HeadsByHair") (by decide +kernel))
  have lk_89 := va_Nw.use (A := args) rfl (hE.nw (.fieldLinkNest "HeadsByHair" 89 "HeadsByHair$Stock" "bytes" "I" "HeadsByHair") (by decide +kernel))
  have lk_38 := hts (.fieldLink RX11 38 "HeadsByHair" "latest" "LHeadsByHair$Trace;") (by decide +kernel)
  have lk_220 := va_Nw.use (A := args) rfl (hE.nw (.fieldLinkNest "HeadsByHair" 220 "HeadsByHair$Trace" "ran" "I" "HeadsByHair") (by decide +kernel))
  revert hF
  intro hF
  unfold fX11_count at hF
  refine lv_iload_n hx hb dX11_count_0 rfl (lv_at hl 1 rfl) ?_
  by_cases c1 : l1 = 0
  · rw [if_pos c1] at hF
    refine lv_eqi c1 ?_
    refine lv_tableIn (tgt := 40) (off := 39) hx hb dX11_count_1 (by decide) (by decide) (by decide) (by decide) ?_
    refine lv_aload_n hx hb dX11_count_40 rfl (lv_at hl 0 rfl) ?_
    refine va_get (D := G.1) (ci := 11) (v := .ref a_now) (C := RX11) (T := TX11) (N := 6) hx hb hts hin11 hown hK hP 0 rfl rfl 0 (by decide) lk_12 (fun _ h9 => h9) rfl dX11_count_41 ?_
    refine va_getN (D := G.1) (ci := 6) (v := .int x_now_coins) (C := RX6) (T := TX6) (N := 14) hx hb hts hin6 hown hK hP 2 rfl rfl 0 (by decide) lk_46 (fun _ h9 => h9) rfl dX11_count_44 ?_
    injection hF with hz
    subst hz
    exact cm_reti hx hb hr rfl hlk hK hP hD hS dX11_count_47
  rw [if_neg c1] at hF
  by_cases c2 : l1 = 1
  · rw [if_pos c2] at hF
    refine lv_eqi c2 ?_
    refine lv_tableIn (tgt := 48) (off := 47) hx hb dX11_count_1 (by decide) (by decide) (by decide) (by decide) ?_
    refine lv_aload_n hx hb dX11_count_48 rfl (lv_at hl 0 rfl) ?_
    refine va_get (D := G.1) (ci := 11) (v := .ref a_now) (C := RX11) (T := TX11) (N := 6) hx hb hts hin11 hown hK hP 0 rfl rfl 0 (by decide) lk_12 (fun _ h9 => h9) rfl dX11_count_49 ?_
    refine va_getN (D := G.1) (ci := 6) (v := .int x_now_hands) (C := RX6) (T := TX6) (N := 14) hx hb hts hin6 hown hK hP 2 rfl rfl 1 (by decide) lk_57 (fun _ h9 => h9) rfl dX11_count_52 ?_
    injection hF with hz
    subst hz
    exact cm_reti hx hb hr rfl hlk hK hP hD hS dX11_count_55
  rw [if_neg c2] at hF
  by_cases c3 : l1 = 2
  · rw [if_pos c3] at hF
    refine lv_eqi c3 ?_
    refine lv_tableIn (tgt := 56) (off := 55) hx hb dX11_count_1 (by decide) (by decide) (by decide) (by decide) ?_
    refine lv_aload_n hx hb dX11_count_56 rfl (lv_at hl 0 rfl) ?_
    refine va_get (D := G.1) (ci := 11) (v := .ref a_now) (C := RX11) (T := TX11) (N := 6) hx hb hts hin11 hown hK hP 0 rfl rfl 0 (by decide) lk_12 (fun _ h9 => h9) rfl dX11_count_57 ?_
    refine va_getN (D := G.1) (ci := 6) (v := .int x_now_laws) (C := RX6) (T := TX6) (N := 14) hx hb hts hin6 hown hK hP 2 rfl rfl 2 (by decide) lk_95 (fun _ h9 => h9) rfl dX11_count_60 ?_
    injection hF with hz
    subst hz
    exact cm_reti hx hb hr rfl hlk hK hP hD hS dX11_count_63
  rw [if_neg c3] at hF
  by_cases c4 : l1 = 3
  · rw [if_pos c4] at hF
    refine lv_eqi c4 ?_
    refine lv_tableIn (tgt := 64) (off := 63) hx hb dX11_count_1 (by decide) (by decide) (by decide) (by decide) ?_
    refine lv_aload_n hx hb dX11_count_64 rfl (lv_at hl 0 rfl) ?_
    refine va_get (D := G.1) (ci := 11) (v := .ref a_now) (C := RX11) (T := TX11) (N := 6) hx hb hts hin11 hown hK hP 0 rfl rfl 0 (by decide) lk_12 (fun _ h9 => h9) rfl dX11_count_65 ?_
    refine va_getN (D := G.1) (ci := 6) (v := .int x_now_sides) (C := RX6) (T := TX6) (N := 14) hx hb hts hin6 hown hK hP 2 rfl rfl 4 (by decide) lk_202 (fun _ h9 => h9) rfl dX11_count_68 ?_
    injection hF with hz
    subst hz
    exact cm_reti hx hb hr rfl hlk hK hP hD hS dX11_count_71
  rw [if_neg c4] at hF
  by_cases c5 : l1 = 4
  · rw [if_pos c5] at hF
    refine lv_eqi c5 ?_
    refine lv_tableIn (tgt := 72) (off := 71) hx hb dX11_count_1 (by decide) (by decide) (by decide) (by decide) ?_
    refine lv_aload_n hx hb dX11_count_72 rfl (lv_at hl 0 rfl) ?_
    refine va_get (D := G.1) (ci := 11) (v := .ref a_now) (C := RX11) (T := TX11) (N := 6) hx hb hts hin11 hown hK hP 0 rfl rfl 0 (by decide) lk_12 (fun _ h9 => h9) rfl dX11_count_73 ?_
    refine va_getN (D := G.1) (ci := 6) (v := .int x_now_bytes) (C := RX6) (T := TX6) (N := 14) hx hb hts hin6 hown hK hP 2 rfl rfl 3 (by decide) lk_89 (fun _ h9 => h9) rfl dX11_count_76 ?_
    injection hF with hz
    subst hz
    exact cm_reti hx hb hr rfl hlk hK hP hD hS dX11_count_79
  rw [if_neg c5] at hF
  by_cases c6 : l1 = 5
  · rw [if_pos c6] at hF
    refine lv_eqi c6 ?_
    refine lv_tableIn (tgt := 80) (off := 79) hx hb dX11_count_1 (by decide) (by decide) (by decide) (by decide) ?_
    refine lv_aload_n hx hb dX11_count_80 rfl (lv_at hl 0 rfl) ?_
    refine va_get (D := G.1) (ci := 11) (v := .ref a_latest) (C := RX11) (T := TX11) (N := 6) hx hb hts hin11 hown hK hP 0 rfl rfl 5 (by decide) lk_38 (fun _ h9 => h9) rfl dX11_count_81 ?_
    refine va_getN (D := G.1) (ci := 8) (v := .int x_latest_ran) (C := RX8) (T := TX8) (N := 2) hx hb hts hin8 hown hK hP 1 rfl rfl 1 (by decide) lk_220 (fun _ h9 => h9) rfl dX11_count_84 ?_
    injection hF with hz
    subst hz
    exact cm_reti hx hb hr rfl hlk hK hP hD hS dX11_count_87
  rw [if_neg c6] at hF
  refine lv_tableOut (tgt := 88) hx hb dX11_count_1 (by have a0 := lv_neT (k := 0) (a := 0) c1 (by decide); have a1 := lv_neT (k := 1) (a := 1) c2 (by decide); have a2 := lv_neT (k := 2) (a := 2) c3 (by decide); have a3 := lv_neT (k := 3) (a := 3) c4 (by decide); have a4 := lv_neT (k := 4) (a := 4) c5 (by decide); have a5 := lv_neT (k := 5) (a := 5) c6 (by decide); omega) (by decide) ?_
  refine lv_iconst (v := (-1)) hx hb dX11_count_88 (by decide) ?_
  injection hF with hz
  subst hz
  exact cm_reti hx hb hr rfl hlk hK hP hD hS dX11_count_89
