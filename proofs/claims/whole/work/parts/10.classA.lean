/-! HeadsByHair.isWithin(III)Z -/
abbrev rm_X11_isWithin : Room := { frames := 0, cells := 0, slots := 0, locals := 0 }
set_option maxHeartbeats 4000000 in
set_option maxRecDepth 100000 in
theorem c_X11_isWithin (l : Launch) (G : GG) (l0 : Int32) (l1 : Int32) (l2 : Int32) (z : Int32) (hF : fX11_isWithin l0 l1 l2 = some (z)) : CMi l yX11_isWithin wsX11_isWithin rm_X11_isWithin G [] [] [.int l0, .int l1, .int l2] z := by
  refine cm_start (cc := cX11_isWithin) (maxL := 3) (ret := (some .boolean)) (Qc := fun A => QI G [] z A) (by decide +kernel) rfl (Nat.le_of_ble_eq_true rfl) ?_
  intro p e s m args below meth c A hx hb hr hlk hml hown hnm hts hA H locs hP hK hD hE hS ls hl
  have hown : s.vm.findClass RX11 = some m.cls := hown
  have hl : lv_has ls 3 [(0, .int l0), (1, .int l1), (2, .int l2)] := hl
  revert hF
  intro hF
  unfold fX11_isWithin at hF
  refine lv_iload_n hx hb dX11_isWithin_0 rfl (lv_at hl 0 rfl) ?_
  refine lv_iload_n hx hb dX11_isWithin_1 rfl (lv_at hl 1 rfl) ?_
  refine lv_icmp_lt (tgt := 14) hx hb dX11_isWithin_2 (by decide) (fun c1 => ?_) (fun c1 => ?_)
  · rw [if_pos c1] at hF
    refine lv_iconst (v := 0) hx hb dX11_isWithin_14 (by decide) ?_
    injection hF with hz
    subst hz
    exact cm_reti hx hb hr (by decide) hlk hK hP hD hS dX11_isWithin_15
  rw [if_neg c1] at hF
  refine lv_iload_n hx hb dX11_isWithin_5 rfl (lv_at hl 0 rfl) ?_
  refine lv_iload_n hx hb dX11_isWithin_6 rfl (lv_at hl 2 rfl) ?_
  refine lv_icmp_gt (tgt := 14) hx hb dX11_isWithin_7 (by decide) (fun c2 => ?_) (fun c2 => ?_)
  · rw [if_pos c2] at hF
    refine lv_iconst (v := 0) hx hb dX11_isWithin_14 (by decide) ?_
    injection hF with hz
    subst hz
    exact cm_reti hx hb hr (by decide) hlk hK hP hD hS dX11_isWithin_15
  rw [if_neg c2] at hF
  refine lv_iconst (v := 1) hx hb dX11_isWithin_10 (by decide) ?_
  refine lv_goto (tgt := 15) hx hb dX11_isWithin_11 (by decide) ?_
  injection hF with hz
  subst hz
  exact cm_reti hx hb hr (by decide) hlk hK hP hD hS dX11_isWithin_15

/-! HeadsByHair.isPercent(I)Z -/
abbrev rm_X11_isPercent : Room := { frames := 1, cells := 0, slots := 0, locals := 22 }
set_option maxHeartbeats 4000000 in
set_option maxRecDepth 100000 in
theorem c_X11_isPercent (l : Launch) (G : GG) (l0 : Int32) (z : Int32) (hF : fX11_isPercent l0 = some (z)) : CMi l yX11_isPercent wsX11_isPercent rm_X11_isPercent G [] [] [.int l0] z := by
  refine cm_start (cc := cX11_isPercent) (maxL := 1) (ret := (some .boolean)) (Qc := fun A => QI G [] z A) (by decide +kernel) rfl (Nat.le_of_ble_eq_true rfl) ?_
  intro p e s m args below meth c A hx hb hr hlk hml hown hnm hts hA H locs hP hK hD hE hS ls hl
  have hown : s.vm.findClass RX11 = some m.cls := hown
  have hl : lv_has ls 1 [(0, .int l0)] := hl
  revert hF
  intro hF
  unfold fX11_isPercent at hF
  refine lv_iload_n hx hb dX11_isPercent_0 rfl (lv_at hl 0 rfl) ?_
  refine lv_iconst (v := 0) hx hb dX11_isPercent_1 (by decide) ?_
  refine lv_bipush (v := 100) hx hb dX11_isPercent_2 (by decide) ?_
  obtain ⟨r1, hc2, hF⟩ := bd_some hF
  have hPc := hP.sub (ws' := []) [] rfl
  have hDc := hD.sub (ws' := []) [] (by decide) rfl
  have hFc := va_free (wc := []) hD hS hA [] rfl
  have hM := c_X11_isWithin l G l0 (0 : Int32) (100 : Int32) r1 hc2 H.size
  refine cl_i (w1 := []) (ws' := []) hP hD hS hFc [] rfl rfl rfl (va_runS (As := [.int l0, .int 0, .int 100]) (rest := []) ⟨hx, hb, hml, hown, hts⟩ hM (va_cwS 3 hts gX11_isPercent_X11_isWithin rfl rfl rfl (by decide +kernel) ⟨Nat.le_of_ble_eq_true rfl, Nat.le_of_ble_eq_true rfl⟩) (cp_S hK hE hS hPc hDc hFc) rfl rfl hl.1 rfl (lv_room (Nat.le_of_ble_eq_true rfl)) dX11_isPercent_4 ⟨Nat.zero_le _, Nat.zero_le _⟩) (fun H locs hP hD hS => ?_)
  obtain ⟨hb3, hF⟩ := ck_some hF
  injection hF with hz
  subst hz
  exact cm_reti hx hb hr (nb_ok hb3).1 hlk hK hP hD hS dX11_isPercent_7

/-! HeadsByHair.isPart(I)Z -/
abbrev rm_X11_isPart : Room := { frames := 1, cells := 0, slots := 0, locals := 22 }
set_option maxHeartbeats 4000000 in
set_option maxRecDepth 100000 in
theorem c_X11_isPart (l : Launch) (G : GG) (l0 : Int32) (z : Int32) (hF : fX11_isPart l0 = some (z)) : CMi l yX11_isPart wsX11_isPart rm_X11_isPart G [] [] [.int l0] z := by
  refine cm_start (cc := cX11_isPart) (maxL := 1) (ret := (some .boolean)) (Qc := fun A => QI G [] z A) (by decide +kernel) rfl (Nat.le_of_ble_eq_true rfl) ?_
  intro p e s m args below meth c A hx hb hr hlk hml hown hnm hts hA H locs hP hK hD hE hS ls hl
  have hown : s.vm.findClass RX11 = some m.cls := hown
  have hl : lv_has ls 1 [(0, .int l0)] := hl
  revert hF
  intro hF
  unfold fX11_isPart at hF
  refine lv_iload_n hx hb dX11_isPart_0 rfl (lv_at hl 0 rfl) ?_
  refine lv_iconst (v := 0) hx hb dX11_isPart_1 (by decide) ?_
  refine lv_iconst (v := 1) hx hb dX11_isPart_2 (by decide) ?_
  obtain ⟨r1, hc2, hF⟩ := bd_some hF
  have hPc := hP.sub (ws' := []) [] rfl
  have hDc := hD.sub (ws' := []) [] (by decide) rfl
  have hFc := va_free (wc := []) hD hS hA [] rfl
  have hM := c_X11_isWithin l G l0 (0 : Int32) (1 : Int32) r1 hc2 H.size
  refine cl_i (w1 := []) (ws' := []) hP hD hS hFc [] rfl rfl rfl (va_runS (As := [.int l0, .int 0, .int 1]) (rest := []) ⟨hx, hb, hml, hown, hts⟩ hM (va_cwS 3 hts gX11_isPart_X11_isWithin rfl rfl rfl (by decide +kernel) ⟨Nat.le_of_ble_eq_true rfl, Nat.le_of_ble_eq_true rfl⟩) (cp_S hK hE hS hPc hDc hFc) rfl rfl hl.1 rfl (lv_room (Nat.le_of_ble_eq_true rfl)) dX11_isPart_3 ⟨Nat.zero_le _, Nat.zero_le _⟩) (fun H locs hP hD hS => ?_)
  obtain ⟨hb3, hF⟩ := ck_some hF
  injection hF with hz
  subst hz
  exact cm_reti hx hb hr (nb_ok hb3).1 hlk hK hP hD hS dX11_isPart_6
/-! HeadsByHair$Stock.sumOf([II)I -/
abbrev rm_X6_sumOf : Room := { frames := 0, cells := 0, slots := 0, locals := 0 }
set_option maxHeartbeats 4000000 in
set_option maxRecDepth 100000 in
theorem c_X6_sumOf (l : Launch) (G : GG) (h a_edge a_bend a_rise a_wandering a_thrown a_alike a_law a_tape a_side a_p1 : Nat) (x_coins x_hands x_laws x_bytes x_sides : Int32) (f_p1 : Nat → Int32) (n_p1 : Nat) (l2 : Int32) (z : Int32) (hF : fX6_sumOf n_p1 x_coins f_p1 l2 = some (z)) : CMi l yX6_sumOf wsX6_sumOf rm_X6_sumOf G [o6 h x_coins x_hands x_laws x_bytes x_sides a_edge a_bend a_rise a_wandering a_thrown a_alike a_law a_tape a_side, aI G a_p1 n_p1 f_p1] [o6 h x_coins x_hands x_laws x_bytes x_sides a_edge a_bend a_rise a_wandering a_thrown a_alike a_law a_tape a_side, aI G a_p1 n_p1 f_p1] [.ref h, .ref a_p1, .int l2] z := by
  refine cm_start (cc := cX6_sumOf) (maxL := 5) (ret := (some .int)) (Qc := fun A => QI G [o6 h x_coins x_hands x_laws x_bytes x_sides a_edge a_bend a_rise a_wandering a_thrown a_alike a_law a_tape a_side, aI G a_p1 n_p1 f_p1] z A) (by decide +kernel) rfl (Nat.le_of_ble_eq_true rfl) ?_
  intro p e s m args below meth c A hx hb hr hlk hml hown hnm hts hA H locs hP hK hD hE hS ls hl
  have hown : s.vm.findClass RX6 = some m.cls := hown
  have hl : lv_has ls 5 [(0, .ref h), (1, .ref a_p1), (2, .int l2)] := hl
  have hin6 : ∀ w ∈ wsX60, w ∈ wsX6_sumOf := by decide +kernel
  have lk_46 := hts (.fieldLink RX6 46 "HeadsByHair$Stock" "coins" "I") (by decide +kernel)
  revert hF
  have LP5 : ∀ (l2 : Int32) (n : Nat) (l3 : Int32) (l4 : Int32) (H : Heap) (locs : List Loc) (ls : Array Slot), va_P G.1 vwCl [o6 h x_coins x_hands x_laws x_bytes x_sides a_edge a_bend a_rise a_wandering a_thrown a_alike a_law a_tape a_side, aI G a_p1 n_p1 f_p1] H → va_D A [o6 h x_coins x_hands x_laws x_bytes x_sides a_edge a_bend a_rise a_wandering a_thrown a_alike a_law a_tape a_side, aI G a_p1 n_p1 f_p1] → va_S A s.heap H locs → lv_has ls 5 [(0, .ref h), (1, .ref a_p1), (2, .int l2), (3, .int l3), (4, .int l4)] → fX6_sumOf_L5 n_p1 x_coins f_p1 l2 n l3 l4 = some (z) → W p l e (rm_X6_sumOf) s m args below meth c H locs 0 0 (MQ below (QI G [o6 h x_coins x_hands x_laws x_bytes x_sides a_edge a_bend a_rise a_wandering a_thrown a_alike a_law a_tape a_side, aI G a_p1 n_p1 f_p1] z A) args s 0 0 A) (F0 m 5 ls []) := by
    intro l2 n
    induction n with
    | zero =>
      intro l3 l4 H locs ls hP hD hS hl hF
      cases hF
    | succ n ih =>
      intro l3 l4 H locs ls hP hD hS hl hF
      rw [fX6_sumOf_L5] at hF
      refine lv_iload hx hb dX6_sumOf_5 (lv_at hl 4 rfl) ?_
      refine lv_aload_n hx hb dX6_sumOf_7 rfl (lv_at hl 0 rfl) ?_
      refine va_get (D := G.1) (ci := 6) (v := .int x_coins) (C := RX6) (T := TX6) (N := 14) hx hb hts hin6 hown hK hP 0 rfl rfl 0 (by decide) lk_46 (fun _ h9 => h9) rfl dX6_sumOf_8 ?_
      refine lv_icmp_ge (tgt := 32) hx hb dX6_sumOf_11 (by decide) (fun c1 => ?_) (fun c1 => ?_)
      · rw [if_pos c1] at hF
        refine lv_iload_n hx hb dX6_sumOf_32 rfl (lv_at hl 3 rfl) ?_
        injection hF with hz
        subst hz
        exact cm_reti hx hb hr rfl hlk hK hP hD hS dX6_sumOf_33
      rw [if_neg c1] at hF
      refine lv_iload_n hx hb dX6_sumOf_14 rfl (lv_at hl 3 rfl) ?_
      refine lv_aload_n hx hb dX6_sumOf_15 rfl (lv_at hl 1 rfl) ?_
      refine lv_iload_n hx hb dX6_sumOf_16 rfl (lv_at hl 2 rfl) ?_
      refine lv_bipush (v := 6) hx hb dX6_sumOf_17 (by decide) ?_
      refine lv_imul hx hb dX6_sumOf_19 ?_
      refine lv_iload hx hb dX6_sumOf_20 (lv_at hl 4 rfl) ?_
      refine lv_iadd hx hb dX6_sumOf_22 ?_
      obtain ⟨hi2, hF⟩ := ck_some hF
      refine va_iald (D := G.1) hx hb hK hP 1 0 rfl rfl hi2 dX6_sumOf_23 ?_
      refine lv_iadd hx hb dX6_sumOf_24 ?_
      refine W.eq (g2 := F0 m 25 ls [.int (l3 + (f_p1 ((l2 * 6) + l4).toNatClampNeg))]) rfl ?_
      refine lv_istore_n (lv' := [(3, .int (l3 + (f_p1 ((l2 * 6) + l4).toNatClampNeg))), (0, .ref h), (1, .ref a_p1), (2, .int l2), (4, .int l4)]) hx hb dX6_sumOf_25 rfl hl (by decide) rfl (fun ls hl => ?_)
      refine lv_iinc (v := l4 + 1) (lv' := [(4, .int (l4 + 1)), (3, .int (l3 + (f_p1 ((l2 * 6) + l4).toNatClampNeg))), (0, .ref h), (1, .ref a_p1), (2, .int l2)]) hx hb dX6_sumOf_26 hl (k := 4) rfl rfl (by decide) rfl (fun ls hl => ?_)
      refine lv_goto (tgt := 5) hx hb dX6_sumOf_29 (by decide) ?_
      exact ih _ _ H locs ls hP hD hS (lv_sub hl [2, 3, 4, 1, 0] rfl) hF
  intro hF
  unfold fX6_sumOf at hF
  refine lv_iconst (v := 0) hx hb dX6_sumOf_0 (by decide) ?_
  refine lv_istore_n (lv' := [(3, .int 0), (0, .ref h), (1, .ref a_p1), (2, .int l2)]) hx hb dX6_sumOf_1 rfl hl (by decide) rfl (fun ls hl => ?_)
  refine lv_iconst (v := 0) hx hb dX6_sumOf_2 (by decide) ?_
  refine lv_istore (lv' := [(4, .int 0), (3, .int 0), (0, .ref h), (1, .ref a_p1), (2, .int l2)]) hx hb dX6_sumOf_3 hl (by decide) rfl (fun ls hl => ?_)
  refine LP5 _ _ _ _ H locs ls hP hD hS (lv_sub hl [2, 3, 4, 1, 0] rfl) hF

/-! HeadsByHair$Stock.allThrown(I)I -/
abbrev rm_X6_allThrown : Room := { frames := 1, cells := 0, slots := 0, locals := 24 }
set_option maxHeartbeats 4000000 in
set_option maxRecDepth 100000 in
theorem c_X6_allThrown (l : Launch) (G : GG) (h a_edge a_bend a_rise a_wandering a_thrown a_alike a_law a_tape a_side : Nat) (x_coins x_hands x_laws x_bytes x_sides : Int32) (f_thrown : Nat → Int32) (l1 : Int32) (z : Int32) (hF : fX6_allThrown x_coins f_thrown l1 = some (z)) : CMi l yX6_allThrown wsX6_allThrown rm_X6_allThrown G [o6 h x_coins x_hands x_laws x_bytes x_sides a_edge a_bend a_rise a_wandering a_thrown a_alike a_law a_tape a_side, aI G a_thrown 36 f_thrown] [o6 h x_coins x_hands x_laws x_bytes x_sides a_edge a_bend a_rise a_wandering a_thrown a_alike a_law a_tape a_side, aI G a_thrown 36 f_thrown] [.ref h, .int l1] z := by
  refine cm_start (cc := cX6_allThrown) (maxL := 2) (ret := (some .int)) (Qc := fun A => QI G [o6 h x_coins x_hands x_laws x_bytes x_sides a_edge a_bend a_rise a_wandering a_thrown a_alike a_law a_tape a_side, aI G a_thrown 36 f_thrown] z A) (by decide +kernel) rfl (Nat.le_of_ble_eq_true rfl) ?_
  intro p e s m args below meth c A hx hb hr hlk hml hown hnm hts hA H locs hP hK hD hE hS ls hl
  have hown : s.vm.findClass RX6 = some m.cls := hown
  have hl : lv_has ls 2 [(0, .ref h), (1, .int l1)] := hl
  have hin6 : ∀ w ∈ wsX60, w ∈ wsX6_allThrown := by decide +kernel
  have lk_24 := hts (.fieldLink RX6 24 "HeadsByHair$Stock" "thrown" "[I") (by decide +kernel)
  revert hF
  intro hF
  unfold fX6_allThrown at hF
  refine lv_aload_n hx hb dX6_allThrown_0 rfl (lv_at hl 0 rfl) ?_
  refine lv_aload_n hx hb dX6_allThrown_1 rfl (lv_at hl 0 rfl) ?_
  refine va_get (D := G.1) (ci := 6) (v := .ref a_thrown) (C := RX6) (T := TX6) (N := 14) hx hb hts hin6 hown hK hP 0 rfl rfl 9 (by decide) lk_24 (fun _ h9 => h9) rfl dX6_allThrown_2 ?_
  refine lv_iload_n hx hb dX6_allThrown_5 rfl (lv_at hl 1 rfl) ?_
  obtain ⟨r1, hc2, hF⟩ := bd_some hF
  have hPc := hP.sub (ws' := [o6 h x_coins x_hands x_laws x_bytes x_sides a_edge a_bend a_rise a_wandering a_thrown a_alike a_law a_tape a_side, aI G a_thrown 36 f_thrown]) [0, 1] rfl
  have hDc := hD.sub (ws' := [o6 h x_coins x_hands x_laws x_bytes x_sides a_edge a_bend a_rise a_wandering a_thrown a_alike a_law a_tape a_side, aI G a_thrown 36 f_thrown]) [0, 1] (by decide) rfl
  have hFc := va_free (wc := [o6 h x_coins x_hands x_laws x_bytes x_sides a_edge a_bend a_rise a_wandering a_thrown a_alike a_law a_tape a_side, aI G a_thrown 36 f_thrown]) hD hS hA [0, 1] rfl
  have hM := c_X6_sumOf l G h a_edge a_bend a_rise a_wandering a_thrown a_alike a_law a_tape a_side a_thrown x_coins x_hands x_laws x_bytes x_sides f_thrown 36 l1 r1 hc2 H.size
  refine cl_i (w1 := [o6 h x_coins x_hands x_laws x_bytes x_sides a_edge a_bend a_rise a_wandering a_thrown a_alike a_law a_tape a_side, aI G a_thrown 36 f_thrown]) (ws' := [o6 h x_coins x_hands x_laws x_bytes x_sides a_edge a_bend a_rise a_wandering a_thrown a_alike a_law a_tape a_side, aI G a_thrown 36 f_thrown]) hP hD hS hFc [0, 1] rfl rfl rfl (va_runV (As := [.ref a_thrown, .int l1]) (rest := []) ⟨hx, hb, hml, hown, hts⟩ hM (cwV 2 hts gX6_allThrown_X6_sumOf rfl rfl rfl (by decide +kernel) ⟨Nat.le_of_ble_eq_true rfl, Nat.le_of_ble_eq_true rfl⟩) (cp_V hK hE hS hPc hDc hFc (va_recv hK hPc (ci := 6) (q0 := 0) rfl rfl)) rfl rfl hl.1 rfl (lv_room (Nat.le_of_ble_eq_true rfl)) dX6_allThrown_6 ⟨Nat.zero_le _, Nat.zero_le _⟩) (fun H locs hP hD hS => ?_)
  injection hF with hz
  subst hz
  exact cm_reti hx hb hr rfl hlk hK hP hD hS dX6_allThrown_9

/-! HeadsByHair$Stock.allAlike(I)I -/
abbrev rm_X6_allAlike : Room := { frames := 1, cells := 0, slots := 0, locals := 24 }
set_option maxHeartbeats 4000000 in
set_option maxRecDepth 100000 in
theorem c_X6_allAlike (l : Launch) (G : GG) (h a_edge a_bend a_rise a_wandering a_thrown a_alike a_law a_tape a_side : Nat) (x_coins x_hands x_laws x_bytes x_sides : Int32) (f_alike : Nat → Int32) (l1 : Int32) (z : Int32) (hF : fX6_allAlike x_coins f_alike l1 = some (z)) : CMi l yX6_allAlike wsX6_allAlike rm_X6_allAlike G [o6 h x_coins x_hands x_laws x_bytes x_sides a_edge a_bend a_rise a_wandering a_thrown a_alike a_law a_tape a_side, aI G a_alike 36 f_alike] [o6 h x_coins x_hands x_laws x_bytes x_sides a_edge a_bend a_rise a_wandering a_thrown a_alike a_law a_tape a_side, aI G a_alike 36 f_alike] [.ref h, .int l1] z := by
  refine cm_start (cc := cX6_allAlike) (maxL := 2) (ret := (some .int)) (Qc := fun A => QI G [o6 h x_coins x_hands x_laws x_bytes x_sides a_edge a_bend a_rise a_wandering a_thrown a_alike a_law a_tape a_side, aI G a_alike 36 f_alike] z A) (by decide +kernel) rfl (Nat.le_of_ble_eq_true rfl) ?_
  intro p e s m args below meth c A hx hb hr hlk hml hown hnm hts hA H locs hP hK hD hE hS ls hl
  have hown : s.vm.findClass RX6 = some m.cls := hown
  have hl : lv_has ls 2 [(0, .ref h), (1, .int l1)] := hl
  have hin6 : ∀ w ∈ wsX60, w ∈ wsX6_allAlike := by decide +kernel
  have lk_27 := hts (.fieldLink RX6 27 "HeadsByHair$Stock" "alike" "[I") (by decide +kernel)
  revert hF
  intro hF
  unfold fX6_allAlike at hF
  refine lv_aload_n hx hb dX6_allAlike_0 rfl (lv_at hl 0 rfl) ?_
  refine lv_aload_n hx hb dX6_allAlike_1 rfl (lv_at hl 0 rfl) ?_
  refine va_get (D := G.1) (ci := 6) (v := .ref a_alike) (C := RX6) (T := TX6) (N := 14) hx hb hts hin6 hown hK hP 0 rfl rfl 10 (by decide) lk_27 (fun _ h9 => h9) rfl dX6_allAlike_2 ?_
  refine lv_iload_n hx hb dX6_allAlike_5 rfl (lv_at hl 1 rfl) ?_
  obtain ⟨r1, hc2, hF⟩ := bd_some hF
  have hPc := hP.sub (ws' := [o6 h x_coins x_hands x_laws x_bytes x_sides a_edge a_bend a_rise a_wandering a_thrown a_alike a_law a_tape a_side, aI G a_alike 36 f_alike]) [0, 1] rfl
  have hDc := hD.sub (ws' := [o6 h x_coins x_hands x_laws x_bytes x_sides a_edge a_bend a_rise a_wandering a_thrown a_alike a_law a_tape a_side, aI G a_alike 36 f_alike]) [0, 1] (by decide) rfl
  have hFc := va_free (wc := [o6 h x_coins x_hands x_laws x_bytes x_sides a_edge a_bend a_rise a_wandering a_thrown a_alike a_law a_tape a_side, aI G a_alike 36 f_alike]) hD hS hA [0, 1] rfl
  have hM := c_X6_sumOf l G h a_edge a_bend a_rise a_wandering a_thrown a_alike a_law a_tape a_side a_alike x_coins x_hands x_laws x_bytes x_sides f_alike 36 l1 r1 hc2 H.size
  refine cl_i (w1 := [o6 h x_coins x_hands x_laws x_bytes x_sides a_edge a_bend a_rise a_wandering a_thrown a_alike a_law a_tape a_side, aI G a_alike 36 f_alike]) (ws' := [o6 h x_coins x_hands x_laws x_bytes x_sides a_edge a_bend a_rise a_wandering a_thrown a_alike a_law a_tape a_side, aI G a_alike 36 f_alike]) hP hD hS hFc [0, 1] rfl rfl rfl (va_runV (As := [.ref a_alike, .int l1]) (rest := []) ⟨hx, hb, hml, hown, hts⟩ hM (cwV 2 hts gX6_allAlike_X6_sumOf rfl rfl rfl (by decide +kernel) ⟨Nat.le_of_ble_eq_true rfl, Nat.le_of_ble_eq_true rfl⟩) (cp_V hK hE hS hPc hDc hFc (va_recv hK hPc (ci := 6) (q0 := 0) rfl rfl)) rfl rfl hl.1 rfl (lv_room (Nat.le_of_ble_eq_true rfl)) dX6_allAlike_6 ⟨Nat.zero_le _, Nat.zero_le _⟩) (fun H locs hP hD hS => ?_)
  injection hF with hz
  subst hz
  exact cm_reti hx hb hr rfl hlk hK hP hD hS dX6_allAlike_9

/-! HeadsByHair$Stock.rises(I)I -/
abbrev rm_X6_rises : Room := { frames := 1, cells := 0, slots := 0, locals := 24 }
set_option maxHeartbeats 4000000 in
set_option maxRecDepth 100000 in
theorem c_X6_rises (l : Launch) (G : GG) (h a_edge a_bend a_rise a_wandering a_thrown a_alike a_law a_tape a_side : Nat) (x_coins x_hands x_laws x_bytes x_sides : Int32) (f_wandering : Nat → Int32) (l1 : Int32) (z : Int32) (hF : fX6_rises f_wandering l1 = some (z)) : CMi l yX6_rises wsX6_rises rm_X6_rises G [o6 h x_coins x_hands x_laws x_bytes x_sides a_edge a_bend a_rise a_wandering a_thrown a_alike a_law a_tape a_side, aI G a_wandering 6 f_wandering] [o6 h x_coins x_hands x_laws x_bytes x_sides a_edge a_bend a_rise a_wandering a_thrown a_alike a_law a_tape a_side, aI G a_wandering 6 f_wandering] [.ref h, .int l1] z := by
  refine cm_start (cc := cX6_rises) (maxL := 2) (ret := (some .int)) (Qc := fun A => QI G [o6 h x_coins x_hands x_laws x_bytes x_sides a_edge a_bend a_rise a_wandering a_thrown a_alike a_law a_tape a_side, aI G a_wandering 6 f_wandering] z A) (by decide +kernel) rfl (Nat.le_of_ble_eq_true rfl) ?_
  intro p e s m args below meth c A hx hb hr hlk hml hown hnm hts hA H locs hP hK hD hE hS ls hl
  have hown : s.vm.findClass RX6 = some m.cls := hown
  have hl : lv_has ls 2 [(0, .ref h), (1, .int l1)] := hl
  have hin6 : ∀ w ∈ wsX60, w ∈ wsX6_rises := by decide +kernel
  have lk_21 := hts (.fieldLink RX6 21 "HeadsByHair$Stock" "wandering" "[I") (by decide +kernel)
  have lm_50 := hts (.methodLink RX6 50 Lib.Math.max.name) (by decide +kernel)
  have ms_max := hts (.static Lib.Math.max.name) (by decide +kernel)
  have mi := hts (.initialized "java/lang/Math") (by decide +kernel)
  have mc_max := hts (.code Lib.Math.max.name Lib.Math.max.code 2 (some .int)) (by decide +kernel)
  revert hF
  intro hF
  unfold fX6_rises at hF
  refine lv_iconst (v := 1) hx hb dX6_rises_0 (by decide) ?_
  refine lv_iconst (v := 2) hx hb dX6_rises_1 (by decide) ?_
  refine lv_aload_n hx hb dX6_rises_2 rfl (lv_at hl 0 rfl) ?_
  refine va_get (D := G.1) (ci := 6) (v := .ref a_wandering) (C := RX6) (T := TX6) (N := 14) hx hb hts hin6 hown hK hP 0 rfl rfl 8 (by decide) lk_21 (fun _ h9 => h9) rfl dX6_rises_3 ?_
  refine lv_iload_n hx hb dX6_rises_6 rfl (lv_at hl 1 rfl) ?_
  obtain ⟨hi1, hF⟩ := ck_some hF
  refine va_iald (D := G.1) hx hb hK hP 1 0 rfl rfl hi1 dX6_rises_7 ?_
  refine lv_imul hx hb dX6_rises_8 ?_
  refine lv_iconst (v := 1) hx hb dX6_rises_9 (by decide) ?_
  refine lv_iadd hx hb dX6_rises_10 ?_
  refine va_mmax hx hb (hml.trans hl.1.symm) hown lm_50 ms_max mi mc_max (Nat.le_of_ble_eq_true rfl) (Nat.le_of_ble_eq_true rfl) (Nat.zero_le _) (Nat.zero_le _) dX6_rises_11 ?_
  injection hF with hz
  subst hz
  exact cm_reti hx hb hr rfl hlk hK hP hD hS dX6_rises_14
/-! HeadsByHair$Trace.began(I)V -/
abbrev rm_X8_began : Room := { frames := 0, cells := 0, slots := 0, locals := 0 }
set_option maxHeartbeats 4000000 in
set_option maxRecDepth 100000 in
theorem c_X8_began (l : Launch) (G : GG) (h a_body : Nat) (x_ran : Int32) (f_body : Nat → Int32) (l1 : Int32) (z_x_ran : Int32) (z_f_body : Nat → Int32) (hF : fX8_began x_ran f_body l1 = some (z_x_ran, z_f_body)) : CMv l yX8_began wsX8_began rm_X8_began G [o8 h a_body x_ran, aI G a_body 20 f_body] [o8 h a_body z_x_ran, aI G a_body 20 z_f_body] [.ref h, .int l1] := by
  refine cm_start (cc := cX8_began) (maxL := 2) (ret := none) (Qc := fun A => QV G [o8 h a_body z_x_ran, aI G a_body 20 z_f_body] A) (by decide +kernel) rfl (Nat.le_of_ble_eq_true rfl) ?_
  intro p e s m args below meth c A hx hb hr hlk hml hown hnm hts hA H locs hP hK hD hE hS ls hl
  have hown : s.vm.findClass RX8 = some m.cls := hown
  have hl : lv_has ls 2 [(0, .ref h), (1, .int l1)] := hl
  have hin8 : ∀ w ∈ wsX80, w ∈ wsX8_began := by decide +kernel
  have lk_15 := hts (.fieldLink RX8 15 "HeadsByHair$Trace" "ran" "I") (by decide +kernel)
  have lk_9 := hts (.fieldLink RX8 9 "HeadsByHair$Trace" "body" "[I") (by decide +kernel)
  revert hF
  intro hF
  unfold fX8_began at hF
  refine lv_aload_n hx hb dX8_began_0 rfl (lv_at hl 0 rfl) ?_
  refine va_get (D := G.1) (ci := 8) (v := .int x_ran) (C := RX8) (T := TX8) (N := 2) hx hb hts hin8 hown hK hP 0 rfl rfl 1 (by decide) lk_15 (fun _ h9 => h9) rfl dX8_began_1 ?_
  refine lv_bipush (v := 20) hx hb dX8_began_4 (by decide) ?_
  refine lv_icmp_ge (tgt := 19) hx hb dX8_began_6 (by decide) (fun c1 => ?_) (fun c1 => ?_)
  · rw [if_pos c1] at hF
    refine lv_aload_n hx hb dX8_began_19 rfl (lv_at hl 0 rfl) ?_
    refine lv_dup hx hb dX8_began_20 rfl ?_
    refine va_get (D := G.1) (ci := 8) (v := .int x_ran) (C := RX8) (T := TX8) (N := 2) hx hb hts hin8 hown hK hP 0 rfl rfl 1 (by decide) lk_15 (fun _ h9 => h9) rfl dX8_began_21 ?_
    refine lv_iconst (v := 1) hx hb dX8_began_24 (by decide) ?_
    refine lv_iadd hx hb dX8_began_25 ?_
    refine va_put (D := G.1) (ci := 8) (v := .int (x_ran + 1)) (ty := .int) (C := RX8) (T := TX8) (N := 2) hx hb hts hin8 tyX8 tyX8_ok nmX8 hown hK hP hD hS 0 rfl rfl 1 (by decide) lk_15 (fun _ h9 => h9) rfl (tyX8_ok 1 (by decide)) rfl rfl (Nat.le_of_ble_eq_true rfl) dX8_began_26 (fun H locs hP hD hS => ?_)
    have hP : va_P G.1 vwCl [o8 h a_body (x_ran + 1), aI G a_body 20 f_body] H := hP
    have hD : va_D A [o8 h a_body (x_ran + 1), aI G a_body 20 f_body] := hD
    injection hF with hz
    injection hz with hq0 hz
    subst hq0
    subst hz
    exact cm_retv hx hb hr hlk hK hP hD hS dX8_began_29
  rw [if_neg c1] at hF
  refine lv_aload_n hx hb dX8_began_9 rfl (lv_at hl 0 rfl) ?_
  refine va_get (D := G.1) (ci := 8) (v := .ref a_body) (C := RX8) (T := TX8) (N := 2) hx hb hts hin8 hown hK hP 0 rfl rfl 0 (by decide) lk_9 (fun _ h9 => h9) rfl dX8_began_10 ?_
  refine lv_aload_n hx hb dX8_began_13 rfl (lv_at hl 0 rfl) ?_
  refine va_get (D := G.1) (ci := 8) (v := .int x_ran) (C := RX8) (T := TX8) (N := 2) hx hb hts hin8 hown hK hP 0 rfl rfl 1 (by decide) lk_15 (fun _ h9 => h9) rfl dX8_began_14 ?_
  refine lv_iload_n hx hb dX8_began_17 rfl (lv_at hl 1 rfl) ?_
  obtain ⟨hi2, hF⟩ := ck_some hF
  refine va_iast (D := G.1) hx hb hK hP hD hS 1 0 rfl rfl hi2 dX8_began_18 (fun H locs hP hD hS => ?_)
  have hP : va_P G.1 vwCl [o8 h a_body x_ran, aI G a_body 20 (upd f_body x_ran.toNatClampNeg l1)] H := hP
  have hD : va_D A [o8 h a_body x_ran, aI G a_body 20 (upd f_body x_ran.toNatClampNeg l1)] := hD
  refine lv_aload_n hx hb dX8_began_19 rfl (lv_at hl 0 rfl) ?_
  refine lv_dup hx hb dX8_began_20 rfl ?_
  refine va_get (D := G.1) (ci := 8) (v := .int x_ran) (C := RX8) (T := TX8) (N := 2) hx hb hts hin8 hown hK hP 0 rfl rfl 1 (by decide) lk_15 (fun _ h9 => h9) rfl dX8_began_21 ?_
  refine W.eq (g2 := F0 m 24 ls [.int x_ran, .ref h]) rfl ?_
  refine lv_iconst (v := 1) hx hb dX8_began_24 (by decide) ?_
  refine lv_iadd hx hb dX8_began_25 ?_
  refine va_put (D := G.1) (ci := 8) (v := .int (x_ran + 1)) (ty := .int) (C := RX8) (T := TX8) (N := 2) hx hb hts hin8 tyX8 tyX8_ok nmX8 hown hK hP hD hS 0 rfl rfl 1 (by decide) lk_15 (fun _ h9 => h9) rfl (tyX8_ok 1 (by decide)) rfl rfl (Nat.le_of_ble_eq_true rfl) dX8_began_26 (fun H locs hP hD hS => ?_)
  have hP : va_P G.1 vwCl [o8 h a_body (x_ran + 1), aI G a_body 20 (upd f_body x_ran.toNatClampNeg l1)] H := hP
  have hD : va_D A [o8 h a_body (x_ran + 1), aI G a_body 20 (upd f_body x_ran.toNatClampNeg l1)] := hD
  injection hF with hz
  injection hz with hq0 hz
  subst hq0
  subst hz
  exact cm_retv hx hb hr hlk hK hP hD hS dX8_began_29
/-! HeadsByHair$Flight.isAtEnd()Z -/
abbrev rm_X2_isAtEnd : Room := { frames := 0, cells := 0, slots := 0, locals := 0 }
set_option maxHeartbeats 4000000 in
set_option maxRecDepth 100000 in
theorem c_X2_isAtEnd (l : Launch) (G : GG) (h : Nat) (x_hand x_edge x_bend x_rise x_last x_tick x_angle x_lean : Int32) (z : Int32) (hF : fX2_isAtEnd x_last x_tick = some (z)) : CMi l yX2_isAtEnd wsX2_isAtEnd rm_X2_isAtEnd G [o2 h x_hand x_edge x_bend x_rise x_last x_tick x_angle x_lean] [o2 h x_hand x_edge x_bend x_rise x_last x_tick x_angle x_lean] [.ref h] z := by
  refine cm_start (cc := cX2_isAtEnd) (maxL := 1) (ret := (some .boolean)) (Qc := fun A => QI G [o2 h x_hand x_edge x_bend x_rise x_last x_tick x_angle x_lean] z A) (by decide +kernel) rfl (Nat.le_of_ble_eq_true rfl) ?_
  intro p e s m args below meth c A hx hb hr hlk hml hown hnm hts hA H locs hP hK hD hE hS ls hl
  have hown : s.vm.findClass RX2 = some m.cls := hown
  have hl : lv_has ls 1 [(0, .ref h)] := hl
  have hin2 : ∀ w ∈ wsX20, w ∈ wsX2_isAtEnd := by decide +kernel
  have lk_9 := hts (.fieldLink RX2 9 "HeadsByHair$Flight" "tick" "I") (by decide +kernel)
  have lk_15 := hts (.fieldLink RX2 15 "HeadsByHair$Flight" "last" "I") (by decide +kernel)
  revert hF
  intro hF
  unfold fX2_isAtEnd at hF
  refine lv_aload_n hx hb dX2_isAtEnd_0 rfl (lv_at hl 0 rfl) ?_
  refine va_get (D := G.1) (ci := 2) (v := .int x_tick) (C := RX2) (T := TX2) (N := 8) hx hb hts hin2 hown hK hP 0 rfl rfl 5 (by decide) lk_9 (fun _ h9 => h9) rfl dX2_isAtEnd_1 ?_
  refine lv_aload_n hx hb dX2_isAtEnd_4 rfl (lv_at hl 0 rfl) ?_
  refine va_get (D := G.1) (ci := 2) (v := .int x_last) (C := RX2) (T := TX2) (N := 8) hx hb hts hin2 hown hK hP 0 rfl rfl 4 (by decide) lk_15 (fun _ h9 => h9) rfl dX2_isAtEnd_5 ?_
  refine lv_icmp_ne (tgt := 15) hx hb dX2_isAtEnd_8 (by decide) (fun c1 => ?_) (fun c1 => ?_)
  · rw [if_neg c1] at hF
    refine lv_iconst (v := 0) hx hb dX2_isAtEnd_15 (by decide) ?_
    injection hF with hz
    subst hz
    exact cm_reti hx hb hr (by decide) hlk hK hP hD hS dX2_isAtEnd_16
  rw [if_pos c1] at hF
  refine lv_iconst (v := 1) hx hb dX2_isAtEnd_11 (by decide) ?_
  refine lv_goto (tgt := 16) hx hb dX2_isAtEnd_12 (by decide) ?_
  injection hF with hz
  subst hz
  exact cm_reti hx hb hr (by decide) hlk hK hP hD hS dX2_isAtEnd_16

/-! HeadsByHair$Flight.valueOf(I)I -/
abbrev rm_X2_valueOf : Room := { frames := 0, cells := 0, slots := 0, locals := 0 }
set_option maxHeartbeats 4000000 in
set_option maxRecDepth 100000 in
theorem c_X2_valueOf (l : Launch) (G : GG) (h : Nat) (x_hand x_edge x_bend x_rise x_last x_tick x_angle x_lean : Int32) (l1 : Int32) (z : Int32) (hF : fX2_valueOf x_hand x_edge x_bend x_rise x_tick l1 = some (z)) : CMi l yX2_valueOf wsX2_valueOf rm_X2_valueOf G [o2 h x_hand x_edge x_bend x_rise x_last x_tick x_angle x_lean] [o2 h x_hand x_edge x_bend x_rise x_last x_tick x_angle x_lean] [.ref h, .int l1] z := by
  refine cm_start (cc := cX2_valueOf) (maxL := 2) (ret := (some .int)) (Qc := fun A => QI G [o2 h x_hand x_edge x_bend x_rise x_last x_tick x_angle x_lean] z A) (by decide +kernel) rfl (Nat.le_of_ble_eq_true rfl) ?_
  intro p e s m args below meth c A hx hb hr hlk hml hown hnm hts hA H locs hP hK hD hE hS ls hl
  have hown : s.vm.findClass RX2 = some m.cls := hown
  have hl : lv_has ls 2 [(0, .ref h), (1, .int l1)] := hl
  have hin2 : ∀ w ∈ wsX20, w ∈ wsX2_valueOf := by decide +kernel
  have lk_38 := hts (.fieldLink RX2 38 "HeadsByHair$Flight" "rise" "I") (by decide +kernel)
  have lk_41 := hts (.fieldLink RX2 41 "HeadsByHair$Flight" "edge" "I") (by decide +kernel)
  have lk_44 := hts (.fieldLink RX2 44 "HeadsByHair$Flight" "bend" "I") (by decide +kernel)
  have lk_47 := hts (.fieldLink RX2 47 "HeadsByHair$Flight" "hand" "I") (by decide +kernel)
  have lk_9 := hts (.fieldLink RX2 9 "HeadsByHair$Flight" "tick" "I") (by decide +kernel)
  revert hF
  intro hF
  unfold fX2_valueOf at hF
  refine lv_iload_n hx hb dX2_valueOf_0 rfl (lv_at hl 1 rfl) ?_
  by_cases c1 : l1 = 0
  · rw [if_pos c1] at hF
    refine lv_eqi c1 ?_
    refine lv_tableIn (tgt := 32) (off := 31) hx hb dX2_valueOf_1 (by decide) (by decide) (by decide) (by decide) ?_
    refine lv_aload_n hx hb dX2_valueOf_32 rfl (lv_at hl 0 rfl) ?_
    refine va_get (D := G.1) (ci := 2) (v := .int x_rise) (C := RX2) (T := TX2) (N := 8) hx hb hts hin2 hown hK hP 0 rfl rfl 3 (by decide) lk_38 (fun _ h9 => h9) rfl dX2_valueOf_33 ?_
    injection hF with hz
    subst hz
    exact cm_reti hx hb hr rfl hlk hK hP hD hS dX2_valueOf_36
  rw [if_neg c1] at hF
  by_cases c2 : l1 = 1
  · rw [if_pos c2] at hF
    refine lv_eqi c2 ?_
    refine lv_tableIn (tgt := 37) (off := 36) hx hb dX2_valueOf_1 (by decide) (by decide) (by decide) (by decide) ?_
    refine lv_aload_n hx hb dX2_valueOf_37 rfl (lv_at hl 0 rfl) ?_
    refine va_get (D := G.1) (ci := 2) (v := .int x_edge) (C := RX2) (T := TX2) (N := 8) hx hb hts hin2 hown hK hP 0 rfl rfl 1 (by decide) lk_41 (fun _ h9 => h9) rfl dX2_valueOf_38 ?_
    injection hF with hz
    subst hz
    exact cm_reti hx hb hr rfl hlk hK hP hD hS dX2_valueOf_41
  rw [if_neg c2] at hF
  by_cases c3 : l1 = 2
  · rw [if_pos c3] at hF
    refine lv_eqi c3 ?_
    refine lv_tableIn (tgt := 42) (off := 41) hx hb dX2_valueOf_1 (by decide) (by decide) (by decide) (by decide) ?_
    refine lv_aload_n hx hb dX2_valueOf_42 rfl (lv_at hl 0 rfl) ?_
    refine va_get (D := G.1) (ci := 2) (v := .int x_bend) (C := RX2) (T := TX2) (N := 8) hx hb hts hin2 hown hK hP 0 rfl rfl 2 (by decide) lk_44 (fun _ h9 => h9) rfl dX2_valueOf_43 ?_
    injection hF with hz
    subst hz
    exact cm_reti hx hb hr rfl hlk hK hP hD hS dX2_valueOf_46
  rw [if_neg c3] at hF
  by_cases c4 : l1 = 3
  · rw [if_pos c4] at hF
    refine lv_eqi c4 ?_
    refine lv_tableIn (tgt := 47) (off := 46) hx hb dX2_valueOf_1 (by decide) (by decide) (by decide) (by decide) ?_
    refine lv_aload_n hx hb dX2_valueOf_47 rfl (lv_at hl 0 rfl) ?_
    refine va_get (D := G.1) (ci := 2) (v := .int x_hand) (C := RX2) (T := TX2) (N := 8) hx hb hts hin2 hown hK hP 0 rfl rfl 0 (by decide) lk_47 (fun _ h9 => h9) rfl dX2_valueOf_48 ?_
    injection hF with hz
    subst hz
    exact cm_reti hx hb hr rfl hlk hK hP hD hS dX2_valueOf_51
  rw [if_neg c4] at hF
  refine lv_tableOut (tgt := 52) hx hb dX2_valueOf_1 (by have a0 := lv_neT (k := 0) (a := 0) c1 (by decide); have a1 := lv_neT (k := 1) (a := 1) c2 (by decide); have a2 := lv_neT (k := 2) (a := 2) c3 (by decide); have a3 := lv_neT (k := 3) (a := 3) c4 (by decide); omega) (by decide) ?_
  refine lv_aload_n hx hb dX2_valueOf_52 rfl (lv_at hl 0 rfl) ?_
  refine va_get (D := G.1) (ci := 2) (v := .int x_tick) (C := RX2) (T := TX2) (N := 8) hx hb hts hin2 hown hK hP 0 rfl rfl 5 (by decide) lk_9 (fun _ h9 => h9) rfl dX2_valueOf_53 ?_
  injection hF with hz
  subst hz
  exact cm_reti hx hb hr rfl hlk hK hP hD hS dX2_valueOf_56

/-! HeadsByHair$Flight.isTrue(II)Z -/
abbrev rm_X2_isTrue : Room := { frames := 1, cells := 0, slots := 0, locals := 21 }
set_option maxHeartbeats 4000000 in
set_option maxRecDepth 100000 in
theorem c_X2_isTrue (l : Launch) (G : GG) (h : Nat) (x_hand x_edge x_bend x_rise x_last x_tick x_angle x_lean : Int32) (l1 : Int32) (l2 : Int32) (z : Int32) (hF : fX2_isTrue x_hand x_edge x_bend x_rise x_tick l1 l2 = some (z)) : CMi l yX2_isTrue wsX2_isTrue rm_X2_isTrue G [o2 h x_hand x_edge x_bend x_rise x_last x_tick x_angle x_lean] [o2 h x_hand x_edge x_bend x_rise x_last x_tick x_angle x_lean] [.ref h, .int l1, .int l2] z := by
  refine cm_start (cc := cX2_isTrue) (maxL := 4) (ret := (some .boolean)) (Qc := fun A => QI G [o2 h x_hand x_edge x_bend x_rise x_last x_tick x_angle x_lean] z A) (by decide +kernel) rfl (Nat.le_of_ble_eq_true rfl) ?_
  intro p e s m args below meth c A hx hb hr hlk hml hown hnm hts hA H locs hP hK hD hE hS ls hl
  have hown : s.vm.findClass RX2 = some m.cls := hown
  have hl : lv_has ls 4 [(0, .ref h), (1, .int l1), (2, .int l2)] := hl
  revert hF
  intro hF
  unfold fX2_isTrue at hF
  refine lv_aload_n hx hb dX2_isTrue_0 rfl (lv_at hl 0 rfl) ?_
  refine lv_iload_n hx hb dX2_isTrue_1 rfl (lv_at hl 1 rfl) ?_
  refine lv_iconst (v := 3) hx hb dX2_isTrue_2 (by decide) ?_
  refine lv_idiv hx hb dX2_isTrue_3 (by decide) ?_
  obtain ⟨r1, hc2, hF⟩ := bd_some hF
  have hPc := hP.sub (ws' := [o2 h x_hand x_edge x_bend x_rise x_last x_tick x_angle x_lean]) [0] rfl
  have hDc := hD.sub (ws' := [o2 h x_hand x_edge x_bend x_rise x_last x_tick x_angle x_lean]) [0] (by decide) rfl
  have hFc := va_free (wc := [o2 h x_hand x_edge x_bend x_rise x_last x_tick x_angle x_lean]) hD hS hA [0] rfl
  have hM := c_X2_valueOf l G h x_hand x_edge x_bend x_rise x_last x_tick x_angle x_lean (l1 / 3) r1 hc2 H.size
  refine cl_i (w1 := [o2 h x_hand x_edge x_bend x_rise x_last x_tick x_angle x_lean]) (ws' := [o2 h x_hand x_edge x_bend x_rise x_last x_tick x_angle x_lean]) hP hD hS hFc [0] rfl rfl rfl (va_runV (As := [.int (l1 / 3)]) (rest := []) ⟨hx, hb, hml, hown, hts⟩ hM (cwV 1 hts gX2_isTrue_X2_valueOf rfl rfl rfl (by decide +kernel) ⟨Nat.le_of_ble_eq_true rfl, Nat.le_of_ble_eq_true rfl⟩) (cp_V hK hE hS hPc hDc hFc (va_recv hK hPc (ci := 2) (q0 := 0) rfl rfl)) rfl rfl hl.1 rfl (lv_room (Nat.le_of_ble_eq_true rfl)) dX2_isTrue_4 ⟨Nat.zero_le _, Nat.zero_le _⟩) (fun H locs hP hD hS => ?_)
  refine lv_istore_n (lv' := [(3, .int r1), (0, .ref h), (1, .int l1), (2, .int l2)]) hx hb dX2_isTrue_7 rfl hl (by decide) rfl (fun ls hl => ?_)
  refine lv_iload_n hx hb dX2_isTrue_8 rfl (lv_at hl 2 rfl) ?_
  refine lv_iconst (v := 3) hx hb dX2_isTrue_9 (by decide) ?_
  refine lv_irem hx hb dX2_isTrue_10 (by decide) ?_
  by_cases c3 : (l1 - l1 / 3 * 3) = 0
  · rw [if_pos c3] at hF
    refine lv_eqi c3 ?_
    refine lv_lookup (tgt := 36) (off := 25) hx hb dX2_isTrue_11 (by decide) (by decide) (by decide) ?_
    refine lv_iload_n hx hb dX2_isTrue_36 rfl (lv_at hl 0 rfl) ?_
    refine lv_iload_n hx hb dX2_isTrue_37 rfl (lv_at hl 3 rfl) ?_
    refine lv_icmp_ge (tgt := 45) hx hb dX2_isTrue_38 (by decide) (fun c4 => ?_) (fun c4 => ?_)
    · rw [if_pos c4] at hF
      refine W.eq (g2 := F0 m 45 ls []) rfl ?_
      refine lv_iconst (v := 0) hx hb dX2_isTrue_45 (by decide) ?_
      injection hF with hz
      subst hz
      exact cm_reti hx hb hr (by decide) hlk hK hP hD hS dX2_isTrue_46
    rw [if_neg c4] at hF
    refine W.eq (g2 := F0 m 41 ls []) rfl ?_
    refine lv_iconst (v := 1) hx hb dX2_isTrue_41 (by decide) ?_
    refine lv_goto (tgt := 46) hx hb dX2_isTrue_42 (by decide) ?_
    injection hF with hz
    subst hz
    exact cm_reti hx hb hr (by decide) hlk hK hP hD hS dX2_isTrue_46
  rw [if_neg c3] at hF
  by_cases c5 : (l1 - l1 / 3 * 3) = 1
  · rw [if_pos c5] at hF
    refine lv_eqi c5 ?_
    refine lv_lookup (tgt := 47) (off := 36) hx hb dX2_isTrue_11 (by decide) (by decide) (by decide) ?_
    refine lv_iload_n hx hb dX2_isTrue_47 rfl (lv_at hl 0 rfl) ?_
    refine lv_iload_n hx hb dX2_isTrue_48 rfl (lv_at hl 3 rfl) ?_
    refine lv_icmp_ne (tgt := 56) hx hb dX2_isTrue_49 (by decide) (fun c6 => ?_) (fun c6 => ?_)
    · rw [if_neg c6] at hF
      refine W.eq (g2 := F0 m 56 ls []) rfl ?_
      refine lv_iconst (v := 0) hx hb dX2_isTrue_56 (by decide) ?_
      injection hF with hz
      subst hz
      exact cm_reti hx hb hr (by decide) hlk hK hP hD hS dX2_isTrue_57
    rw [if_pos c6] at hF
    refine W.eq (g2 := F0 m 52 ls []) rfl ?_
    refine lv_iconst (v := 1) hx hb dX2_isTrue_52 (by decide) ?_
    refine lv_goto (tgt := 57) hx hb dX2_isTrue_53 (by decide) ?_
    injection hF with hz
    subst hz
    exact cm_reti hx hb hr (by decide) hlk hK hP hD hS dX2_isTrue_57
  rw [if_neg c5] at hF
  refine lv_lookup (tgt := 58) (off := 47) hx hb dX2_isTrue_11 (by decide) (by refine (lv_osw (k := 0) c3 (by decide)).trans ?_; refine (lv_osw (k := 1) c5 (by decide)).trans ?_; rfl) (by decide) ?_
  refine lv_iload_n hx hb dX2_isTrue_58 rfl (lv_at hl 0 rfl) ?_
  refine lv_iload_n hx hb dX2_isTrue_59 rfl (lv_at hl 3 rfl) ?_
  refine lv_icmp_le (tgt := 67) hx hb dX2_isTrue_60 (by decide) (fun c7 => ?_) (fun c7 => ?_)
  · rw [if_pos c7] at hF
    refine W.eq (g2 := F0 m 67 ls []) rfl ?_
    refine lv_iconst (v := 0) hx hb dX2_isTrue_67 (by decide) ?_
    injection hF with hz
    subst hz
    exact cm_reti hx hb hr (by decide) hlk hK hP hD hS dX2_isTrue_68
  rw [if_neg c7] at hF
  refine W.eq (g2 := F0 m 63 ls []) rfl ?_
  refine lv_iconst (v := 1) hx hb dX2_isTrue_63 (by decide) ?_
  refine lv_goto (tgt := 68) hx hb dX2_isTrue_64 (by decide) ?_
  injection hF with hz
  subst hz
  exact cm_reti hx hb hr (by decide) hlk hK hP hD hS dX2_isTrue_68

/-! HeadsByHair$Flight.goOn([I)V -/
abbrev rm_X2_goOn : Room := { frames := 2, cells := 0, slots := 0, locals := 44 }
set_option maxHeartbeats 4000000 in
set_option maxRecDepth 100000 in
theorem c_X2_goOn (l : Launch) (G : GG) (h a_p1 : Nat) (x_hand x_edge x_bend x_rise x_last x_tick x_angle x_lean : Int32) (f_p1 : Nat → Int32) (n_p1 : Nat) (z_x_tick : Int32) (z_x_angle : Int32) (z_x_lean : Int32) (hF : fX2_goOn n_p1 x_hand x_edge x_bend x_rise x_tick x_angle x_lean f_p1 = some (z_x_tick, z_x_angle, z_x_lean)) : CMv l yX2_goOn wsX2_goOn rm_X2_goOn G [o2 h x_hand x_edge x_bend x_rise x_last x_tick x_angle x_lean, aI G a_p1 n_p1 f_p1] [o2 h x_hand x_edge x_bend x_rise x_last z_x_tick z_x_angle z_x_lean, aI G a_p1 n_p1 f_p1] [.ref h, .ref a_p1] := by
  refine cm_start (cc := cX2_goOn) (maxL := 13) (ret := none) (Qc := fun A => QV G [o2 h x_hand x_edge x_bend x_rise x_last z_x_tick z_x_angle z_x_lean, aI G a_p1 n_p1 f_p1] A) (by decide +kernel) rfl (Nat.le_of_ble_eq_true rfl) ?_
  intro p e s m args below meth c A hx hb hr hlk hml hown hnm hts hA H locs hP hK hD hE hS ls hl
  have hown : s.vm.findClass RX2 = some m.cls := hown
  have hl : lv_has ls 13 [(0, .ref h), (1, .ref a_p1)] := hl
  have hin2 : ∀ w ∈ wsX20, w ∈ wsX2_goOn := by decide +kernel
  have lk_9 := hts (.fieldLink RX2 9 "HeadsByHair$Flight" "tick" "I") (by decide +kernel)
  have lm_25 := hts (.methodLink RX2 25 Lib.Math.min.name) (by decide +kernel)
  have ms_min := hts (.static Lib.Math.min.name) (by decide +kernel)
  have mi := hts (.initialized "java/lang/Math") (by decide +kernel)
  have mc_min := hts (.code Lib.Math.min.name Lib.Math.min.code 2 (some .int)) (by decide +kernel)
  have lk_31 := hts (.fieldLink RX2 31 "HeadsByHair$Flight" "lean" "I") (by decide +kernel)
  have lk_22 := hts (.fieldLink RX2 22 "HeadsByHair$Flight" "angle" "I") (by decide +kernel)
  revert hF
  have LP31 : ∀ (x_tick : Int32) (x_angle : Int32) (x_lean : Int32) (l7 : Int32) (k219 : Int32 → Int32 → Int32 → Option (Int32 × Int32 × Int32)) (hk219 : ∀ (l2 : Int32) (l3 : Int32) (l4 : Int32) (H : Heap) (locs : List Loc) (ls : Array Slot), va_P G.1 vwCl [o2 h x_hand x_edge x_bend x_rise x_last x_tick x_angle x_lean, aI G a_p1 n_p1 f_p1] H → va_D A [o2 h x_hand x_edge x_bend x_rise x_last x_tick x_angle x_lean, aI G a_p1 n_p1 f_p1] → va_S A s.heap H locs → lv_has ls 13 [(0, .ref h), (2, .int l2), (3, .int l3), (4, .int l4)] → k219 l2 l3 l4 = some (z_x_tick, z_x_angle, z_x_lean) → W p l e (rm_X2_goOn) s m args below meth c H locs 0 0 (MQ below (QV G [o2 h x_hand x_edge x_bend x_rise x_last z_x_tick z_x_angle z_x_lean, aI G a_p1 n_p1 f_p1] A) args s 0 0 A) (F0 m 219 ls [])) (n : Nat) (l2 : Int32) (l3 : Int32) (l4 : Int32) (l5 : Int32) (l8 : Int32) (H : Heap) (locs : List Loc) (ls : Array Slot), va_P G.1 vwCl [o2 h x_hand x_edge x_bend x_rise x_last x_tick x_angle x_lean, aI G a_p1 n_p1 f_p1] H → va_D A [o2 h x_hand x_edge x_bend x_rise x_last x_tick x_angle x_lean, aI G a_p1 n_p1 f_p1] → va_S A s.heap H locs → lv_has ls 13 [(0, .ref h), (2, .int l2), (3, .int l3), (4, .int l4), (5, .int l5), (6, .ref a_p1), (7, .int l7), (8, .int l8)] → fX2_goOn_L31 k219 n_p1 x_hand x_edge x_bend x_rise x_tick x_angle x_lean f_p1 l7 n l2 l3 l4 l5 l8 = some (z_x_tick, z_x_angle, z_x_lean) → W p l e (rm_X2_goOn) s m args below meth c H locs 0 0 (MQ below (QV G [o2 h x_hand x_edge x_bend x_rise x_last z_x_tick z_x_angle z_x_lean, aI G a_p1 n_p1 f_p1] A) args s 0 0 A) (F0 m 31 ls []) := by
    intro x_tick x_angle x_lean l7 k219 hk219 n
    induction n with
    | zero =>
      intro l2 l3 l4 l5 l8 H locs ls hP hD hS hl hF
      cases hF
    | succ n ih =>
      intro l2 l3 l4 l5 l8 H locs ls hP hD hS hl hF
      rw [fX2_goOn_L31] at hF
      refine lv_iload hx hb dX2_goOn_31 (lv_at hl 7 rfl) ?_
      refine lv_iload hx hb dX2_goOn_33 (lv_at hl 6 rfl) ?_
      refine lv_icmp_ge (tgt := 219) hx hb dX2_goOn_35 (by decide) (fun c1 => ?_) (fun c1 => ?_)
      · rw [if_pos c1] at hF
        exact hk219 _ _ _ H locs ls hP hD hS (lv_sub hl [0, 1, 2, 3] rfl) hF
      rw [if_neg c1] at hF
      refine lv_aload hx hb dX2_goOn_38 (lv_at hl 5 rfl) ?_
      refine lv_iload hx hb dX2_goOn_40 (lv_at hl 7 rfl) ?_
      obtain ⟨hi2, hF⟩ := ck_some hF
      refine va_iald (D := G.1) hx hb hK hP 1 0 rfl rfl hi2 dX2_goOn_42 ?_
      refine lv_istore (lv' := [(9, .int (f_p1 l8.toNatClampNeg)), (0, .ref h), (2, .int l2), (3, .int l3), (4, .int l4), (5, .int l5), (6, .ref a_p1), (7, .int l7), (8, .int l8)]) hx hb dX2_goOn_43 hl (by decide) rfl (fun ls hl => ?_)
      refine lv_iload hx hb dX2_goOn_45 (lv_at hl 0 rfl) ?_
      refine lv_bipush (v := 100) hx hb dX2_goOn_47 (by decide) ?_
      refine lv_idiv hx hb dX2_goOn_49 (by decide) ?_
      refine lv_istore (lv' := [(10, .int ((f_p1 l8.toNatClampNeg) / 100)), (9, .int (f_p1 l8.toNatClampNeg)), (0, .ref h), (2, .int l2), (3, .int l3), (4, .int l4), (5, .int l5), (6, .ref a_p1), (7, .int l7), (8, .int l8)]) hx hb dX2_goOn_50 hl (by decide) rfl (fun ls hl => ?_)
      refine lv_iload hx hb dX2_goOn_52 (lv_at hl 1 rfl) ?_
      refine lv_bipush (v := 100) hx hb dX2_goOn_54 (by decide) ?_
      refine W.eq (g2 := F0 m 56 ls [.int 100, .int (f_p1 l8.toNatClampNeg)]) rfl ?_
      refine lv_irem hx hb dX2_goOn_56 (by decide) ?_
      refine lv_istore (lv' := [(11, .int ((f_p1 l8.toNatClampNeg) - (f_p1 l8.toNatClampNeg) / 100 * 100)), (10, .int ((f_p1 l8.toNatClampNeg) / 100)), (9, .int (f_p1 l8.toNatClampNeg)), (0, .ref h), (2, .int l2), (3, .int l3), (4, .int l4), (5, .int l5), (6, .ref a_p1), (7, .int l7), (8, .int l8)]) hx hb dX2_goOn_57 hl (by decide) rfl (fun ls hl => ?_)
      refine lv_iload hx hb dX2_goOn_59 (lv_at hl 7 rfl) ?_
      refine lv_iconst (v := 1) hx hb dX2_goOn_61 (by decide) ?_
      refine lv_iand hx hb dX2_goOn_62 ?_
      refine lv_istore (lv' := [(12, .int (l5 &&& 1)), (11, .int ((f_p1 l8.toNatClampNeg) - (f_p1 l8.toNatClampNeg) / 100 * 100)), (10, .int ((f_p1 l8.toNatClampNeg) / 100)), (9, .int (f_p1 l8.toNatClampNeg)), (0, .ref h), (2, .int l2), (3, .int l3), (4, .int l4), (5, .int l5), (6, .ref a_p1), (7, .int l7), (8, .int l8)]) hx hb dX2_goOn_63 hl (by decide) rfl (fun ls hl => ?_)
      refine lv_iload hx hb dX2_goOn_65 (lv_at hl 2 rfl) ?_
      by_cases c3 : ((f_p1 l8.toNatClampNeg) / 100) = 15
      · rw [if_pos c3] at hF
        refine lv_eqi c3 ?_
        refine lv_tableIn (tgt := 104) (off := 37) hx hb dX2_goOn_67 (by decide) (by decide) (by decide) (by decide) ?_
        refine lv_iload hx hb dX2_goOn_104 (lv_at hl 8 rfl) ?_
        refine lv_iconst (v := 1) hx hb dX2_goOn_106 (by decide) ?_
        refine lv_ixor hx hb dX2_goOn_107 ?_
        refine lv_istore (lv' := [(5, .int (l5 ^^^ 1)), (12, .int (l5 &&& 1)), (11, .int ((f_p1 l8.toNatClampNeg) - (f_p1 l8.toNatClampNeg) / 100 * 100)), (10, .int ((f_p1 l8.toNatClampNeg) / 100)), (9, .int (f_p1 l8.toNatClampNeg)), (0, .ref h), (2, .int l2), (3, .int l3), (4, .int l4), (6, .ref a_p1), (7, .int l7), (8, .int l8)]) hx hb dX2_goOn_108 hl (by decide) rfl (fun ls hl => ?_)
        refine lv_goto (tgt := 213) hx hb dX2_goOn_110 (by decide) ?_
        refine lv_iinc (v := l8 + 1) (lv' := [(8, .int (l8 + 1)), (5, .int (l5 ^^^ 1)), (12, .int (l5 &&& 1)), (11, .int ((f_p1 l8.toNatClampNeg) - (f_p1 l8.toNatClampNeg) / 100 * 100)), (10, .int ((f_p1 l8.toNatClampNeg) / 100)), (9, .int (f_p1 l8.toNatClampNeg)), (0, .ref h), (2, .int l2), (3, .int l3), (4, .int l4), (6, .ref a_p1), (7, .int l7)]) hx hb dX2_goOn_213 hl (k := 11) rfl rfl (by decide) rfl (fun ls hl => ?_)
        refine W.eq (g2 := F0 m 216 ls []) rfl ?_
        refine lv_goto (tgt := 31) hx hb dX2_goOn_216 (by decide) ?_
        exact ih _ _ _ _ _ H locs ls hP hD hS (lv_sub hl [6, 7, 8, 9, 1, 10, 11, 0] rfl) hF
      rw [if_neg c3] at hF
      by_cases c4 : ((f_p1 l8.toNatClampNeg) / 100) = 16
      · rw [if_pos c4] at hF
        refine lv_eqi c4 ?_
        refine lv_tableIn (tgt := 113) (off := 46) hx hb dX2_goOn_67 (by decide) (by decide) (by decide) (by decide) ?_
        refine lv_iload hx hb dX2_goOn_113 (lv_at hl 8 rfl) ?_
        refine lv_iconst (v := 1) hx hb dX2_goOn_115 (by decide) ?_
        refine lv_ishr hx hb dX2_goOn_116 ?_
        refine lv_iload hx hb dX2_goOn_117 (lv_at hl 0 rfl) ?_
        refine lv_bipush (v := (-2)) hx hb dX2_goOn_119 (by decide) ?_
        refine lv_ior hx hb dX2_goOn_121 ?_
        refine W.eq (g2 := F0 m 122 ls [.int ((l5 &&& 1) ||| (-2)), .int (l5 >>> (1 &&& 31))]) rfl ?_
        refine lv_iand hx hb dX2_goOn_122 ?_
        refine lv_istore (lv' := [(5, .int ((l5 >>> (1 &&& 31)) &&& ((l5 &&& 1) ||| (-2)))), (12, .int (l5 &&& 1)), (11, .int ((f_p1 l8.toNatClampNeg) - (f_p1 l8.toNatClampNeg) / 100 * 100)), (10, .int ((f_p1 l8.toNatClampNeg) / 100)), (9, .int (f_p1 l8.toNatClampNeg)), (0, .ref h), (2, .int l2), (3, .int l3), (4, .int l4), (6, .ref a_p1), (7, .int l7), (8, .int l8)]) hx hb dX2_goOn_123 hl (by decide) rfl (fun ls hl => ?_)
        refine lv_goto (tgt := 213) hx hb dX2_goOn_125 (by decide) ?_
        refine lv_iinc (v := l8 + 1) (lv' := [(8, .int (l8 + 1)), (5, .int ((l5 >>> (1 &&& 31)) &&& ((l5 &&& 1) ||| (-2)))), (12, .int (l5 &&& 1)), (11, .int ((f_p1 l8.toNatClampNeg) - (f_p1 l8.toNatClampNeg) / 100 * 100)), (10, .int ((f_p1 l8.toNatClampNeg) / 100)), (9, .int (f_p1 l8.toNatClampNeg)), (0, .ref h), (2, .int l2), (3, .int l3), (4, .int l4), (6, .ref a_p1), (7, .int l7)]) hx hb dX2_goOn_213 hl (k := 11) rfl rfl (by decide) rfl (fun ls hl => ?_)
        refine lv_goto (tgt := 31) hx hb dX2_goOn_216 (by decide) ?_
        exact ih _ _ _ _ _ H locs ls hP hD hS (lv_sub hl [6, 7, 8, 9, 1, 10, 11, 0] rfl) hF
      rw [if_neg c4] at hF
      by_cases c5 : ((f_p1 l8.toNatClampNeg) / 100) = 17
      · rw [if_pos c5] at hF
        refine lv_eqi c5 ?_
        refine lv_tableIn (tgt := 128) (off := 61) hx hb dX2_goOn_67 (by decide) (by decide) (by decide) (by decide) ?_
        refine lv_iload hx hb dX2_goOn_128 (lv_at hl 8 rfl) ?_
        refine lv_iconst (v := 1) hx hb dX2_goOn_130 (by decide) ?_
        refine lv_ishr hx hb dX2_goOn_131 ?_
        refine lv_iload hx hb dX2_goOn_132 (lv_at hl 0 rfl) ?_
        refine lv_ior hx hb dX2_goOn_134 ?_
        refine lv_istore (lv' := [(5, .int ((l5 >>> (1 &&& 31)) ||| (l5 &&& 1))), (12, .int (l5 &&& 1)), (11, .int ((f_p1 l8.toNatClampNeg) - (f_p1 l8.toNatClampNeg) / 100 * 100)), (10, .int ((f_p1 l8.toNatClampNeg) / 100)), (9, .int (f_p1 l8.toNatClampNeg)), (0, .ref h), (2, .int l2), (3, .int l3), (4, .int l4), (6, .ref a_p1), (7, .int l7), (8, .int l8)]) hx hb dX2_goOn_135 hl (by decide) rfl (fun ls hl => ?_)
        refine W.eq (g2 := F0 m 137 ls []) rfl ?_
        refine lv_goto (tgt := 213) hx hb dX2_goOn_137 (by decide) ?_
        refine lv_iinc (v := l8 + 1) (lv' := [(8, .int (l8 + 1)), (5, .int ((l5 >>> (1 &&& 31)) ||| (l5 &&& 1))), (12, .int (l5 &&& 1)), (11, .int ((f_p1 l8.toNatClampNeg) - (f_p1 l8.toNatClampNeg) / 100 * 100)), (10, .int ((f_p1 l8.toNatClampNeg) / 100)), (9, .int (f_p1 l8.toNatClampNeg)), (0, .ref h), (2, .int l2), (3, .int l3), (4, .int l4), (6, .ref a_p1), (7, .int l7)]) hx hb dX2_goOn_213 hl (k := 11) rfl rfl (by decide) rfl (fun ls hl => ?_)
        refine lv_goto (tgt := 31) hx hb dX2_goOn_216 (by decide) ?_
        exact ih _ _ _ _ _ H locs ls hP hD hS (lv_sub hl [6, 7, 8, 9, 1, 10, 11, 0] rfl) hF
      rw [if_neg c5] at hF
      by_cases c6 : ((f_p1 l8.toNatClampNeg) / 100) = 18
      · rw [if_pos c6] at hF
        refine lv_eqi c6 ?_
        refine lv_tableIn (tgt := 140) (off := 73) hx hb dX2_goOn_67 (by decide) (by decide) (by decide) (by decide) ?_
        refine lv_iload_n hx hb dX2_goOn_140 rfl (lv_at hl 5 rfl) ?_
        refine lv_iload hx hb dX2_goOn_141 (lv_at hl 1 rfl) ?_
        refine lv_iload hx hb dX2_goOn_143 (lv_at hl 0 rfl) ?_
        refine lv_imul hx hb dX2_goOn_145 ?_
        refine lv_iadd hx hb dX2_goOn_146 ?_
        refine lv_istore_n (lv' := [(2, .int (l2 + (((f_p1 l8.toNatClampNeg) - (f_p1 l8.toNatClampNeg) / 100 * 100) * (l5 &&& 1)))), (12, .int (l5 &&& 1)), (11, .int ((f_p1 l8.toNatClampNeg) - (f_p1 l8.toNatClampNeg) / 100 * 100)), (10, .int ((f_p1 l8.toNatClampNeg) / 100)), (9, .int (f_p1 l8.toNatClampNeg)), (0, .ref h), (3, .int l3), (4, .int l4), (5, .int l5), (6, .ref a_p1), (7, .int l7), (8, .int l8)]) hx hb dX2_goOn_147 rfl hl (by decide) rfl (fun ls hl => ?_)
        refine W.eq (g2 := F0 m 148 ls []) rfl ?_
        refine lv_iload hx hb dX2_goOn_148 (lv_at hl 8 rfl) ?_
        refine lv_iconst (v := 1) hx hb dX2_goOn_150 (by decide) ?_
        refine lv_ishr hx hb dX2_goOn_151 ?_
        refine lv_istore (lv' := [(5, .int (l5 >>> (1 &&& 31))), (2, .int (l2 + (((f_p1 l8.toNatClampNeg) - (f_p1 l8.toNatClampNeg) / 100 * 100) * (l5 &&& 1)))), (12, .int (l5 &&& 1)), (11, .int ((f_p1 l8.toNatClampNeg) - (f_p1 l8.toNatClampNeg) / 100 * 100)), (10, .int ((f_p1 l8.toNatClampNeg) / 100)), (9, .int (f_p1 l8.toNatClampNeg)), (0, .ref h), (3, .int l3), (4, .int l4), (6, .ref a_p1), (7, .int l7), (8, .int l8)]) hx hb dX2_goOn_152 hl (by decide) rfl (fun ls hl => ?_)
        refine lv_goto (tgt := 213) hx hb dX2_goOn_154 (by decide) ?_
        refine lv_iinc (v := l8 + 1) (lv' := [(8, .int (l8 + 1)), (5, .int (l5 >>> (1 &&& 31))), (2, .int (l2 + (((f_p1 l8.toNatClampNeg) - (f_p1 l8.toNatClampNeg) / 100 * 100) * (l5 &&& 1)))), (12, .int (l5 &&& 1)), (11, .int ((f_p1 l8.toNatClampNeg) - (f_p1 l8.toNatClampNeg) / 100 * 100)), (10, .int ((f_p1 l8.toNatClampNeg) / 100)), (9, .int (f_p1 l8.toNatClampNeg)), (0, .ref h), (3, .int l3), (4, .int l4), (6, .ref a_p1), (7, .int l7)]) hx hb dX2_goOn_213 hl (k := 11) rfl rfl (by decide) rfl (fun ls hl => ?_)
        refine lv_goto (tgt := 31) hx hb dX2_goOn_216 (by decide) ?_
        exact ih _ _ _ _ _ H locs ls hP hD hS (lv_sub hl [7, 2, 8, 9, 1, 10, 11, 0] rfl) hF
      rw [if_neg c6] at hF
      by_cases c7 : ((f_p1 l8.toNatClampNeg) / 100) = 19
      · rw [if_pos c7] at hF
        refine lv_eqi c7 ?_
        refine lv_tableIn (tgt := 157) (off := 90) hx hb dX2_goOn_67 (by decide) (by decide) (by decide) (by decide) ?_
        refine lv_iload_n hx hb dX2_goOn_157 rfl (lv_at hl 6 rfl) ?_
        refine lv_iload hx hb dX2_goOn_158 (lv_at hl 1 rfl) ?_
        refine lv_iload hx hb dX2_goOn_160 (lv_at hl 0 rfl) ?_
        refine lv_imul hx hb dX2_goOn_162 ?_
        refine lv_iadd hx hb dX2_goOn_163 ?_
        refine lv_istore_n (lv' := [(3, .int (l3 + (((f_p1 l8.toNatClampNeg) - (f_p1 l8.toNatClampNeg) / 100 * 100) * (l5 &&& 1)))), (12, .int (l5 &&& 1)), (11, .int ((f_p1 l8.toNatClampNeg) - (f_p1 l8.toNatClampNeg) / 100 * 100)), (10, .int ((f_p1 l8.toNatClampNeg) / 100)), (9, .int (f_p1 l8.toNatClampNeg)), (0, .ref h), (2, .int l2), (4, .int l4), (5, .int l5), (6, .ref a_p1), (7, .int l7), (8, .int l8)]) hx hb dX2_goOn_164 rfl hl (by decide) rfl (fun ls hl => ?_)
        refine W.eq (g2 := F0 m 165 ls []) rfl ?_
        refine lv_iload hx hb dX2_goOn_165 (lv_at hl 8 rfl) ?_
        refine lv_iconst (v := 1) hx hb dX2_goOn_167 (by decide) ?_
        refine lv_ishr hx hb dX2_goOn_168 ?_
        refine lv_istore (lv' := [(5, .int (l5 >>> (1 &&& 31))), (3, .int (l3 + (((f_p1 l8.toNatClampNeg) - (f_p1 l8.toNatClampNeg) / 100 * 100) * (l5 &&& 1)))), (12, .int (l5 &&& 1)), (11, .int ((f_p1 l8.toNatClampNeg) - (f_p1 l8.toNatClampNeg) / 100 * 100)), (10, .int ((f_p1 l8.toNatClampNeg) / 100)), (9, .int (f_p1 l8.toNatClampNeg)), (0, .ref h), (2, .int l2), (4, .int l4), (6, .ref a_p1), (7, .int l7), (8, .int l8)]) hx hb dX2_goOn_169 hl (by decide) rfl (fun ls hl => ?_)
        refine lv_goto (tgt := 213) hx hb dX2_goOn_171 (by decide) ?_
        refine lv_iinc (v := l8 + 1) (lv' := [(8, .int (l8 + 1)), (5, .int (l5 >>> (1 &&& 31))), (3, .int (l3 + (((f_p1 l8.toNatClampNeg) - (f_p1 l8.toNatClampNeg) / 100 * 100) * (l5 &&& 1)))), (12, .int (l5 &&& 1)), (11, .int ((f_p1 l8.toNatClampNeg) - (f_p1 l8.toNatClampNeg) / 100 * 100)), (10, .int ((f_p1 l8.toNatClampNeg) / 100)), (9, .int (f_p1 l8.toNatClampNeg)), (0, .ref h), (2, .int l2), (4, .int l4), (6, .ref a_p1), (7, .int l7)]) hx hb dX2_goOn_213 hl (k := 11) rfl rfl (by decide) rfl (fun ls hl => ?_)
        refine lv_goto (tgt := 31) hx hb dX2_goOn_216 (by decide) ?_
        exact ih _ _ _ _ _ H locs ls hP hD hS (lv_sub hl [7, 8, 2, 9, 1, 10, 11, 0] rfl) hF
      rw [if_neg c7] at hF
      by_cases c8 : ((f_p1 l8.toNatClampNeg) / 100) = 20
      · rw [if_pos c8] at hF
        refine lv_eqi c8 ?_
        refine lv_tableIn (tgt := 174) (off := 107) hx hb dX2_goOn_67 (by decide) (by decide) (by decide) (by decide) ?_
        refine lv_iload hx hb dX2_goOn_174 (lv_at hl 7 rfl) ?_
        refine lv_iload hx hb dX2_goOn_176 (lv_at hl 0 rfl) ?_
        refine lv_iadd hx hb dX2_goOn_178 ?_
        refine lv_istore (lv' := [(4, .int (l4 + (l5 &&& 1))), (12, .int (l5 &&& 1)), (11, .int ((f_p1 l8.toNatClampNeg) - (f_p1 l8.toNatClampNeg) / 100 * 100)), (10, .int ((f_p1 l8.toNatClampNeg) / 100)), (9, .int (f_p1 l8.toNatClampNeg)), (0, .ref h), (2, .int l2), (3, .int l3), (5, .int l5), (6, .ref a_p1), (7, .int l7), (8, .int l8)]) hx hb dX2_goOn_179 hl (by decide) rfl (fun ls hl => ?_)
        refine lv_iload hx hb dX2_goOn_181 (lv_at hl 8 rfl) ?_
        refine lv_iconst (v := 1) hx hb dX2_goOn_183 (by decide) ?_
        refine W.eq (g2 := F0 m 184 ls [.int 1, .int l5]) rfl ?_
        refine lv_ishr hx hb dX2_goOn_184 ?_
        refine lv_istore (lv' := [(5, .int (l5 >>> (1 &&& 31))), (4, .int (l4 + (l5 &&& 1))), (12, .int (l5 &&& 1)), (11, .int ((f_p1 l8.toNatClampNeg) - (f_p1 l8.toNatClampNeg) / 100 * 100)), (10, .int ((f_p1 l8.toNatClampNeg) / 100)), (9, .int (f_p1 l8.toNatClampNeg)), (0, .ref h), (2, .int l2), (3, .int l3), (6, .ref a_p1), (7, .int l7), (8, .int l8)]) hx hb dX2_goOn_185 hl (by decide) rfl (fun ls hl => ?_)
        refine lv_goto (tgt := 213) hx hb dX2_goOn_187 (by decide) ?_
        refine lv_iinc (v := l8 + 1) (lv' := [(8, .int (l8 + 1)), (5, .int (l5 >>> (1 &&& 31))), (4, .int (l4 + (l5 &&& 1))), (12, .int (l5 &&& 1)), (11, .int ((f_p1 l8.toNatClampNeg) - (f_p1 l8.toNatClampNeg) / 100 * 100)), (10, .int ((f_p1 l8.toNatClampNeg) / 100)), (9, .int (f_p1 l8.toNatClampNeg)), (0, .ref h), (2, .int l2), (3, .int l3), (6, .ref a_p1), (7, .int l7)]) hx hb dX2_goOn_213 hl (k := 11) rfl rfl (by decide) rfl (fun ls hl => ?_)
        refine lv_goto (tgt := 31) hx hb dX2_goOn_216 (by decide) ?_
        exact ih _ _ _ _ _ H locs ls hP hD hS (lv_sub hl [7, 8, 9, 2, 1, 10, 11, 0] rfl) hF
      rw [if_neg c8] at hF
      refine lv_tableOut (tgt := 190) hx hb dX2_goOn_67 (by have a0 := lv_neT (k := 15) (a := 15) c3 (by decide); have a1 := lv_neT (k := 16) (a := 16) c4 (by decide); have a2 := lv_neT (k := 17) (a := 17) c5 (by decide); have a3 := lv_neT (k := 18) (a := 18) c6 (by decide); have a4 := lv_neT (k := 19) (a := 19) c7 (by decide); have a5 := lv_neT (k := 20) (a := 20) c8 (by decide); omega) (by decide) ?_
      refine lv_iload hx hb dX2_goOn_190 (lv_at hl 8 rfl) ?_
      refine lv_iconst (v := 1) hx hb dX2_goOn_192 (by decide) ?_
      refine lv_ishl hx hb dX2_goOn_193 ?_
      refine lv_aload_n hx hb dX2_goOn_194 rfl (lv_at hl 4 rfl) ?_
      refine lv_iload hx hb dX2_goOn_195 (lv_at hl 2 rfl) ?_
      refine lv_iload hx hb dX2_goOn_197 (lv_at hl 1 rfl) ?_
      refine W.eq (g2 := F0 m 199 ls [.int ((f_p1 l8.toNatClampNeg) - (f_p1 l8.toNatClampNeg) / 100 * 100), .int ((f_p1 l8.toNatClampNeg) / 100), .ref h, .int (l5 <<< (1 &&& 31))]) rfl ?_
      obtain ⟨r9, hc10, hF⟩ := bd_some hF
      have hPc := hP.sub (ws' := [o2 h x_hand x_edge x_bend x_rise x_last x_tick x_angle x_lean]) [0] rfl
      have hDc := hD.sub (ws' := [o2 h x_hand x_edge x_bend x_rise x_last x_tick x_angle x_lean]) [0] (by decide) rfl
      have hFc := va_free (wc := [o2 h x_hand x_edge x_bend x_rise x_last x_tick x_angle x_lean]) hD hS hA [0] rfl
      have hM := c_X2_isTrue l G h x_hand x_edge x_bend x_rise x_last x_tick x_angle x_lean ((f_p1 l8.toNatClampNeg) / 100) ((f_p1 l8.toNatClampNeg) - (f_p1 l8.toNatClampNeg) / 100 * 100) r9 hc10 H.size
      refine cl_i (w1 := [o2 h x_hand x_edge x_bend x_rise x_last x_tick x_angle x_lean]) (ws' := [o2 h x_hand x_edge x_bend x_rise x_last x_tick x_angle x_lean, aI G a_p1 n_p1 f_p1]) hP hD hS hFc [0] rfl rfl rfl (va_runV (As := [.int ((f_p1 l8.toNatClampNeg) / 100), .int ((f_p1 l8.toNatClampNeg) - (f_p1 l8.toNatClampNeg) / 100 * 100)]) (rest := [.int (l5 <<< (1 &&& 31))]) ⟨hx, hb, hml, hown, hts⟩ hM (cwV 2 hts gX2_goOn_X2_isTrue rfl rfl rfl (by decide +kernel) ⟨Nat.le_of_ble_eq_true rfl, Nat.le_of_ble_eq_true rfl⟩) (cp_V hK hE hS hPc hDc hFc (va_recv hK hPc (ci := 2) (q0 := 0) rfl rfl)) rfl rfl hl.1 rfl (lv_room (Nat.le_of_ble_eq_true rfl)) dX2_goOn_199 ⟨Nat.zero_le _, Nat.zero_le _⟩) (fun H locs hP hD hS => ?_)
      refine lv_if_eq (tgt := 209) hx hb dX2_goOn_202 (by decide) (fun c11 => ?_) (fun c11 => ?_)
      · rw [if_pos c11] at hF
        refine lv_iconst (v := 0) hx hb dX2_goOn_209 (by decide) ?_
        refine lv_ior hx hb dX2_goOn_210 ?_
        refine lv_istore (lv' := [(5, .int ((l5 <<< (1 &&& 31)) ||| 0)), (12, .int (l5 &&& 1)), (11, .int ((f_p1 l8.toNatClampNeg) - (f_p1 l8.toNatClampNeg) / 100 * 100)), (10, .int ((f_p1 l8.toNatClampNeg) / 100)), (9, .int (f_p1 l8.toNatClampNeg)), (0, .ref h), (2, .int l2), (3, .int l3), (4, .int l4), (6, .ref a_p1), (7, .int l7), (8, .int l8)]) hx hb dX2_goOn_211 hl (by decide) rfl (fun ls hl => ?_)
        refine lv_iinc (v := l8 + 1) (lv' := [(8, .int (l8 + 1)), (5, .int ((l5 <<< (1 &&& 31)) ||| 0)), (12, .int (l5 &&& 1)), (11, .int ((f_p1 l8.toNatClampNeg) - (f_p1 l8.toNatClampNeg) / 100 * 100)), (10, .int ((f_p1 l8.toNatClampNeg) / 100)), (9, .int (f_p1 l8.toNatClampNeg)), (0, .ref h), (2, .int l2), (3, .int l3), (4, .int l4), (6, .ref a_p1), (7, .int l7)]) hx hb dX2_goOn_213 hl (k := 11) rfl rfl (by decide) rfl (fun ls hl => ?_)
        refine lv_goto (tgt := 31) hx hb dX2_goOn_216 (by decide) ?_
        exact ih _ _ _ _ _ H locs ls hP hD hS (lv_sub hl [6, 7, 8, 9, 1, 10, 11, 0] rfl) hF
      rw [if_neg c11] at hF
      refine lv_iconst (v := 1) hx hb dX2_goOn_205 (by decide) ?_
      refine lv_goto (tgt := 210) hx hb dX2_goOn_206 (by decide) ?_
      refine lv_ior hx hb dX2_goOn_210 ?_
      refine lv_istore (lv' := [(5, .int ((l5 <<< (1 &&& 31)) ||| 1)), (12, .int (l5 &&& 1)), (11, .int ((f_p1 l8.toNatClampNeg) - (f_p1 l8.toNatClampNeg) / 100 * 100)), (10, .int ((f_p1 l8.toNatClampNeg) / 100)), (9, .int (f_p1 l8.toNatClampNeg)), (0, .ref h), (2, .int l2), (3, .int l3), (4, .int l4), (6, .ref a_p1), (7, .int l7), (8, .int l8)]) hx hb dX2_goOn_211 hl (by decide) rfl (fun ls hl => ?_)
      refine lv_iinc (v := l8 + 1) (lv' := [(8, .int (l8 + 1)), (5, .int ((l5 <<< (1 &&& 31)) ||| 1)), (12, .int (l5 &&& 1)), (11, .int ((f_p1 l8.toNatClampNeg) - (f_p1 l8.toNatClampNeg) / 100 * 100)), (10, .int ((f_p1 l8.toNatClampNeg) / 100)), (9, .int (f_p1 l8.toNatClampNeg)), (0, .ref h), (2, .int l2), (3, .int l3), (4, .int l4), (6, .ref a_p1), (7, .int l7)]) hx hb dX2_goOn_213 hl (k := 11) rfl rfl (by decide) rfl (fun ls hl => ?_)
      refine lv_goto (tgt := 31) hx hb dX2_goOn_216 (by decide) ?_
      exact ih _ _ _ _ _ H locs ls hP hD hS (lv_sub hl [6, 7, 8, 9, 1, 10, 11, 0] rfl) hF
  have B237 : ∀ (x_tick : Int32) (x_angle : Int32) (x_lean : Int32) (l3 : Int32) (H : Heap) (locs : List Loc) (ls : Array Slot), va_P G.1 vwCl [o2 h x_hand x_edge x_bend x_rise x_last x_tick x_angle x_lean, aI G a_p1 n_p1 f_p1] H → va_D A [o2 h x_hand x_edge x_bend x_rise x_last x_tick x_angle x_lean, aI G a_p1 n_p1 f_p1] → va_S A s.heap H locs → lv_has ls 13 [(0, .ref h), (3, .int l3)] → fX2_goOn_b237 n_p1 x_hand x_edge x_bend x_rise x_tick x_angle x_lean f_p1 l3 = some (z_x_tick, z_x_angle, z_x_lean) → W p l e (rm_X2_goOn) s m args below meth c H locs 0 0 (MQ below (QV G [o2 h x_hand x_edge x_bend x_rise x_last z_x_tick z_x_angle z_x_lean, aI G a_p1 n_p1 f_p1] A) args s 0 0 A) (F0 m 237 ls []) := by
    intro x_tick x_angle x_lean l3 H locs ls hP hD hS hl hF
    unfold fX2_goOn_b237 at hF
    refine lv_aload_n hx hb dX2_goOn_237 rfl (lv_at hl 0 rfl) ?_
    refine lv_iload_n hx hb dX2_goOn_238 rfl (lv_at hl 1 rfl) ?_
    refine lv_bipush (v := 49) hx hb dX2_goOn_239 (by decide) ?_
    refine va_mmin hx hb (hml.trans hl.1.symm) hown lm_25 ms_min mi mc_min (Nat.le_of_ble_eq_true rfl) (Nat.le_of_ble_eq_true rfl) (Nat.zero_le _) (Nat.zero_le _) dX2_goOn_241 ?_
    refine va_put (D := G.1) (ci := 2) (v := .int (if 49 < l3 then 49 else l3)) (ty := .int) (C := RX2) (T := TX2) (N := 8) hx hb hts hin2 tyX2 tyX2_ok nmX2 hown hK hP hD hS 0 rfl rfl 7 (by decide) lk_31 (fun _ h9 => h9) rfl (tyX2_ok 7 (by decide)) rfl rfl (Nat.le_of_ble_eq_true rfl) dX2_goOn_244 (fun H locs hP hD hS => ?_)
    have hP : va_P G.1 vwCl [o2 h x_hand x_edge x_bend x_rise x_last x_tick x_angle (if 49 < l3 then 49 else l3), aI G a_p1 n_p1 f_p1] H := hP
    have hD : va_D A [o2 h x_hand x_edge x_bend x_rise x_last x_tick x_angle (if 49 < l3 then 49 else l3), aI G a_p1 n_p1 f_p1] := hD
    injection hF with hz
    injection hz with hq0 hz
    injection hz with hq1 hz
    subst hq0
    subst hq1
    subst hz
    exact cm_retv hx hb hr hlk hK hP hD hS dX2_goOn_247
  intro hF
  unfold fX2_goOn at hF
  refine lv_aload_n hx hb dX2_goOn_0 rfl (lv_at hl 0 rfl) ?_
  refine lv_dup hx hb dX2_goOn_1 rfl ?_
  refine va_get (D := G.1) (ci := 2) (v := .int x_tick) (C := RX2) (T := TX2) (N := 8) hx hb hts hin2 hown hK hP 0 rfl rfl 5 (by decide) lk_9 (fun _ h9 => h9) rfl dX2_goOn_2 ?_
  refine lv_iconst (v := 1) hx hb dX2_goOn_5 (by decide) ?_
  refine lv_iadd hx hb dX2_goOn_6 ?_
  refine va_put (D := G.1) (ci := 2) (v := .int (x_tick + 1)) (ty := .int) (C := RX2) (T := TX2) (N := 8) hx hb hts hin2 tyX2 tyX2_ok nmX2 hown hK hP hD hS 0 rfl rfl 5 (by decide) lk_9 (fun _ h9 => h9) rfl (tyX2_ok 5 (by decide)) rfl rfl (Nat.le_of_ble_eq_true rfl) dX2_goOn_7 (fun H locs hP hD hS => ?_)
  have hP : va_P G.1 vwCl [o2 h x_hand x_edge x_bend x_rise x_last (x_tick + 1) x_angle x_lean, aI G a_p1 n_p1 f_p1] H := hP
  have hD : va_D A [o2 h x_hand x_edge x_bend x_rise x_last (x_tick + 1) x_angle x_lean, aI G a_p1 n_p1 f_p1] := hD
  refine lv_iconst (v := 0) hx hb dX2_goOn_10 (by decide) ?_
  refine lv_istore_n (lv' := [(2, .int 0), (0, .ref h), (1, .ref a_p1)]) hx hb dX2_goOn_11 rfl hl (by decide) rfl (fun ls hl => ?_)
  refine lv_iconst (v := 0) hx hb dX2_goOn_12 (by decide) ?_
  refine lv_istore_n (lv' := [(3, .int 0), (2, .int 0), (0, .ref h), (1, .ref a_p1)]) hx hb dX2_goOn_13 rfl hl (by decide) rfl (fun ls hl => ?_)
  refine lv_iconst (v := 0) hx hb dX2_goOn_14 (by decide) ?_
  refine lv_istore (lv' := [(4, .int 0), (3, .int 0), (2, .int 0), (0, .ref h), (1, .ref a_p1)]) hx hb dX2_goOn_15 hl (by decide) rfl (fun ls hl => ?_)
  refine lv_iconst (v := 0) hx hb dX2_goOn_17 (by decide) ?_
  refine W.eq (g2 := F0 m 18 ls [.int 0]) rfl ?_
  refine lv_istore (lv' := [(5, .int 0), (4, .int 0), (3, .int 0), (2, .int 0), (0, .ref h), (1, .ref a_p1)]) hx hb dX2_goOn_18 hl (by decide) rfl (fun ls hl => ?_)
  refine lv_aload_n hx hb dX2_goOn_20 rfl (lv_at hl 5 rfl) ?_
  refine lv_astore (lv' := [(6, .ref a_p1), (5, .int 0), (4, .int 0), (3, .int 0), (2, .int 0), (0, .ref h), (1, .ref a_p1)]) hx hb dX2_goOn_21 hl (by decide) rfl (fun ls hl => ?_)
  refine lv_aload hx hb dX2_goOn_23 (lv_at hl 0 rfl) ?_
  refine va_alen (D := G.1) (v := (Int32.ofNat n_p1)) hx hb hK hP 1 0 rfl rfl rfl dX2_goOn_25 ?_
  refine lv_istore (lv' := [(7, .int (Int32.ofNat n_p1)), (6, .ref a_p1), (5, .int 0), (4, .int 0), (3, .int 0), (2, .int 0), (0, .ref h), (1, .ref a_p1)]) hx hb dX2_goOn_26 hl (by decide) rfl (fun ls hl => ?_)
  refine lv_iconst (v := 0) hx hb dX2_goOn_28 (by decide) ?_
  refine lv_istore (lv' := [(8, .int 0), (7, .int (Int32.ofNat n_p1)), (6, .ref a_p1), (5, .int 0), (4, .int 0), (3, .int 0), (2, .int 0), (0, .ref h), (1, .ref a_p1)]) hx hb dX2_goOn_29 hl (by decide) rfl (fun ls hl => ?_)
  refine LP31 _ _ _ _ _ (fun l2_12 l3_13 l4_14 H locs ls hP hD hS hl hF => ?_) _ _ _ _ _ _ H locs ls hP hD hS (lv_sub hl [7, 6, 5, 4, 3, 2, 1, 0] rfl) hF
  refine lv_iload hx hb dX2_goOn_219 (lv_at hl 3 rfl) ?_
  refine lv_if_ne (tgt := 237) hx hb dX2_goOn_221 (by decide) (fun c15 => ?_) (fun c15 => ?_)
  · rw [if_neg c15] at hF
    exact B237 _ _ _ _ H locs ls hP hD hS (lv_sub hl [0, 2] rfl) hF
  rw [if_pos c15] at hF
  refine lv_aload_n hx hb dX2_goOn_224 rfl (lv_at hl 0 rfl) ?_
  refine lv_aload_n hx hb dX2_goOn_225 rfl (lv_at hl 0 rfl) ?_
  refine va_get (D := G.1) (ci := 2) (v := .int x_angle) (C := RX2) (T := TX2) (N := 8) hx hb hts hin2 hown hK hP 0 rfl rfl 6 (by decide) lk_22 (fun _ h9 => h9) rfl dX2_goOn_226 ?_
  refine lv_iload_n hx hb dX2_goOn_229 rfl (lv_at hl 1 rfl) ?_
  refine W.eq (g2 := F0 m 230 ls [.int l2_12, .int x_angle, .ref h]) rfl ?_
  refine lv_iadd hx hb dX2_goOn_230 ?_
  refine lv_bipush (v := 100) hx hb dX2_goOn_231 (by decide) ?_
  refine lv_irem hx hb dX2_goOn_233 (by decide) ?_
  refine va_put (D := G.1) (ci := 2) (v := .int ((x_angle + l2_12) - (x_angle + l2_12) / 100 * 100)) (ty := .int) (C := RX2) (T := TX2) (N := 8) hx hb hts hin2 tyX2 tyX2_ok nmX2 hown hK hP hD hS 0 rfl rfl 6 (by decide) lk_22 (fun _ h9 => h9) rfl (tyX2_ok 6 (by decide)) rfl rfl (Nat.le_of_ble_eq_true rfl) dX2_goOn_234 (fun H locs hP hD hS => ?_)
  have hP : va_P G.1 vwCl [o2 h x_hand x_edge x_bend x_rise x_last (x_tick + 1) ((x_angle + l2_12) - (x_angle + l2_12) / 100 * 100) x_lean, aI G a_p1 n_p1 f_p1] H := hP
  have hD : va_D A [o2 h x_hand x_edge x_bend x_rise x_last (x_tick + 1) ((x_angle + l2_12) - (x_angle + l2_12) / 100 * 100) x_lean, aI G a_p1 n_p1 f_p1] := hD
  exact B237 _ _ _ _ H locs ls hP hD hS (lv_sub hl [0, 2] rfl) hF
