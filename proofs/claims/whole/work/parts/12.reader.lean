/-! HeadsByHair$Reader.nextByte()I -/
abbrev rm_X3_nextByte : Room := { frames := 0, cells := 0, slots := 0, locals := 0 }
set_option maxHeartbeats 4000000 in
set_option maxRecDepth 100000 in
theorem c_X3_nextByte (l : Launch) (G : GG) (h a_text a_steps : Nat) (x_size x_place x_stepCount x_number x_caught : Int32) (f_text : Nat → Int32) (z : Int32) (hF : fX3_nextByte x_size x_place f_text = some (z)) : CMi l yX3_nextByte wsX3_nextByte rm_X3_nextByte G [o3 h a_text a_steps x_size x_place x_stepCount x_number x_caught, aI G a_text 120 f_text] [o3 h a_text a_steps x_size x_place x_stepCount x_number x_caught, aI G a_text 120 f_text] [.ref h] z := by
  refine cm_start (cc := cX3_nextByte) (maxL := 1) (ret := (some .int)) (Qc := fun A => QI G [o3 h a_text a_steps x_size x_place x_stepCount x_number x_caught, aI G a_text 120 f_text] z A) (by decide +kernel) rfl (Nat.le_of_ble_eq_true rfl) ?_
  intro p e s m args below meth c A hx hb hr hlk hml hown hnm hts hA H locs hP hK hD hE hS ls hl
  have hown : s.vm.findClass RX3 = some m.cls := hown
  have hl : lv_has ls 1 [(0, .ref h)] := hl
  have hin3 : ∀ w ∈ wsX30, w ∈ wsX3_nextByte := by decide +kernel
  have lk_28 := hts (.fieldLink RX3 28 "HeadsByHair$Reader" "place" "I") (by decide +kernel)
  have lk_24 := hts (.fieldLink RX3 24 "HeadsByHair$Reader" "size" "I") (by decide +kernel)
  have lk_9 := hts (.fieldLink RX3 9 "HeadsByHair$Reader" "text" "[I") (by decide +kernel)
  revert hF
  intro hF
  unfold fX3_nextByte at hF
  refine lv_aload_n hx hb dX3_nextByte_0 rfl (lv_at hl 0 rfl) ?_
  refine va_get (D := G.1) (ci := 3) (v := .int x_place) (C := RX3) (T := TX3) (N := 7) hx hb hts hin3 hown hK hP 0 rfl rfl 3 (by decide) lk_28 (fun _ h9 => h9) rfl dX3_nextByte_1 ?_
  refine lv_aload_n hx hb dX3_nextByte_4 rfl (lv_at hl 0 rfl) ?_
  refine va_get (D := G.1) (ci := 3) (v := .int x_size) (C := RX3) (T := TX3) (N := 7) hx hb hts hin3 hown hK hP 0 rfl rfl 2 (by decide) lk_24 (fun _ h9 => h9) rfl dX3_nextByte_5 ?_
  refine lv_icmp_ge (tgt := 23) hx hb dX3_nextByte_8 (by decide) (fun c1 => ?_) (fun c1 => ?_)
  · rw [if_pos c1] at hF
    refine lv_iconst (v := 0) hx hb dX3_nextByte_23 (by decide) ?_
    injection hF with hz
    subst hz
    exact cm_reti hx hb hr rfl hlk hK hP hD hS dX3_nextByte_24
  rw [if_neg c1] at hF
  refine lv_aload_n hx hb dX3_nextByte_11 rfl (lv_at hl 0 rfl) ?_
  refine va_get (D := G.1) (ci := 3) (v := .ref a_text) (C := RX3) (T := TX3) (N := 7) hx hb hts hin3 hown hK hP 0 rfl rfl 0 (by decide) lk_9 (fun _ h9 => h9) rfl dX3_nextByte_12 ?_
  refine lv_aload_n hx hb dX3_nextByte_15 rfl (lv_at hl 0 rfl) ?_
  refine va_get (D := G.1) (ci := 3) (v := .int x_place) (C := RX3) (T := TX3) (N := 7) hx hb hts hin3 hown hK hP 0 rfl rfl 3 (by decide) lk_28 (fun _ h9 => h9) rfl dX3_nextByte_16 ?_
  obtain ⟨hi2, hF⟩ := ck_some hF
  refine va_iald (D := G.1) hx hb hK hP 1 0 rfl rfl hi2 dX3_nextByte_19 ?_
  refine lv_goto (tgt := 24) hx hb dX3_nextByte_20 (by decide) ?_
  injection hF with hz
  subst hz
  exact cm_reti hx hb hr rfl hlk hK hP hD hS dX3_nextByte_24

/-! HeadsByHair$Reader.passes(C)Z -/
abbrev rm_X3_passes : Room := { frames := 1, cells := 0, slots := 0, locals := 20 }
set_option maxHeartbeats 4000000 in
set_option maxRecDepth 100000 in
theorem c_X3_passes (l : Launch) (G : GG) (h a_text a_steps : Nat) (x_size x_place x_stepCount x_number x_caught : Int32) (f_text : Nat → Int32) (l1 : Int32) (z : Int32) (z_x_place : Int32) (hF : fX3_passes x_size x_place f_text l1 = some (z, z_x_place)) : CMi l yX3_passes wsX3_passes rm_X3_passes G [o3 h a_text a_steps x_size x_place x_stepCount x_number x_caught, aI G a_text 120 f_text] [o3 h a_text a_steps x_size z_x_place x_stepCount x_number x_caught, aI G a_text 120 f_text] [.ref h, .int l1] z := by
  refine cm_start (cc := cX3_passes) (maxL := 2) (ret := (some .boolean)) (Qc := fun A => QI G [o3 h a_text a_steps x_size z_x_place x_stepCount x_number x_caught, aI G a_text 120 f_text] z A) (by decide +kernel) rfl (Nat.le_of_ble_eq_true rfl) ?_
  intro p e s m args below meth c A hx hb hr hlk hml hown hnm hts hA H locs hP hK hD hE hS ls hl
  have hown : s.vm.findClass RX3 = some m.cls := hown
  have hl : lv_has ls 2 [(0, .ref h), (1, .int l1)] := hl
  have hin3 : ∀ w ∈ wsX30, w ∈ wsX3_passes := by decide +kernel
  have lk_28 := hts (.fieldLink RX3 28 "HeadsByHair$Reader" "place" "I") (by decide +kernel)
  revert hF
  intro hF
  unfold fX3_passes at hF
  refine lv_aload_n hx hb dX3_passes_0 rfl (lv_at hl 0 rfl) ?_
  obtain ⟨r1, hc2, hF⟩ := bd_some hF
  have hPc := hP.sub (ws' := [o3 h a_text a_steps x_size x_place x_stepCount x_number x_caught, aI G a_text 120 f_text]) [0, 1] rfl
  have hDc := hD.sub (ws' := [o3 h a_text a_steps x_size x_place x_stepCount x_number x_caught, aI G a_text 120 f_text]) [0, 1] (by decide) rfl
  have hFc := va_free (wc := [o3 h a_text a_steps x_size x_place x_stepCount x_number x_caught, aI G a_text 120 f_text]) hD hS hA [0, 1] rfl
  have hM := c_X3_nextByte l G h a_text a_steps x_size x_place x_stepCount x_number x_caught f_text r1 hc2 H.size
  refine cl_i (w1 := [o3 h a_text a_steps x_size x_place x_stepCount x_number x_caught, aI G a_text 120 f_text]) (ws' := [o3 h a_text a_steps x_size x_place x_stepCount x_number x_caught, aI G a_text 120 f_text]) hP hD hS hFc [0, 1] rfl rfl rfl (va_runV (As := []) (rest := []) ⟨hx, hb, hml, hown, hts⟩ hM (cwV 0 hts gX3_passes_X3_nextByte rfl rfl rfl (by decide +kernel) ⟨Nat.le_of_ble_eq_true rfl, Nat.le_of_ble_eq_true rfl⟩) (cp_V hK hE hS hPc hDc hFc (va_recv hK hPc (ci := 3) (q0 := 0) rfl rfl)) rfl rfl hl.1 rfl (lv_room (Nat.le_of_ble_eq_true rfl)) dX3_passes_1 ⟨Nat.zero_le _, Nat.zero_le _⟩) (fun H locs hP hD hS => ?_)
  refine lv_iload_n hx hb dX3_passes_4 rfl (lv_at hl 1 rfl) ?_
  refine lv_icmp_eq (tgt := 10) hx hb dX3_passes_5 (by decide) (fun c3 => ?_) (fun c3 => ?_)
  · rw [if_pos c3] at hF
    refine lv_aload_n hx hb dX3_passes_10 rfl (lv_at hl 0 rfl) ?_
    refine lv_dup hx hb dX3_passes_11 rfl ?_
    refine va_get (D := G.1) (ci := 3) (v := .int x_place) (C := RX3) (T := TX3) (N := 7) hx hb hts hin3 hown hK hP 0 rfl rfl 3 (by decide) lk_28 (fun _ h9 => h9) rfl dX3_passes_12 ?_
    refine lv_iconst (v := 1) hx hb dX3_passes_15 (by decide) ?_
    refine lv_iadd hx hb dX3_passes_16 ?_
    refine va_put (D := G.1) (ci := 3) (v := .int (x_place + 1)) (ty := .int) (C := RX3) (T := TX3) (N := 7) hx hb hts hin3 tyX3 tyX3_ok nmX3 hown hK hP hD hS 0 rfl rfl 3 (by decide) lk_28 (fun _ h9 => h9) rfl (tyX3_ok 3 (by decide)) rfl rfl (Nat.le_of_ble_eq_true rfl) dX3_passes_17 (fun H locs hP hD hS => ?_)
    have hP : va_P G.1 vwCl [o3 h a_text a_steps x_size (x_place + 1) x_stepCount x_number x_caught, aI G a_text 120 f_text] H := hP
    have hD : va_D A [o3 h a_text a_steps x_size (x_place + 1) x_stepCount x_number x_caught, aI G a_text 120 f_text] := hD
    refine lv_iconst (v := 1) hx hb dX3_passes_20 (by decide) ?_
    injection hF with hz
    injection hz with hq0 hz
    subst hq0
    subst hz
    exact cm_reti hx hb hr (by decide) hlk hK hP hD hS dX3_passes_21
  rw [if_neg c3] at hF
  refine lv_iconst (v := 0) hx hb dX3_passes_8 (by decide) ?_
  injection hF with hz
  injection hz with hq0 hz
  subst hq0
  subst hz
  exact cm_reti hx hb hr (by decide) hlk hK hP hD hS dX3_passes_9

/-! HeadsByHair$Reader.adds(II)Z -/
abbrev rm_X3_adds : Room := { frames := 0, cells := 0, slots := 0, locals := 0 }
set_option maxHeartbeats 4000000 in
set_option maxRecDepth 100000 in
theorem c_X3_adds (l : Launch) (G : GG) (h a_text a_steps : Nat) (x_size x_place x_stepCount x_number x_caught : Int32) (f_steps : Nat → Int32) (l1 : Int32) (l2 : Int32) (z : Int32) (z_x_stepCount : Int32) (z_f_steps : Nat → Int32) (hF : fX3_adds x_stepCount f_steps l1 l2 = some (z, z_x_stepCount, z_f_steps)) : CMi l yX3_adds wsX3_adds rm_X3_adds G [o3 h a_text a_steps x_size x_place x_stepCount x_number x_caught, aI G a_steps 120 f_steps] [o3 h a_text a_steps x_size x_place z_x_stepCount x_number x_caught, aI G a_steps 120 z_f_steps] [.ref h, .int l1, .int l2] z := by
  refine cm_start (cc := cX3_adds) (maxL := 3) (ret := (some .boolean)) (Qc := fun A => QI G [o3 h a_text a_steps x_size x_place z_x_stepCount x_number x_caught, aI G a_steps 120 z_f_steps] z A) (by decide +kernel) rfl (Nat.le_of_ble_eq_true rfl) ?_
  intro p e s m args below meth c A hx hb hr hlk hml hown hnm hts hA H locs hP hK hD hE hS ls hl
  have hown : s.vm.findClass RX3 = some m.cls := hown
  have hl : lv_has ls 3 [(0, .ref h), (1, .int l1), (2, .int l2)] := hl
  have hin3 : ∀ w ∈ wsX30, w ∈ wsX3_adds := by decide +kernel
  have lk_31 := hts (.fieldLink RX3 31 "HeadsByHair$Reader" "stepCount" "I") (by decide +kernel)
  have lk_15 := hts (.fieldLink RX3 15 "HeadsByHair$Reader" "steps" "[I") (by decide +kernel)
  revert hF
  intro hF
  unfold fX3_adds at hF
  refine lv_aload_n hx hb dX3_adds_0 rfl (lv_at hl 0 rfl) ?_
  refine va_get (D := G.1) (ci := 3) (v := .int x_stepCount) (C := RX3) (T := TX3) (N := 7) hx hb hts hin3 hown hK hP 0 rfl rfl 4 (by decide) lk_31 (fun _ h9 => h9) rfl dX3_adds_1 ?_
  refine lv_bipush (v := 120) hx hb dX3_adds_4 (by decide) ?_
  refine lv_icmp_lt (tgt := 11) hx hb dX3_adds_6 (by decide) (fun c1 => ?_) (fun c1 => ?_)
  · rw [if_pos c1] at hF
    refine lv_aload_n hx hb dX3_adds_11 rfl (lv_at hl 0 rfl) ?_
    refine va_get (D := G.1) (ci := 3) (v := .ref a_steps) (C := RX3) (T := TX3) (N := 7) hx hb hts hin3 hown hK hP 0 rfl rfl 1 (by decide) lk_15 (fun _ h9 => h9) rfl dX3_adds_12 ?_
    refine lv_aload_n hx hb dX3_adds_15 rfl (lv_at hl 0 rfl) ?_
    refine va_get (D := G.1) (ci := 3) (v := .int x_stepCount) (C := RX3) (T := TX3) (N := 7) hx hb hts hin3 hown hK hP 0 rfl rfl 4 (by decide) lk_31 (fun _ h9 => h9) rfl dX3_adds_16 ?_
    refine lv_iload_n hx hb dX3_adds_19 rfl (lv_at hl 1 rfl) ?_
    refine lv_bipush (v := 100) hx hb dX3_adds_20 (by decide) ?_
    refine lv_imul hx hb dX3_adds_22 ?_
    refine lv_iload_n hx hb dX3_adds_23 rfl (lv_at hl 2 rfl) ?_
    refine lv_iadd hx hb dX3_adds_24 ?_
    refine W.eq (g2 := F0 m 25 ls [.int ((l1 * 100) + l2), .int x_stepCount, .ref a_steps]) rfl ?_
    obtain ⟨hi2, hF⟩ := ck_some hF
    refine va_iast (D := G.1) hx hb hK hP hD hS 1 0 rfl rfl hi2 dX3_adds_25 (fun H locs hP hD hS => ?_)
    have hP : va_P G.1 vwCl [o3 h a_text a_steps x_size x_place x_stepCount x_number x_caught, aI G a_steps 120 (upd f_steps x_stepCount.toNatClampNeg ((l1 * 100) + l2))] H := hP
    have hD : va_D A [o3 h a_text a_steps x_size x_place x_stepCount x_number x_caught, aI G a_steps 120 (upd f_steps x_stepCount.toNatClampNeg ((l1 * 100) + l2))] := hD
    refine lv_aload_n hx hb dX3_adds_26 rfl (lv_at hl 0 rfl) ?_
    refine lv_dup hx hb dX3_adds_27 rfl ?_
    refine va_get (D := G.1) (ci := 3) (v := .int x_stepCount) (C := RX3) (T := TX3) (N := 7) hx hb hts hin3 hown hK hP 0 rfl rfl 4 (by decide) lk_31 (fun _ h9 => h9) rfl dX3_adds_28 ?_
    refine lv_iconst (v := 1) hx hb dX3_adds_31 (by decide) ?_
    refine lv_iadd hx hb dX3_adds_32 ?_
    refine va_put (D := G.1) (ci := 3) (v := .int (x_stepCount + 1)) (ty := .int) (C := RX3) (T := TX3) (N := 7) hx hb hts hin3 tyX3 tyX3_ok nmX3 hown hK hP hD hS 0 rfl rfl 4 (by decide) lk_31 (fun _ h9 => h9) rfl (tyX3_ok 4 (by decide)) rfl rfl (Nat.le_of_ble_eq_true rfl) dX3_adds_33 (fun H locs hP hD hS => ?_)
    have hP : va_P G.1 vwCl [o3 h a_text a_steps x_size x_place (x_stepCount + 1) x_number x_caught, aI G a_steps 120 (upd f_steps x_stepCount.toNatClampNeg ((l1 * 100) + l2))] H := hP
    have hD : va_D A [o3 h a_text a_steps x_size x_place (x_stepCount + 1) x_number x_caught, aI G a_steps 120 (upd f_steps x_stepCount.toNatClampNeg ((l1 * 100) + l2))] := hD
    refine lv_iconst (v := 1) hx hb dX3_adds_36 (by decide) ?_
    injection hF with hz
    injection hz with hq0 hz
    injection hz with hq1 hz
    subst hq0
    subst hq1
    subst hz
    exact cm_reti hx hb hr (by decide) hlk hK hP hD hS dX3_adds_37
  rw [if_neg c1] at hF
  refine lv_iconst (v := 0) hx hb dX3_adds_9 (by decide) ?_
  injection hF with hz
  injection hz with hq0 hz
  injection hz with hq1 hz
  subst hq0
  subst hq1
  subst hz
  exact cm_reti hx hb hr (by decide) hlk hK hP hD hS dX3_adds_10

/-! HeadsByHair$Reader.readsNumber()Z -/
abbrev rm_X3_readsNumber : Room := { frames := 1, cells := 0, slots := 0, locals := 22 }
set_option maxHeartbeats 4000000 in
set_option maxRecDepth 100000 in
theorem c_X3_readsNumber (l : Launch) (G : GG) (h a_text a_steps : Nat) (x_size x_place x_stepCount x_number x_caught : Int32) (f_text : Nat → Int32) (z : Int32) (z_x_place : Int32) (z_x_number : Int32) (hF : fX3_readsNumber x_size x_place x_number f_text = some (z, z_x_place, z_x_number)) : CMi l yX3_readsNumber wsX3_readsNumber rm_X3_readsNumber G [o3 h a_text a_steps x_size x_place x_stepCount x_number x_caught, aI G a_text 120 f_text] [o3 h a_text a_steps x_size z_x_place x_stepCount z_x_number x_caught, aI G a_text 120 f_text] [.ref h] z := by
  refine cm_start (cc := cX3_readsNumber) (maxL := 3) (ret := (some .boolean)) (Qc := fun A => QI G [o3 h a_text a_steps x_size z_x_place x_stepCount z_x_number x_caught, aI G a_text 120 f_text] z A) (by decide +kernel) rfl (Nat.le_of_ble_eq_true rfl) ?_
  intro p e s m args below meth c A hx hb hr hlk hml hown hnm hts hA H locs hP hK hD hE hS ls hl
  have hown : s.vm.findClass RX3 = some m.cls := hown
  have hl : lv_has ls 3 [(0, .ref h)] := hl
  have hin3 : ∀ w ∈ wsX30, w ∈ wsX3_readsNumber := by decide +kernel
  have lk_28 := hts (.fieldLink RX3 28 "HeadsByHair$Reader" "place" "I") (by decide +kernel)
  have lk_64 := hts (.fieldLink RX3 64 "HeadsByHair$Reader" "number" "I") (by decide +kernel)
  revert hF
  intro hF
  unfold fX3_readsNumber at hF
  refine lv_aload_n hx hb dX3_readsNumber_0 rfl (lv_at hl 0 rfl) ?_
  obtain ⟨r1, hc2, hF⟩ := bd_some hF
  have hPc := hP.sub (ws' := [o3 h a_text a_steps x_size x_place x_stepCount x_number x_caught, aI G a_text 120 f_text]) [0, 1] rfl
  have hDc := hD.sub (ws' := [o3 h a_text a_steps x_size x_place x_stepCount x_number x_caught, aI G a_text 120 f_text]) [0, 1] (by decide) rfl
  have hFc := va_free (wc := [o3 h a_text a_steps x_size x_place x_stepCount x_number x_caught, aI G a_text 120 f_text]) hD hS hA [0, 1] rfl
  have hM := c_X3_nextByte l G h a_text a_steps x_size x_place x_stepCount x_number x_caught f_text r1 hc2 H.size
  refine cl_i (w1 := [o3 h a_text a_steps x_size x_place x_stepCount x_number x_caught, aI G a_text 120 f_text]) (ws' := [o3 h a_text a_steps x_size x_place x_stepCount x_number x_caught, aI G a_text 120 f_text]) hP hD hS hFc [0, 1] rfl rfl rfl (va_runV (As := []) (rest := []) ⟨hx, hb, hml, hown, hts⟩ hM (cwV 0 hts gX3_readsNumber_X3_nextByte rfl rfl rfl (by decide +kernel) ⟨Nat.le_of_ble_eq_true rfl, Nat.le_of_ble_eq_true rfl⟩) (cp_V hK hE hS hPc hDc hFc (va_recv hK hPc (ci := 3) (q0 := 0) rfl rfl)) rfl rfl hl.1 rfl (lv_room (Nat.le_of_ble_eq_true rfl)) dX3_readsNumber_1 ⟨Nat.zero_le _, Nat.zero_le _⟩) (fun H locs hP hD hS => ?_)
  refine lv_bipush (v := 48) hx hb dX3_readsNumber_4 (by decide) ?_
  refine lv_isub hx hb dX3_readsNumber_6 ?_
  refine lv_istore_n (lv' := [(1, .int (r1 - 48)), (0, .ref h)]) hx hb dX3_readsNumber_7 rfl hl (by decide) rfl (fun ls hl => ?_)
  refine lv_iload_n hx hb dX3_readsNumber_8 rfl (lv_at hl 0 rfl) ?_
  refine lv_iconst (v := 0) hx hb dX3_readsNumber_9 (by decide) ?_
  refine lv_bipush (v := 9) hx hb dX3_readsNumber_10 (by decide) ?_
  obtain ⟨r3, hc4, hF⟩ := bd_some hF
  have hPc := hP.sub (ws' := []) [] rfl
  have hDc := hD.sub (ws' := []) [] (by decide) rfl
  have hFc := va_free (wc := []) hD hS hA [] rfl
  have hM := c_X11_isWithin l G (r1 - 48) (0 : Int32) (9 : Int32) r3 hc4 H.size
  refine cl_i (w1 := []) (ws' := [o3 h a_text a_steps x_size x_place x_stepCount x_number x_caught, aI G a_text 120 f_text]) hP hD hS hFc [] rfl rfl rfl (va_runSN (As := [.int (r1 - 48), .int 0, .int 9]) (rest := []) ⟨hx, hb, hml, hown, hts⟩ hM ⟨va_cnB 3 hts gX3_readsNumber_X11_isWithin_n91 rfl rfl rfl (hE.nw (.methodLinkNest RX3 91 yX11_isWithin "HeadsByHair") (by decide +kernel)) (hts (.initialized RX11) (by decide +kernel)) (by decide +kernel) ⟨Nat.le_of_ble_eq_true rfl, Nat.le_of_ble_eq_true rfl⟩, hts (.static yX11_isWithin) (by decide +kernel), trivial⟩ (cp_S hK hE hS hPc hDc hFc) rfl rfl hl.1 rfl (lv_room (Nat.le_of_ble_eq_true rfl)) dX3_readsNumber_12 ⟨Nat.zero_le _, Nat.zero_le _⟩) (fun H locs hP hD hS => ?_)
  refine lv_if_ne (tgt := 20) hx hb dX3_readsNumber_15 (by decide) (fun c5 => ?_) (fun c5 => ?_)
  · rw [if_neg c5] at hF
    refine lv_aload_n hx hb dX3_readsNumber_20 rfl (lv_at hl 1 rfl) ?_
    refine lv_dup hx hb dX3_readsNumber_21 rfl ?_
    refine va_get (D := G.1) (ci := 3) (v := .int x_place) (C := RX3) (T := TX3) (N := 7) hx hb hts hin3 hown hK hP 0 rfl rfl 3 (by decide) lk_28 (fun _ h9 => h9) rfl dX3_readsNumber_22 ?_
    refine W.eq (g2 := F0 m 25 ls [.int x_place, .ref h]) rfl ?_
    refine lv_iconst (v := 1) hx hb dX3_readsNumber_25 (by decide) ?_
    refine lv_iadd hx hb dX3_readsNumber_26 ?_
    refine va_put (D := G.1) (ci := 3) (v := .int (x_place + 1)) (ty := .int) (C := RX3) (T := TX3) (N := 7) hx hb hts hin3 tyX3 tyX3_ok nmX3 hown hK hP hD hS 0 rfl rfl 3 (by decide) lk_28 (fun _ h9 => h9) rfl (tyX3_ok 3 (by decide)) rfl rfl (Nat.le_of_ble_eq_true rfl) dX3_readsNumber_27 (fun H locs hP hD hS => ?_)
    have hP : va_P G.1 vwCl [o3 h a_text a_steps x_size (x_place + 1) x_stepCount x_number x_caught, aI G a_text 120 f_text] H := hP
    have hD : va_D A [o3 h a_text a_steps x_size (x_place + 1) x_stepCount x_number x_caught, aI G a_text 120 f_text] := hD
    refine lv_aload_n hx hb dX3_readsNumber_30 rfl (lv_at hl 1 rfl) ?_
    refine lv_iload_n hx hb dX3_readsNumber_31 rfl (lv_at hl 0 rfl) ?_
    refine va_put (D := G.1) (ci := 3) (v := .int (r1 - 48)) (ty := .int) (C := RX3) (T := TX3) (N := 7) hx hb hts hin3 tyX3 tyX3_ok nmX3 hown hK hP hD hS 0 rfl rfl 5 (by decide) lk_64 (fun _ h9 => h9) rfl (tyX3_ok 5 (by decide)) rfl rfl (Nat.le_of_ble_eq_true rfl) dX3_readsNumber_32 (fun H locs hP hD hS => ?_)
    have hP : va_P G.1 vwCl [o3 h a_text a_steps x_size (x_place + 1) x_stepCount (r1 - 48) x_caught, aI G a_text 120 f_text] H := hP
    have hD : va_D A [o3 h a_text a_steps x_size (x_place + 1) x_stepCount (r1 - 48) x_caught, aI G a_text 120 f_text] := hD
    refine lv_aload_n hx hb dX3_readsNumber_35 rfl (lv_at hl 1 rfl) ?_
    obtain ⟨r6, hc7, hF⟩ := bd_some hF
    have hPc := hP.sub (ws' := [o3 h a_text a_steps x_size (x_place + 1) x_stepCount (r1 - 48) x_caught, aI G a_text 120 f_text]) [0, 1] rfl
    have hDc := hD.sub (ws' := [o3 h a_text a_steps x_size (x_place + 1) x_stepCount (r1 - 48) x_caught, aI G a_text 120 f_text]) [0, 1] (by decide) rfl
    have hFc := va_free (wc := [o3 h a_text a_steps x_size (x_place + 1) x_stepCount (r1 - 48) x_caught, aI G a_text 120 f_text]) hD hS hA [0, 1] rfl
    have hM := c_X3_nextByte l G h a_text a_steps x_size (x_place + 1) x_stepCount (r1 - 48) x_caught f_text r6 hc7 H.size
    refine cl_i (w1 := [o3 h a_text a_steps x_size (x_place + 1) x_stepCount (r1 - 48) x_caught, aI G a_text 120 f_text]) (ws' := [o3 h a_text a_steps x_size (x_place + 1) x_stepCount (r1 - 48) x_caught, aI G a_text 120 f_text]) hP hD hS hFc [0, 1] rfl rfl rfl (va_runV (As := []) (rest := []) ⟨hx, hb, hml, hown, hts⟩ hM (cwV 0 hts gX3_readsNumber_X3_nextByte rfl rfl rfl (by decide +kernel) ⟨Nat.le_of_ble_eq_true rfl, Nat.le_of_ble_eq_true rfl⟩) (cp_V hK hE hS hPc hDc hFc (va_recv hK hPc (ci := 3) (q0 := 0) rfl rfl)) rfl rfl hl.1 rfl (lv_room (Nat.le_of_ble_eq_true rfl)) dX3_readsNumber_36 ⟨Nat.zero_le _, Nat.zero_le _⟩) (fun H locs hP hD hS => ?_)
    refine lv_bipush (v := 48) hx hb dX3_readsNumber_39 (by decide) ?_
    refine lv_isub hx hb dX3_readsNumber_41 ?_
    refine lv_istore_n (lv' := [(2, .int (r6 - 48)), (1, .int (r1 - 48)), (0, .ref h)]) hx hb dX3_readsNumber_42 rfl hl (by decide) rfl (fun ls hl => ?_)
    refine lv_iload_n hx hb dX3_readsNumber_43 rfl (lv_at hl 1 rfl) ?_
    refine lv_if_le (tgt := 77) hx hb dX3_readsNumber_44 (by decide) (fun c8 => ?_) (fun c8 => ?_)
    · rw [if_pos c8] at hF
      refine lv_iconst (v := 1) hx hb dX3_readsNumber_77 (by decide) ?_
      refine W.eq (g2 := F0 m 78 ls [.int 1]) rfl ?_
      injection hF with hz
      injection hz with hq0 hz
      injection hz with hq1 hz
      subst hq0
      subst hq1
      subst hz
      exact cm_reti hx hb hr (by decide) hlk hK hP hD hS dX3_readsNumber_78
    rw [if_neg c8] at hF
    refine lv_iload_n hx hb dX3_readsNumber_47 rfl (lv_at hl 0 rfl) ?_
    refine W.eq (g2 := F0 m 48 ls [.int (r6 - 48)]) rfl ?_
    refine lv_iconst (v := 0) hx hb dX3_readsNumber_48 (by decide) ?_
    refine lv_bipush (v := 9) hx hb dX3_readsNumber_49 (by decide) ?_
    obtain ⟨r9, hc10, hF⟩ := bd_some hF
    have hPc := hP.sub (ws' := []) [] rfl
    have hDc := hD.sub (ws' := []) [] (by decide) rfl
    have hFc := va_free (wc := []) hD hS hA [] rfl
    have hM := c_X11_isWithin l G (r6 - 48) (0 : Int32) (9 : Int32) r9 hc10 H.size
    refine cl_i (w1 := []) (ws' := [o3 h a_text a_steps x_size (x_place + 1) x_stepCount (r1 - 48) x_caught, aI G a_text 120 f_text]) hP hD hS hFc [] rfl rfl rfl (va_runSN (As := [.int (r6 - 48), .int 0, .int 9]) (rest := []) ⟨hx, hb, hml, hown, hts⟩ hM ⟨va_cnB 3 hts gX3_readsNumber_X11_isWithin_n91 rfl rfl rfl (hE.nw (.methodLinkNest RX3 91 yX11_isWithin "HeadsByHair") (by decide +kernel)) (hts (.initialized RX11) (by decide +kernel)) (by decide +kernel) ⟨Nat.le_of_ble_eq_true rfl, Nat.le_of_ble_eq_true rfl⟩, hts (.static yX11_isWithin) (by decide +kernel), trivial⟩ (cp_S hK hE hS hPc hDc hFc) rfl rfl hl.1 rfl (lv_room (Nat.le_of_ble_eq_true rfl)) dX3_readsNumber_51 ⟨Nat.zero_le _, Nat.zero_le _⟩) (fun H locs hP hD hS => ?_)
    refine lv_if_eq (tgt := 77) hx hb dX3_readsNumber_54 (by decide) (fun c11 => ?_) (fun c11 => ?_)
    · rw [if_pos c11] at hF
      refine lv_iconst (v := 1) hx hb dX3_readsNumber_77 (by decide) ?_
      injection hF with hz
      injection hz with hq0 hz
      injection hz with hq1 hz
      subst hq0
      subst hq1
      subst hz
      exact cm_reti hx hb hr (by decide) hlk hK hP hD hS dX3_readsNumber_78
    rw [if_neg c11] at hF
    refine lv_aload_n hx hb dX3_readsNumber_57 rfl (lv_at hl 2 rfl) ?_
    refine lv_dup hx hb dX3_readsNumber_58 rfl ?_
    refine va_get (D := G.1) (ci := 3) (v := .int (x_place + 1)) (C := RX3) (T := TX3) (N := 7) hx hb hts hin3 hown hK hP 0 rfl rfl 3 (by decide) lk_28 (fun _ h9 => h9) rfl dX3_readsNumber_59 ?_
    refine lv_iconst (v := 1) hx hb dX3_readsNumber_62 (by decide) ?_
    refine lv_iadd hx hb dX3_readsNumber_63 ?_
    refine va_put (D := G.1) (ci := 3) (v := .int ((x_place + 1) + 1)) (ty := .int) (C := RX3) (T := TX3) (N := 7) hx hb hts hin3 tyX3 tyX3_ok nmX3 hown hK hP hD hS 0 rfl rfl 3 (by decide) lk_28 (fun _ h9 => h9) rfl (tyX3_ok 3 (by decide)) rfl rfl (Nat.le_of_ble_eq_true rfl) dX3_readsNumber_64 (fun H locs hP hD hS => ?_)
    have hP : va_P G.1 vwCl [o3 h a_text a_steps x_size ((x_place + 1) + 1) x_stepCount (r1 - 48) x_caught, aI G a_text 120 f_text] H := hP
    have hD : va_D A [o3 h a_text a_steps x_size ((x_place + 1) + 1) x_stepCount (r1 - 48) x_caught, aI G a_text 120 f_text] := hD
    refine lv_aload_n hx hb dX3_readsNumber_67 rfl (lv_at hl 2 rfl) ?_
    refine lv_bipush (v := 10) hx hb dX3_readsNumber_68 (by decide) ?_
    refine lv_iload_n hx hb dX3_readsNumber_70 rfl (lv_at hl 1 rfl) ?_
    refine lv_imul hx hb dX3_readsNumber_71 ?_
    refine W.eq (g2 := F0 m 72 ls [.int (10 * (r1 - 48)), .ref h]) rfl ?_
    refine lv_iload_n hx hb dX3_readsNumber_72 rfl (lv_at hl 0 rfl) ?_
    refine lv_iadd hx hb dX3_readsNumber_73 ?_
    refine va_put (D := G.1) (ci := 3) (v := .int ((10 * (r1 - 48)) + (r6 - 48))) (ty := .int) (C := RX3) (T := TX3) (N := 7) hx hb hts hin3 tyX3 tyX3_ok nmX3 hown hK hP hD hS 0 rfl rfl 5 (by decide) lk_64 (fun _ h9 => h9) rfl (tyX3_ok 5 (by decide)) rfl rfl (Nat.le_of_ble_eq_true rfl) dX3_readsNumber_74 (fun H locs hP hD hS => ?_)
    have hP : va_P G.1 vwCl [o3 h a_text a_steps x_size ((x_place + 1) + 1) x_stepCount ((10 * (r1 - 48)) + (r6 - 48)) x_caught, aI G a_text 120 f_text] H := hP
    have hD : va_D A [o3 h a_text a_steps x_size ((x_place + 1) + 1) x_stepCount ((10 * (r1 - 48)) + (r6 - 48)) x_caught, aI G a_text 120 f_text] := hD
    refine lv_iconst (v := 1) hx hb dX3_readsNumber_77 (by decide) ?_
    injection hF with hz
    injection hz with hq0 hz
    injection hz with hq1 hz
    subst hq0
    subst hq1
    subst hz
    exact cm_reti hx hb hr (by decide) hlk hK hP hD hS dX3_readsNumber_78
  rw [if_pos c5] at hF
  refine lv_iconst (v := 0) hx hb dX3_readsNumber_18 (by decide) ?_
  injection hF with hz
  injection hz with hq0 hz
  injection hz with hq1 hz
  subst hq0
  subst hq1
  subst hz
  exact cm_reti hx hb hr (by decide) hlk hK hP hD hS dX3_readsNumber_19

/-! HeadsByHair$Reader.passesAll(Ljava/lang/String;)Z -/
abbrev rm_X3_passesAll : Room := { frames := 4, cells := 0, slots := 0, locals := 111 }
set_option maxHeartbeats 4000000 in
set_option maxRecDepth 100000 in
theorem c_X3_passesAll (l : Launch) (G : GG) (h a_text a_steps : Nat) (x_size x_place x_stepCount x_number x_caught : Int32) (f_text : Nat → Int32) (t1 : Nat) (ht1 : t1 < nJS) (z : Int32) (z_x_place : Int32) (hF : fX3_passesAll t1 x_size x_place f_text = some (z, z_x_place)) : CMi l yX3_passesAll wsX3_passesAll rm_X3_passesAll G [o3 h a_text a_steps x_size x_place x_stepCount x_number x_caught, aI G a_text 120 f_text] [o3 h a_text a_steps x_size z_x_place x_stepCount x_number x_caught, aI G a_text 120 f_text] [.ref h, .ref (G.2.2.1 t1)] z := by
  refine cm_start (cc := cX3_passesAll) (maxL := 3) (ret := (some .boolean)) (Qc := fun A => QI G [o3 h a_text a_steps x_size z_x_place x_stepCount x_number x_caught, aI G a_text 120 f_text] z A) (by decide +kernel) rfl (Nat.le_of_ble_eq_true rfl) ?_
  intro p e s m args below meth c A hx hb hr hlk hml hown hnm hts hA H locs hP hK hD hE hS ls hl
  have hown : s.vm.findClass RX3 = some m.cls := hown
  have hl : lv_has ls 3 [(0, .ref h), (1, .ref (G.2.2.1 t1))] := hl
  revert hF
  have LP2 : ∀ (n : Nat) (x_place : Int32) (l2 : Int32) (H : Heap) (locs : List Loc) (ls : Array Slot), va_P G.1 vwCl [o3 h a_text a_steps x_size x_place x_stepCount x_number x_caught, aI G a_text 120 f_text] H → va_D A [o3 h a_text a_steps x_size x_place x_stepCount x_number x_caught, aI G a_text 120 f_text] → va_S A s.heap H locs → lv_has ls 3 [(0, .ref h), (1, .ref (G.2.2.1 t1)), (2, .int l2)] → fX3_passesAll_L2 t1 x_size f_text n x_place l2 = some (z, z_x_place) → W p l e (rm_X3_passesAll) s m args below meth c H locs 0 0 (MQ below (QI G [o3 h a_text a_steps x_size z_x_place x_stepCount x_number x_caught, aI G a_text 120 f_text] z A) args s 0 0 A) (F0 m 2 ls []) := by
    intro n
    induction n with
    | zero =>
      intro x_place l2 H locs ls hP hD hS hl hF
      cases hF
    | succ n ih =>
      intro x_place l2 H locs ls hP hD hS hl hF
      rw [fX3_passesAll_L2] at hF
      refine lv_iload_n hx hb dX3_passesAll_2 rfl (lv_at hl 2 rfl) ?_
      refine lv_aload_n hx hb dX3_passesAll_3 rfl (lv_at hl 1 rfl) ?_
      have hPc := hP.sub (ws' := []) [] rfl
      have hDc := hD.sub (ws' := []) [] (by decide) rfl
      have hFc := va_free (wc := []) hD hS hA [] rfl
      have hM := c_J0_length l G t1 ht1 H.size
      obtain ⟨cell, oa1, oa2, oa3, oa4⟩ := (hE.str (i := t1) ht1).1.kept hS.2.1
      refine cl_i (w1 := []) (ws' := [o3 h a_text a_steps x_size x_place x_stepCount x_number x_caught, aI G a_text 120 f_text]) hP hD hS hFc [] rfl rfl rfl (va_runV (As := []) (rest := [.int l2]) ⟨hx, hb, hml, hown, hts⟩ hM (cwV 0 hts gX3_passesAll_J0_length_8abf5 rfl rfl rfl (by decide +kernel) ⟨Nat.le_of_ble_eq_true rfl, Nat.le_of_ble_eq_true rfl⟩) (cp_V hK hE hS hPc hDc hFc ⟨cell, oa1, oa2, oa3⟩) rfl rfl hl.1 rfl (lv_room (Nat.le_of_ble_eq_true rfl)) dX3_passesAll_4 ⟨Nat.zero_le _, Nat.zero_le _⟩) (fun H locs hP hD hS => ?_)
      refine lv_icmp_ge (tgt := 30) hx hb dX3_passesAll_7 (by decide) (fun c1 => ?_) (fun c1 => ?_)
      · rw [if_pos c1] at hF
        refine lv_iconst (v := 1) hx hb dX3_passesAll_30 (by decide) ?_
        injection hF with hz
        injection hz with hq0 hz
        subst hq0
        subst hz
        exact cm_reti hx hb hr (by decide) hlk hK hP hD hS dX3_passesAll_31
      rw [if_neg c1] at hF
      refine lv_aload_n hx hb dX3_passesAll_10 rfl (lv_at hl 0 rfl) ?_
      refine lv_aload_n hx hb dX3_passesAll_11 rfl (lv_at hl 1 rfl) ?_
      refine lv_iload_n hx hb dX3_passesAll_12 rfl (lv_at hl 2 rfl) ?_
      obtain ⟨hi2, hF⟩ := ck_some hF
      have hPc := hP.sub (ws' := []) [] rfl
      have hDc := hD.sub (ws' := []) [] (by decide) rfl
      have hFc := va_free (wc := []) hD hS hA [] rfl
      have hM := c_J0_charAt l G t1 ht1 l2 hi2 H.size
      obtain ⟨cell, oa1, oa2, oa3, oa4⟩ := (hE.str (i := t1) ht1).1.kept hS.2.1
      refine cl_i (w1 := []) (ws' := [o3 h a_text a_steps x_size x_place x_stepCount x_number x_caught, aI G a_text 120 f_text]) hP hD hS hFc [] rfl rfl rfl (va_runV (As := [.int l2]) (rest := [.ref h]) ⟨hx, hb, hml, hown, hts⟩ hM (cwV 1 hts gX3_passesAll_J0_charAt_5068e rfl rfl rfl (by decide +kernel) ⟨Nat.le_of_ble_eq_true rfl, Nat.le_of_ble_eq_true rfl⟩) (cp_V hK hE hS hPc hDc hFc ⟨cell, oa1, oa2, oa3⟩) rfl rfl hl.1 rfl (lv_room (Nat.le_of_ble_eq_true rfl)) dX3_passesAll_13 ⟨Nat.zero_le _, Nat.zero_le _⟩) (fun H locs hP hD hS => ?_)
      obtain ⟨r3, hc4, hF⟩ := bd_some hF
      have hPc := hP.sub (ws' := [o3 h a_text a_steps x_size x_place x_stepCount x_number x_caught, aI G a_text 120 f_text]) [0, 1] rfl
      have hDc := hD.sub (ws' := [o3 h a_text a_steps x_size x_place x_stepCount x_number x_caught, aI G a_text 120 f_text]) [0, 1] (by decide) rfl
      have hFc := va_free (wc := [o3 h a_text a_steps x_size x_place x_stepCount x_number x_caught, aI G a_text 120 f_text]) hD hS hA [0, 1] rfl
      have hM := c_X3_passes l G h a_text a_steps x_size x_place x_stepCount x_number x_caught f_text (js_ch t1 l2.toNatClampNeg) r3.1 r3.2 hc4 H.size
      refine cl_i (w1 := [o3 h a_text a_steps x_size r3.2 x_stepCount x_number x_caught, aI G a_text 120 f_text]) (ws' := [o3 h a_text a_steps x_size r3.2 x_stepCount x_number x_caught, aI G a_text 120 f_text]) hP hD hS hFc [0, 1] rfl rfl rfl (va_runV (As := [.int (js_ch t1 l2.toNatClampNeg)]) (rest := []) ⟨hx, hb, hml, hown, hts⟩ hM (cwV 1 hts gX3_passesAll_X3_passes rfl rfl rfl (by decide +kernel) ⟨Nat.le_of_ble_eq_true rfl, Nat.le_of_ble_eq_true rfl⟩) (cp_V hK hE hS hPc hDc hFc (va_recv hK hPc (ci := 3) (q0 := 0) rfl rfl)) rfl rfl hl.1 rfl (lv_room (Nat.le_of_ble_eq_true rfl)) dX3_passesAll_16 ⟨Nat.zero_le _, Nat.zero_le _⟩) (fun H locs hP hD hS => ?_)
      refine lv_if_ne (tgt := 24) hx hb dX3_passesAll_19 (by decide) (fun c5 => ?_) (fun c5 => ?_)
      · rw [if_neg c5] at hF
        refine lv_iinc (v := l2 + 1) (lv' := [(2, .int (l2 + 1)), (0, .ref h), (1, .ref (G.2.2.1 t1))]) hx hb dX3_passesAll_24 hl (k := 2) rfl rfl (by decide) rfl (fun ls hl => ?_)
        refine lv_goto (tgt := 2) hx hb dX3_passesAll_27 (by decide) ?_
        exact ih _ _ H locs ls hP hD hS (lv_sub hl [1, 2, 0] rfl) hF
      rw [if_pos c5] at hF
      refine lv_iconst (v := 0) hx hb dX3_passesAll_22 (by decide) ?_
      injection hF with hz
      injection hz with hq0 hz
      subst hq0
      subst hz
      exact cm_reti hx hb hr (by decide) hlk hK hP hD hS dX3_passesAll_23
  intro hF
  unfold fX3_passesAll at hF
  refine lv_iconst (v := 0) hx hb dX3_passesAll_0 (by decide) ?_
  refine lv_istore_n (lv' := [(2, .int 0), (0, .ref h), (1, .ref (G.2.2.1 t1))]) hx hb dX3_passesAll_1 rfl hl (by decide) rfl (fun ls hl => ?_)
  refine LP2 _ _ _ H locs ls hP hD hS (lv_sub hl [1, 2, 0] rfl) hF
abbrev rg_tR (d : Nat) : Room := { frames := 10 + d, cells := 0, slots := 0, locals := 300 + 60 * d }
/-! HeadsByHair$Reader.readsOne(I)Z -/
set_option maxHeartbeats 4000000 in
set_option maxRecDepth 100000 in
theorem c_X3_readsOne (l : Launch) (G : GG) (d : Nat) (g_X3_readsOne : Int32 → Int32 → Int32 → Int32 → (Nat → Int32) → (Nat → Int32) → Int32 → Option (Int32 × Int32 × Int32 × Int32 × (Nat → Int32))) (hg_X3_readsOne : ∀ (h a_text a_steps : Nat) (x_size x_place x_stepCount x_number x_caught : Int32) (f_steps f_text : Nat → Int32) (l1 : Int32) (z : Int32) (z_x_place : Int32) (z_x_stepCount : Int32) (z_x_number : Int32) (z_f_steps : Nat → Int32), g_X3_readsOne x_size x_place x_stepCount x_number f_steps f_text l1 = some (z, z_x_place, z_x_stepCount, z_x_number, z_f_steps) → CMi l yX3_readsOne wsX3_readsOne (rg_tR d) G [o3 h a_text a_steps x_size x_place x_stepCount x_number x_caught, aI G a_steps 120 f_steps, aI G a_text 120 f_text] [o3 h a_text a_steps x_size z_x_place z_x_stepCount z_x_number x_caught, aI G a_steps 120 z_f_steps, aI G a_text 120 f_text] [.ref h, .int l1] z) (g_X3_readsAll : Int32 → Int32 → Int32 → Int32 → (Nat → Int32) → (Nat → Int32) → Int32 → Option (Int32 × Int32 × Int32 × Int32 × (Nat → Int32))) (hg_X3_readsAll : ∀ (h a_text a_steps : Nat) (x_size x_place x_stepCount x_number x_caught : Int32) (f_steps f_text : Nat → Int32) (l1 : Int32) (z : Int32) (z_x_place : Int32) (z_x_stepCount : Int32) (z_x_number : Int32) (z_f_steps : Nat → Int32), g_X3_readsAll x_size x_place x_stepCount x_number f_steps f_text l1 = some (z, z_x_place, z_x_stepCount, z_x_number, z_f_steps) → CMi l yX3_readsAll wsX3_readsAll (rg_tR d) G [o3 h a_text a_steps x_size x_place x_stepCount x_number x_caught, aI G a_steps 120 f_steps, aI G a_text 120 f_text] [o3 h a_text a_steps x_size z_x_place z_x_stepCount z_x_number x_caught, aI G a_steps 120 z_f_steps, aI G a_text 120 f_text] [.ref h, .int l1] z) (g_X3_readsAny : Int32 → Int32 → Int32 → Int32 → (Nat → Int32) → (Nat → Int32) → Int32 → Option (Int32 × Int32 × Int32 × Int32 × (Nat → Int32))) (hg_X3_readsAny : ∀ (h a_text a_steps : Nat) (x_size x_place x_stepCount x_number x_caught : Int32) (f_steps f_text : Nat → Int32) (l1 : Int32) (z : Int32) (z_x_place : Int32) (z_x_stepCount : Int32) (z_x_number : Int32) (z_f_steps : Nat → Int32), g_X3_readsAny x_size x_place x_stepCount x_number f_steps f_text l1 = some (z, z_x_place, z_x_stepCount, z_x_number, z_f_steps) → CMi l yX3_readsAny wsX3_readsAny (rg_tR d) G [o3 h a_text a_steps x_size x_place x_stepCount x_number x_caught, aI G a_steps 120 f_steps, aI G a_text 120 f_text] [o3 h a_text a_steps x_size z_x_place z_x_stepCount z_x_number x_caught, aI G a_steps 120 z_f_steps, aI G a_text 120 f_text] [.ref h, .int l1] z) (h a_text a_steps : Nat) (x_size x_place x_stepCount x_number x_caught : Int32) (f_steps : Nat → Int32) (f_text : Nat → Int32) (l1 : Int32) (z : Int32) (z_x_place : Int32) (z_x_stepCount : Int32) (z_x_number : Int32) (z_f_steps : Nat → Int32) (hF : fX3_readsOne g_X3_readsOne g_X3_readsAll g_X3_readsAny x_size x_place x_stepCount x_number f_steps f_text l1 = some (z, z_x_place, z_x_stepCount, z_x_number, z_f_steps)) : CMi l yX3_readsOne wsX3_readsOne (rg_tR (d + 1)) G [o3 h a_text a_steps x_size x_place x_stepCount x_number x_caught, aI G a_steps 120 f_steps, aI G a_text 120 f_text] [o3 h a_text a_steps x_size z_x_place z_x_stepCount z_x_number x_caught, aI G a_steps 120 z_f_steps, aI G a_text 120 f_text] [.ref h, .int l1] z := by
  refine cm_start (cc := cX3_readsOne) (maxL := 4) (ret := (some .boolean)) (Qc := fun A => QI G [o3 h a_text a_steps x_size z_x_place z_x_stepCount z_x_number x_caught, aI G a_steps 120 z_f_steps, aI G a_text 120 f_text] z A) (by decide +kernel) rfl (Nat.le_of_ble_eq_true rfl) ?_
  intro p e s m args below meth c A hx hb hr hlk hml hown hnm hts hA H locs hP hK hD hE hS ls hl
  have hown : s.vm.findClass RX3 = some m.cls := hown
  have hl : lv_has ls 4 [(0, .ref h), (1, .int l1)] := hl
  have hin3 : ∀ w ∈ wsX30, w ∈ wsX3_readsOne := by decide +kernel
  have lk_28 := hts (.fieldLink RX3 28 "HeadsByHair$Reader" "place" "I") (by decide +kernel)
  have lk_64 := hts (.fieldLink RX3 64 "HeadsByHair$Reader" "number" "I") (by decide +kernel)
  revert hF
  have B79 : ∀ (x_place : Int32) (x_stepCount : Int32) (x_number : Int32) (f_steps : Nat → Int32) (H : Heap) (locs : List Loc) (ls : Array Slot), va_P G.1 vwCl [o3 h a_text a_steps x_size x_place x_stepCount x_number x_caught, aI G a_steps 120 f_steps, aI G a_text 120 f_text] H → va_D A [o3 h a_text a_steps x_size x_place x_stepCount x_number x_caught, aI G a_steps 120 f_steps, aI G a_text 120 f_text] → va_S A s.heap H locs → lv_has ls 4 [(0, .ref h)] → fX3_readsOne_b79 g_X3_readsOne g_X3_readsAll g_X3_readsAny x_size x_place x_stepCount x_number f_steps f_text = some (z, z_x_place, z_x_stepCount, z_x_number, z_f_steps) → W p l e ((rg_tR (d + 1))) s m args below meth c H locs 0 0 (MQ below (QI G [o3 h a_text a_steps x_size z_x_place z_x_stepCount z_x_number x_caught, aI G a_steps 120 z_f_steps, aI G a_text 120 f_text] z A) args s 0 0 A) (F0 m 79 ls []) := by
    intro x_place x_stepCount x_number f_steps H locs ls hP hD hS hl hF
    unfold fX3_readsOne_b79 at hF
    refine va_ldcS hx hb hown (hE.ref (i := 4) (by decide)) dX3_readsOne_79 ?_
    refine lv_aload_n hx hb dX3_readsOne_81 rfl (lv_at hl 0 rfl) ?_
    obtain ⟨r3, hc4, hF⟩ := bd_some hF
    have hPc := hP.sub (ws' := [o3 h a_text a_steps x_size x_place x_stepCount x_number x_caught, aI G a_text 120 f_text]) [0, 2] rfl
    have hDc := hD.sub (ws' := [o3 h a_text a_steps x_size x_place x_stepCount x_number x_caught, aI G a_text 120 f_text]) [0, 2] (by decide) rfl
    have hFc := va_free (wc := [o3 h a_text a_steps x_size x_place x_stepCount x_number x_caught, aI G a_text 120 f_text]) hD hS hA [0, 2] rfl
    have hM := c_X3_nextByte l G h a_text a_steps x_size x_place x_stepCount x_number x_caught f_text r3 hc4 H.size
    refine cl_i (w1 := [o3 h a_text a_steps x_size x_place x_stepCount x_number x_caught, aI G a_text 120 f_text]) (ws' := [o3 h a_text a_steps x_size x_place x_stepCount x_number x_caught, aI G a_steps 120 f_steps, aI G a_text 120 f_text]) hP hD hS hFc [0, 2] rfl rfl rfl (va_runV (As := []) (rest := [.ref (G.2.2.1 4)]) ⟨hx, hb, hml, hown, hts⟩ hM (cwV 0 hts gX3_readsOne_X3_nextByte rfl rfl rfl (by decide +kernel) ⟨(by show 0 + 1 ≤ 10 + (d + 1); omega), (by show 8 + (1 + 11) + 0 ≤ 300 + 60 * (d + 1); omega)⟩) (cp_V hK hE hS hPc hDc hFc (va_recv hK hPc (ci := 3) (q0 := 0) rfl rfl)) rfl rfl hl.1 rfl (lv_room (Nat.le_of_ble_eq_true rfl)) dX3_readsOne_82 ⟨Nat.zero_le _, Nat.zero_le _⟩) (fun H locs hP hD hS => ?_)
    refine lv_i2c (v := (r3.toUInt32 % 65536).toInt32) hx hb dX3_readsOne_85 rfl ?_
    obtain ⟨r5, hc6, hF⟩ := bd_some hF
    have hPc := hP.sub (ws' := []) [] rfl
    have hDc := hD.sub (ws' := []) [] (by decide) rfl
    have hFc := va_free (wc := []) hD hS hA [] rfl
    have hM := c_J0_indexOf l G 4 (by decide) ((r3.toUInt32 % 65536).toInt32) r5 hc6 H.size
    obtain ⟨cell, oa1, oa2, oa3, oa4⟩ := (hE.str (i := 4) (by decide)).1.kept hS.2.1
    refine cl_i (w1 := []) (ws' := [o3 h a_text a_steps x_size x_place x_stepCount x_number x_caught, aI G a_steps 120 f_steps, aI G a_text 120 f_text]) hP hD hS hFc [] rfl rfl rfl (va_runV (As := [.int ((r3.toUInt32 % 65536).toInt32)]) (rest := []) ⟨hx, hb, hml, hown, hts⟩ hM (cwV 1 hts gX3_readsOne_J0_indexOf_0f7a4 rfl rfl rfl (by decide +kernel) ⟨(by show 3 + 1 ≤ 10 + (d + 1); omega), (by show 8 + (2 + 11) + 90 ≤ 300 + 60 * (d + 1); omega)⟩) (cp_V hK hE hS hPc hDc hFc ⟨cell, oa1, oa2, oa3⟩) rfl rfl hl.1 rfl (lv_room (Nat.le_of_ble_eq_true rfl)) dX3_readsOne_86 ⟨Nat.zero_le _, Nat.zero_le _⟩) (fun H locs hP hD hS => ?_)
    refine lv_istore_n (lv' := [(2, .int r5), (0, .ref h)]) hx hb dX3_readsOne_89 rfl hl (by decide) rfl (fun ls hl => ?_)
    refine lv_iload_n hx hb dX3_readsOne_90 rfl (lv_at hl 0 rfl) ?_
    refine lv_if_ge (tgt := 96) hx hb dX3_readsOne_91 (by decide) (fun c7 => ?_) (fun c7 => ?_)
    · rw [if_pos c7] at hF
      refine lv_aload_n hx hb dX3_readsOne_96 rfl (lv_at hl 1 rfl) ?_
      refine lv_dup hx hb dX3_readsOne_97 rfl ?_
      refine va_get (D := G.1) (ci := 3) (v := .int x_place) (C := RX3) (T := TX3) (N := 7) hx hb hts hin3 hown hK hP 0 rfl rfl 3 (by decide) lk_28 (fun _ h9 => h9) rfl dX3_readsOne_98 ?_
      refine lv_iconst (v := 1) hx hb dX3_readsOne_101 (by decide) ?_
      refine lv_iadd hx hb dX3_readsOne_102 ?_
      refine W.eq (g2 := F0 m 103 ls [.int (x_place + 1), .ref h]) rfl ?_
      refine va_put (D := G.1) (ci := 3) (v := .int (x_place + 1)) (ty := .int) (C := RX3) (T := TX3) (N := 7) hx hb hts hin3 tyX3 tyX3_ok nmX3 hown hK hP hD hS 0 rfl rfl 3 (by decide) lk_28 (fun _ h9 => h9) rfl (tyX3_ok 3 (by decide)) rfl rfl (Nat.le_of_ble_eq_true rfl) dX3_readsOne_103 (fun H locs hP hD hS => ?_)
      have hP : va_P G.1 vwCl [o3 h a_text a_steps x_size (x_place + 1) x_stepCount x_number x_caught, aI G a_steps 120 f_steps, aI G a_text 120 f_text] H := hP
      have hD : va_D A [o3 h a_text a_steps x_size (x_place + 1) x_stepCount x_number x_caught, aI G a_steps 120 f_steps, aI G a_text 120 f_text] := hD
      refine va_ldcS hx hb hown (hE.ref (i := 5) (by decide)) dX3_readsOne_106 ?_
      refine lv_aload_n hx hb dX3_readsOne_108 rfl (lv_at hl 1 rfl) ?_
      obtain ⟨r8, hc9, hF⟩ := bd_some hF
      have hPc := hP.sub (ws' := [o3 h a_text a_steps x_size (x_place + 1) x_stepCount x_number x_caught, aI G a_text 120 f_text]) [0, 2] rfl
      have hDc := hD.sub (ws' := [o3 h a_text a_steps x_size (x_place + 1) x_stepCount x_number x_caught, aI G a_text 120 f_text]) [0, 2] (by decide) rfl
      have hFc := va_free (wc := [o3 h a_text a_steps x_size (x_place + 1) x_stepCount x_number x_caught, aI G a_text 120 f_text]) hD hS hA [0, 2] rfl
      have hM := c_X3_nextByte l G h a_text a_steps x_size (x_place + 1) x_stepCount x_number x_caught f_text r8 hc9 H.size
      refine cl_i (w1 := [o3 h a_text a_steps x_size (x_place + 1) x_stepCount x_number x_caught, aI G a_text 120 f_text]) (ws' := [o3 h a_text a_steps x_size (x_place + 1) x_stepCount x_number x_caught, aI G a_steps 120 f_steps, aI G a_text 120 f_text]) hP hD hS hFc [0, 2] rfl rfl rfl (va_runV (As := []) (rest := [.ref (G.2.2.1 5)]) ⟨hx, hb, hml, hown, hts⟩ hM (cwV 0 hts gX3_readsOne_X3_nextByte rfl rfl rfl (by decide +kernel) ⟨(by show 0 + 1 ≤ 10 + (d + 1); omega), (by show 8 + (1 + 11) + 0 ≤ 300 + 60 * (d + 1); omega)⟩) (cp_V hK hE hS hPc hDc hFc (va_recv hK hPc (ci := 3) (q0 := 0) rfl rfl)) rfl rfl hl.1 rfl (lv_room (Nat.le_of_ble_eq_true rfl)) dX3_readsOne_109 ⟨Nat.zero_le _, Nat.zero_le _⟩) (fun H locs hP hD hS => ?_)
      refine lv_i2c (v := (r8.toUInt32 % 65536).toInt32) hx hb dX3_readsOne_112 rfl ?_
      obtain ⟨r10, hc11, hF⟩ := bd_some hF
      have hPc := hP.sub (ws' := []) [] rfl
      have hDc := hD.sub (ws' := []) [] (by decide) rfl
      have hFc := va_free (wc := []) hD hS hA [] rfl
      have hM := c_J0_indexOf l G 5 (by decide) ((r8.toUInt32 % 65536).toInt32) r10 hc11 H.size
      obtain ⟨cell, oa1, oa2, oa3, oa4⟩ := (hE.str (i := 5) (by decide)).1.kept hS.2.1
      refine cl_i (w1 := []) (ws' := [o3 h a_text a_steps x_size (x_place + 1) x_stepCount x_number x_caught, aI G a_steps 120 f_steps, aI G a_text 120 f_text]) hP hD hS hFc [] rfl rfl rfl (va_runV (As := [.int ((r8.toUInt32 % 65536).toInt32)]) (rest := []) ⟨hx, hb, hml, hown, hts⟩ hM (cwV 1 hts gX3_readsOne_J0_indexOf_0f7a4 rfl rfl rfl (by decide +kernel) ⟨(by show 3 + 1 ≤ 10 + (d + 1); omega), (by show 8 + (2 + 11) + 90 ≤ 300 + 60 * (d + 1); omega)⟩) (cp_V hK hE hS hPc hDc hFc ⟨cell, oa1, oa2, oa3⟩) rfl rfl hl.1 rfl (lv_room (Nat.le_of_ble_eq_true rfl)) dX3_readsOne_113 ⟨Nat.zero_le _, Nat.zero_le _⟩) (fun H locs hP hD hS => ?_)
      refine lv_istore_n (lv' := [(3, .int r10), (2, .int r5), (0, .ref h)]) hx hb dX3_readsOne_116 rfl hl (by decide) rfl (fun ls hl => ?_)
      refine lv_iload_n hx hb dX3_readsOne_117 rfl (lv_at hl 0 rfl) ?_
      refine lv_if_ge (tgt := 123) hx hb dX3_readsOne_118 (by decide) (fun c12 => ?_) (fun c12 => ?_)
      · rw [if_pos c12] at hF
        refine lv_aload_n hx hb dX3_readsOne_123 rfl (lv_at hl 2 rfl) ?_
        refine lv_dup hx hb dX3_readsOne_124 rfl ?_
        refine va_get (D := G.1) (ci := 3) (v := .int (x_place + 1)) (C := RX3) (T := TX3) (N := 7) hx hb hts hin3 hown hK hP 0 rfl rfl 3 (by decide) lk_28 (fun _ h9 => h9) rfl dX3_readsOne_125 ?_
        refine lv_iconst (v := 1) hx hb dX3_readsOne_128 (by decide) ?_
        refine lv_iadd hx hb dX3_readsOne_129 ?_
        refine W.eq (g2 := F0 m 130 ls [.int ((x_place + 1) + 1), .ref h]) rfl ?_
        refine va_put (D := G.1) (ci := 3) (v := .int ((x_place + 1) + 1)) (ty := .int) (C := RX3) (T := TX3) (N := 7) hx hb hts hin3 tyX3 tyX3_ok nmX3 hown hK hP hD hS 0 rfl rfl 3 (by decide) lk_28 (fun _ h9 => h9) rfl (tyX3_ok 3 (by decide)) rfl rfl (Nat.le_of_ble_eq_true rfl) dX3_readsOne_130 (fun H locs hP hD hS => ?_)
        have hP : va_P G.1 vwCl [o3 h a_text a_steps x_size ((x_place + 1) + 1) x_stepCount x_number x_caught, aI G a_steps 120 f_steps, aI G a_text 120 f_text] H := hP
        have hD : va_D A [o3 h a_text a_steps x_size ((x_place + 1) + 1) x_stepCount x_number x_caught, aI G a_steps 120 f_steps, aI G a_text 120 f_text] := hD
        refine lv_aload_n hx hb dX3_readsOne_133 rfl (lv_at hl 2 rfl) ?_
        obtain ⟨r13, hc14, hF⟩ := bd_some hF
        have hPc := hP.sub (ws' := [o3 h a_text a_steps x_size ((x_place + 1) + 1) x_stepCount x_number x_caught, aI G a_text 120 f_text]) [0, 2] rfl
        have hDc := hD.sub (ws' := [o3 h a_text a_steps x_size ((x_place + 1) + 1) x_stepCount x_number x_caught, aI G a_text 120 f_text]) [0, 2] (by decide) rfl
        have hFc := va_free (wc := [o3 h a_text a_steps x_size ((x_place + 1) + 1) x_stepCount x_number x_caught, aI G a_text 120 f_text]) hD hS hA [0, 2] rfl
        have hM := c_X3_readsNumber l G h a_text a_steps x_size ((x_place + 1) + 1) x_stepCount x_number x_caught f_text r13.1 r13.2.1 r13.2.2 hc14 H.size
        refine cl_i (w1 := [o3 h a_text a_steps x_size r13.2.1 x_stepCount r13.2.2 x_caught, aI G a_text 120 f_text]) (ws' := [o3 h a_text a_steps x_size r13.2.1 x_stepCount r13.2.2 x_caught, aI G a_steps 120 f_steps, aI G a_text 120 f_text]) hP hD hS hFc [0, 2] rfl rfl rfl (va_runV (As := []) (rest := []) ⟨hx, hb, hml, hown, hts⟩ hM (cwV 0 hts gX3_readsOne_X3_readsNumber rfl rfl rfl (by decide +kernel) ⟨(by show 1 + 1 ≤ 10 + (d + 1); omega), (by show 8 + (3 + 11) + 22 ≤ 300 + 60 * (d + 1); omega)⟩) (cp_V hK hE hS hPc hDc hFc (va_recv hK hPc (ci := 3) (q0 := 0) rfl rfl)) rfl rfl hl.1 rfl (lv_room (Nat.le_of_ble_eq_true rfl)) dX3_readsOne_134 ⟨Nat.zero_le _, Nat.zero_le _⟩) (fun H locs hP hD hS => ?_)
        refine lv_if_eq (tgt := 160) hx hb dX3_readsOne_137 (by decide) (fun c15 => ?_) (fun c15 => ?_)
        · rw [if_pos c15] at hF
          refine lv_iconst (v := 0) hx hb dX3_readsOne_160 (by decide) ?_
          injection hF with hz
          injection hz with hq0 hz
          injection hz with hq1 hz
          injection hz with hq2 hz
          injection hz with hq3 hz
          subst hq0
          subst hq1
          subst hq2
          subst hq3
          subst hz
          exact cm_reti hx hb hr (by decide) hlk hK hP hD hS dX3_readsOne_161
        rw [if_neg c15] at hF
        refine lv_aload_n hx hb dX3_readsOne_140 rfl (lv_at hl 2 rfl) ?_
        refine lv_iload_n hx hb dX3_readsOne_141 rfl (lv_at hl 1 rfl) ?_
        refine lv_iconst (v := 3) hx hb dX3_readsOne_142 (by decide) ?_
        refine lv_imul hx hb dX3_readsOne_143 ?_
        refine lv_iload_n hx hb dX3_readsOne_144 rfl (lv_at hl 0 rfl) ?_
        refine lv_iadd hx hb dX3_readsOne_145 ?_
        refine lv_aload_n hx hb dX3_readsOne_146 rfl (lv_at hl 2 rfl) ?_
        refine va_get (D := G.1) (ci := 3) (v := .int r13.2.2) (C := RX3) (T := TX3) (N := 7) hx hb hts hin3 hown hK hP 0 rfl rfl 5 (by decide) lk_64 (fun _ h9 => h9) rfl dX3_readsOne_147 ?_
        obtain ⟨r16, hc17, hF⟩ := bd_some hF
        have hPc := hP.sub (ws' := [o3 h a_text a_steps x_size r13.2.1 x_stepCount r13.2.2 x_caught, aI G a_steps 120 f_steps]) [0, 1] rfl
        have hDc := hD.sub (ws' := [o3 h a_text a_steps x_size r13.2.1 x_stepCount r13.2.2 x_caught, aI G a_steps 120 f_steps]) [0, 1] (by decide) rfl
        have hFc := va_free (wc := [o3 h a_text a_steps x_size r13.2.1 x_stepCount r13.2.2 x_caught, aI G a_steps 120 f_steps]) hD hS hA [0, 1] rfl
        have hM := c_X3_adds l G h a_text a_steps x_size r13.2.1 x_stepCount r13.2.2 x_caught f_steps ((r5 * 3) + r10) r13.2.2 r16.1 r16.2.1 r16.2.2 hc17 H.size
        refine cl_i (w1 := [o3 h a_text a_steps x_size r13.2.1 r16.2.1 r13.2.2 x_caught, aI G a_steps 120 r16.2.2]) (ws' := [o3 h a_text a_steps x_size r13.2.1 r16.2.1 r13.2.2 x_caught, aI G a_steps 120 r16.2.2, aI G a_text 120 f_text]) hP hD hS hFc [0, 1] rfl rfl rfl (va_runV (As := [.int ((r5 * 3) + r10), .int r13.2.2]) (rest := []) ⟨hx, hb, hml, hown, hts⟩ hM (cwV 2 hts gX3_readsOne_X3_adds rfl rfl rfl (by decide +kernel) ⟨(by show 0 + 1 ≤ 10 + (d + 1); omega), (by show 8 + (3 + 11) + 0 ≤ 300 + 60 * (d + 1); omega)⟩) (cp_V hK hE hS hPc hDc hFc (va_recv hK hPc (ci := 3) (q0 := 0) rfl rfl)) rfl rfl hl.1 rfl (lv_room (Nat.le_of_ble_eq_true rfl)) dX3_readsOne_150 ⟨Nat.zero_le _, Nat.zero_le _⟩) (fun H locs hP hD hS => ?_)
        refine lv_if_eq (tgt := 160) hx hb dX3_readsOne_153 (by decide) (fun c18 => ?_) (fun c18 => ?_)
        · rw [if_pos c18] at hF
          refine W.eq (g2 := F0 m 160 ls []) rfl ?_
          refine lv_iconst (v := 0) hx hb dX3_readsOne_160 (by decide) ?_
          injection hF with hz
          injection hz with hq0 hz
          injection hz with hq1 hz
          injection hz with hq2 hz
          injection hz with hq3 hz
          subst hq0
          subst hq1
          subst hq2
          subst hq3
          subst hz
          exact cm_reti hx hb hr (by decide) hlk hK hP hD hS dX3_readsOne_161
        rw [if_neg c18] at hF
        refine W.eq (g2 := F0 m 156 ls []) rfl ?_
        refine lv_iconst (v := 1) hx hb dX3_readsOne_156 (by decide) ?_
        refine lv_goto (tgt := 161) hx hb dX3_readsOne_157 (by decide) ?_
        injection hF with hz
        injection hz with hq0 hz
        injection hz with hq1 hz
        injection hz with hq2 hz
        injection hz with hq3 hz
        subst hq0
        subst hq1
        subst hq2
        subst hq3
        subst hz
        exact cm_reti hx hb hr (by decide) hlk hK hP hD hS dX3_readsOne_161
      rw [if_neg c12] at hF
      refine lv_iconst (v := 0) hx hb dX3_readsOne_121 (by decide) ?_
      injection hF with hz
      injection hz with hq0 hz
      injection hz with hq1 hz
      injection hz with hq2 hz
      injection hz with hq3 hz
      subst hq0
      subst hq1
      subst hq2
      subst hq3
      subst hz
      exact cm_reti hx hb hr (by decide) hlk hK hP hD hS dX3_readsOne_122
    rw [if_neg c7] at hF
    refine lv_iconst (v := 0) hx hb dX3_readsOne_94 (by decide) ?_
    injection hF with hz
    injection hz with hq0 hz
    injection hz with hq1 hz
    injection hz with hq2 hz
    injection hz with hq3 hz
    subst hq0
    subst hq1
    subst hq2
    subst hq3
    subst hz
    exact cm_reti hx hb hr (by decide) hlk hK hP hD hS dX3_readsOne_95
  have B40 : ∀ (x_place : Int32) (x_stepCount : Int32) (x_number : Int32) (f_steps : Nat → Int32) (l1 : Int32) (H : Heap) (locs : List Loc) (ls : Array Slot), va_P G.1 vwCl [o3 h a_text a_steps x_size x_place x_stepCount x_number x_caught, aI G a_steps 120 f_steps, aI G a_text 120 f_text] H → va_D A [o3 h a_text a_steps x_size x_place x_stepCount x_number x_caught, aI G a_steps 120 f_steps, aI G a_text 120 f_text] → va_S A s.heap H locs → lv_has ls 4 [(0, .ref h), (1, .int l1)] → fX3_readsOne_b40 g_X3_readsOne g_X3_readsAll g_X3_readsAny x_size x_place x_stepCount x_number f_steps f_text l1 = some (z, z_x_place, z_x_stepCount, z_x_number, z_f_steps) → W p l e ((rg_tR (d + 1))) s m args below meth c H locs 0 0 (MQ below (QI G [o3 h a_text a_steps x_size z_x_place z_x_stepCount z_x_number x_caught, aI G a_steps 120 z_f_steps, aI G a_text 120 f_text] z A) args s 0 0 A) (F0 m 40 ls []) := by
    intro x_place x_stepCount x_number f_steps l1 H locs ls hP hD hS hl hF
    unfold fX3_readsOne_b40 at hF
    refine lv_iload_n hx hb dX3_readsOne_40 rfl (lv_at hl 1 rfl) ?_
    refine lv_iconst (v := 5) hx hb dX3_readsOne_41 (by decide) ?_
    refine lv_icmp_ge (tgt := 79) hx hb dX3_readsOne_42 (by decide) (fun c2 => ?_) (fun c2 => ?_)
    · rw [if_pos c2] at hF
      exact B79 _ _ _ _ H locs ls hP hD hS (lv_sub hl [0] rfl) hF
    rw [if_neg c2] at hF
    refine lv_aload_n hx hb dX3_readsOne_45 rfl (lv_at hl 0 rfl) ?_
    refine lv_bipush (v := 40) hx hb dX3_readsOne_46 (by decide) ?_
    obtain ⟨r19, hc20, hF⟩ := bd_some hF
    have hPc := hP.sub (ws' := [o3 h a_text a_steps x_size x_place x_stepCount x_number x_caught, aI G a_text 120 f_text]) [0, 2] rfl
    have hDc := hD.sub (ws' := [o3 h a_text a_steps x_size x_place x_stepCount x_number x_caught, aI G a_text 120 f_text]) [0, 2] (by decide) rfl
    have hFc := va_free (wc := [o3 h a_text a_steps x_size x_place x_stepCount x_number x_caught, aI G a_text 120 f_text]) hD hS hA [0, 2] rfl
    have hM := c_X3_passes l G h a_text a_steps x_size x_place x_stepCount x_number x_caught f_text (40 : Int32) r19.1 r19.2 hc20 H.size
    refine cl_i (w1 := [o3 h a_text a_steps x_size r19.2 x_stepCount x_number x_caught, aI G a_text 120 f_text]) (ws' := [o3 h a_text a_steps x_size r19.2 x_stepCount x_number x_caught, aI G a_steps 120 f_steps, aI G a_text 120 f_text]) hP hD hS hFc [0, 2] rfl rfl rfl (va_runV (As := [.int 40]) (rest := []) ⟨hx, hb, hml, hown, hts⟩ hM (cwV 1 hts gX3_readsOne_X3_passes rfl rfl rfl (by decide +kernel) ⟨(by show 1 + 1 ≤ 10 + (d + 1); omega), (by show 8 + (2 + 11) + 20 ≤ 300 + 60 * (d + 1); omega)⟩) (cp_V hK hE hS hPc hDc hFc (va_recv hK hPc (ci := 3) (q0 := 0) rfl rfl)) rfl rfl hl.1 rfl (lv_room (Nat.le_of_ble_eq_true rfl)) dX3_readsOne_48 ⟨Nat.zero_le _, Nat.zero_le _⟩) (fun H locs hP hD hS => ?_)
    refine lv_if_eq (tgt := 79) hx hb dX3_readsOne_51 (by decide) (fun c21 => ?_) (fun c21 => ?_)
    · rw [if_pos c21] at hF
      exact B79 _ _ _ _ H locs ls hP hD hS (lv_sub hl [0] rfl) hF
    rw [if_neg c21] at hF
    refine lv_aload_n hx hb dX3_readsOne_54 rfl (lv_at hl 0 rfl) ?_
    refine lv_iload_n hx hb dX3_readsOne_55 rfl (lv_at hl 1 rfl) ?_
    refine lv_iconst (v := 1) hx hb dX3_readsOne_56 (by decide) ?_
    refine lv_iadd hx hb dX3_readsOne_57 ?_
    obtain ⟨r22, hc23, hF⟩ := bd_some hF
    have hPc := hP.sub (ws' := [o3 h a_text a_steps x_size r19.2 x_stepCount x_number x_caught, aI G a_steps 120 f_steps, aI G a_text 120 f_text]) [0, 1, 2] rfl
    have hDc := hD.sub (ws' := [o3 h a_text a_steps x_size r19.2 x_stepCount x_number x_caught, aI G a_steps 120 f_steps, aI G a_text 120 f_text]) [0, 1, 2] (by decide) rfl
    have hFc := va_free (wc := [o3 h a_text a_steps x_size r19.2 x_stepCount x_number x_caught, aI G a_steps 120 f_steps, aI G a_text 120 f_text]) hD hS hA [0, 1, 2] rfl
    have hM := hg_X3_readsAny h a_text a_steps x_size r19.2 x_stepCount x_number x_caught f_steps f_text (l1 + 1) r22.1 r22.2.1 r22.2.2.1 r22.2.2.2.1 r22.2.2.2.2 hc23 H.size
    refine cl_i (w1 := [o3 h a_text a_steps x_size r22.2.1 r22.2.2.1 r22.2.2.2.1 x_caught, aI G a_steps 120 r22.2.2.2.2, aI G a_text 120 f_text]) (ws' := [o3 h a_text a_steps x_size r22.2.1 r22.2.2.1 r22.2.2.2.1 x_caught, aI G a_steps 120 r22.2.2.2.2, aI G a_text 120 f_text]) hP hD hS hFc [0, 1, 2] rfl rfl rfl (va_runV (As := [.int (l1 + 1)]) (rest := []) ⟨hx, hb, hml, hown, hts⟩ hM (cwV 1 hts gX3_readsOne_X3_readsAny rfl rfl rfl (by decide +kernel) ⟨(by show (10 + d) + 1 ≤ 10 + (d + 1); omega), (by show 8 + (4 + 11) + (300 + 60 * d) ≤ 300 + 60 * (d + 1); omega)⟩) (cp_V hK hE hS hPc hDc hFc (va_recv hK hPc (ci := 3) (q0 := 0) rfl rfl)) rfl rfl hl.1 rfl (lv_room (Nat.le_of_ble_eq_true rfl)) dX3_readsOne_58 ⟨Nat.zero_le _, Nat.zero_le _⟩) (fun H locs hP hD hS => ?_)
    refine lv_if_eq (tgt := 77) hx hb dX3_readsOne_61 (by decide) (fun c24 => ?_) (fun c24 => ?_)
    · rw [if_pos c24] at hF
      refine W.eq (g2 := F0 m 77 ls []) rfl ?_
      refine lv_iconst (v := 0) hx hb dX3_readsOne_77 (by decide) ?_
      injection hF with hz
      injection hz with hq0 hz
      injection hz with hq1 hz
      injection hz with hq2 hz
      injection hz with hq3 hz
      subst hq0
      subst hq1
      subst hq2
      subst hq3
      subst hz
      exact cm_reti hx hb hr (by decide) hlk hK hP hD hS dX3_readsOne_78
    rw [if_neg c24] at hF
    refine W.eq (g2 := F0 m 64 ls []) rfl ?_
    refine lv_aload_n hx hb dX3_readsOne_64 rfl (lv_at hl 0 rfl) ?_
    refine lv_bipush (v := 41) hx hb dX3_readsOne_65 (by decide) ?_
    obtain ⟨r25, hc26, hF⟩ := bd_some hF
    have hPc := hP.sub (ws' := [o3 h a_text a_steps x_size r22.2.1 r22.2.2.1 r22.2.2.2.1 x_caught, aI G a_text 120 f_text]) [0, 2] rfl
    have hDc := hD.sub (ws' := [o3 h a_text a_steps x_size r22.2.1 r22.2.2.1 r22.2.2.2.1 x_caught, aI G a_text 120 f_text]) [0, 2] (by decide) rfl
    have hFc := va_free (wc := [o3 h a_text a_steps x_size r22.2.1 r22.2.2.1 r22.2.2.2.1 x_caught, aI G a_text 120 f_text]) hD hS hA [0, 2] rfl
    have hM := c_X3_passes l G h a_text a_steps x_size r22.2.1 r22.2.2.1 r22.2.2.2.1 x_caught f_text (41 : Int32) r25.1 r25.2 hc26 H.size
    refine cl_i (w1 := [o3 h a_text a_steps x_size r25.2 r22.2.2.1 r22.2.2.2.1 x_caught, aI G a_text 120 f_text]) (ws' := [o3 h a_text a_steps x_size r25.2 r22.2.2.1 r22.2.2.2.1 x_caught, aI G a_steps 120 r22.2.2.2.2, aI G a_text 120 f_text]) hP hD hS hFc [0, 2] rfl rfl rfl (va_runV (As := [.int 41]) (rest := []) ⟨hx, hb, hml, hown, hts⟩ hM (cwV 1 hts gX3_readsOne_X3_passes rfl rfl rfl (by decide +kernel) ⟨(by show 1 + 1 ≤ 10 + (d + 1); omega), (by show 8 + (2 + 11) + 20 ≤ 300 + 60 * (d + 1); omega)⟩) (cp_V hK hE hS hPc hDc hFc (va_recv hK hPc (ci := 3) (q0 := 0) rfl rfl)) rfl rfl hl.1 rfl (lv_room (Nat.le_of_ble_eq_true rfl)) dX3_readsOne_67 ⟨Nat.zero_le _, Nat.zero_le _⟩) (fun H locs hP hD hS => ?_)
    refine lv_if_eq (tgt := 77) hx hb dX3_readsOne_70 (by decide) (fun c27 => ?_) (fun c27 => ?_)
    · rw [if_pos c27] at hF
      refine lv_iconst (v := 0) hx hb dX3_readsOne_77 (by decide) ?_
      injection hF with hz
      injection hz with hq0 hz
      injection hz with hq1 hz
      injection hz with hq2 hz
      injection hz with hq3 hz
      subst hq0
      subst hq1
      subst hq2
      subst hq3
      subst hz
      exact cm_reti hx hb hr (by decide) hlk hK hP hD hS dX3_readsOne_78
    rw [if_neg c27] at hF
    refine lv_iconst (v := 1) hx hb dX3_readsOne_73 (by decide) ?_
    refine lv_goto (tgt := 78) hx hb dX3_readsOne_74 (by decide) ?_
    injection hF with hz
    injection hz with hq0 hz
    injection hz with hq1 hz
    injection hz with hq2 hz
    injection hz with hq3 hz
    subst hq0
    subst hq1
    subst hq2
    subst hq3
    subst hz
    exact cm_reti hx hb hr (by decide) hlk hK hP hD hS dX3_readsOne_78
  intro hF
  unfold fX3_readsOne at hF
  refine lv_iload_n hx hb dX3_readsOne_0 rfl (lv_at hl 1 rfl) ?_
  refine lv_iconst (v := 5) hx hb dX3_readsOne_1 (by decide) ?_
  refine lv_icmp_ge (tgt := 40) hx hb dX3_readsOne_2 (by decide) (fun c1 => ?_) (fun c1 => ?_)
  · rw [if_pos c1] at hF
    exact B40 _ _ _ _ _ H locs ls hP hD hS (lv_sub hl [0, 1] rfl) hF
  rw [if_neg c1] at hF
  refine lv_aload_n hx hb dX3_readsOne_5 rfl (lv_at hl 0 rfl) ?_
  refine lv_bipush (v := 33) hx hb dX3_readsOne_6 (by decide) ?_
  obtain ⟨r28, hc29, hF⟩ := bd_some hF
  have hPc := hP.sub (ws' := [o3 h a_text a_steps x_size x_place x_stepCount x_number x_caught, aI G a_text 120 f_text]) [0, 2] rfl
  have hDc := hD.sub (ws' := [o3 h a_text a_steps x_size x_place x_stepCount x_number x_caught, aI G a_text 120 f_text]) [0, 2] (by decide) rfl
  have hFc := va_free (wc := [o3 h a_text a_steps x_size x_place x_stepCount x_number x_caught, aI G a_text 120 f_text]) hD hS hA [0, 2] rfl
  have hM := c_X3_passes l G h a_text a_steps x_size x_place x_stepCount x_number x_caught f_text (33 : Int32) r28.1 r28.2 hc29 H.size
  refine cl_i (w1 := [o3 h a_text a_steps x_size r28.2 x_stepCount x_number x_caught, aI G a_text 120 f_text]) (ws' := [o3 h a_text a_steps x_size r28.2 x_stepCount x_number x_caught, aI G a_steps 120 f_steps, aI G a_text 120 f_text]) hP hD hS hFc [0, 2] rfl rfl rfl (va_runV (As := [.int 33]) (rest := []) ⟨hx, hb, hml, hown, hts⟩ hM (cwV 1 hts gX3_readsOne_X3_passes rfl rfl rfl (by decide +kernel) ⟨(by show 1 + 1 ≤ 10 + (d + 1); omega), (by show 8 + (2 + 11) + 20 ≤ 300 + 60 * (d + 1); omega)⟩) (cp_V hK hE hS hPc hDc hFc (va_recv hK hPc (ci := 3) (q0 := 0) rfl rfl)) rfl rfl hl.1 rfl (lv_room (Nat.le_of_ble_eq_true rfl)) dX3_readsOne_8 ⟨Nat.zero_le _, Nat.zero_le _⟩) (fun H locs hP hD hS => ?_)
  refine lv_if_eq (tgt := 40) hx hb dX3_readsOne_11 (by decide) (fun c30 => ?_) (fun c30 => ?_)
  · rw [if_pos c30] at hF
    exact B40 _ _ _ _ _ H locs ls hP hD hS (lv_sub hl [0, 1] rfl) hF
  rw [if_neg c30] at hF
  refine lv_aload_n hx hb dX3_readsOne_14 rfl (lv_at hl 0 rfl) ?_
  refine lv_iload_n hx hb dX3_readsOne_15 rfl (lv_at hl 1 rfl) ?_
  refine lv_iconst (v := 1) hx hb dX3_readsOne_16 (by decide) ?_
  refine lv_iadd hx hb dX3_readsOne_17 ?_
  obtain ⟨r31, hc32, hF⟩ := bd_some hF
  have hPc := hP.sub (ws' := [o3 h a_text a_steps x_size r28.2 x_stepCount x_number x_caught, aI G a_steps 120 f_steps, aI G a_text 120 f_text]) [0, 1, 2] rfl
  have hDc := hD.sub (ws' := [o3 h a_text a_steps x_size r28.2 x_stepCount x_number x_caught, aI G a_steps 120 f_steps, aI G a_text 120 f_text]) [0, 1, 2] (by decide) rfl
  have hFc := va_free (wc := [o3 h a_text a_steps x_size r28.2 x_stepCount x_number x_caught, aI G a_steps 120 f_steps, aI G a_text 120 f_text]) hD hS hA [0, 1, 2] rfl
  have hM := hg_X3_readsOne h a_text a_steps x_size r28.2 x_stepCount x_number x_caught f_steps f_text (l1 + 1) r31.1 r31.2.1 r31.2.2.1 r31.2.2.2.1 r31.2.2.2.2 hc32 H.size
  refine cl_i (w1 := [o3 h a_text a_steps x_size r31.2.1 r31.2.2.1 r31.2.2.2.1 x_caught, aI G a_steps 120 r31.2.2.2.2, aI G a_text 120 f_text]) (ws' := [o3 h a_text a_steps x_size r31.2.1 r31.2.2.1 r31.2.2.2.1 x_caught, aI G a_steps 120 r31.2.2.2.2, aI G a_text 120 f_text]) hP hD hS hFc [0, 1, 2] rfl rfl rfl (va_runV (As := [.int (l1 + 1)]) (rest := []) ⟨hx, hb, hml, hown, hts⟩ hM (cwV 1 hts gX3_readsOne_X3_readsOne rfl rfl rfl (by decide +kernel) ⟨(by show (10 + d) + 1 ≤ 10 + (d + 1); omega), (by show 8 + (4 + 11) + (300 + 60 * d) ≤ 300 + 60 * (d + 1); omega)⟩) (cp_V hK hE hS hPc hDc hFc (va_recv hK hPc (ci := 3) (q0 := 0) rfl rfl)) rfl rfl hl.1 rfl (lv_room (Nat.le_of_ble_eq_true rfl)) dX3_readsOne_18 ⟨Nat.zero_le _, Nat.zero_le _⟩) (fun H locs hP hD hS => ?_)
  refine lv_if_eq (tgt := 38) hx hb dX3_readsOne_21 (by decide) (fun c33 => ?_) (fun c33 => ?_)
  · rw [if_pos c33] at hF
    refine W.eq (g2 := F0 m 38 ls []) rfl ?_
    refine lv_iconst (v := 0) hx hb dX3_readsOne_38 (by decide) ?_
    injection hF with hz
    injection hz with hq0 hz
    injection hz with hq1 hz
    injection hz with hq2 hz
    injection hz with hq3 hz
    subst hq0
    subst hq1
    subst hq2
    subst hq3
    subst hz
    exact cm_reti hx hb hr (by decide) hlk hK hP hD hS dX3_readsOne_39
  rw [if_neg c33] at hF
  refine W.eq (g2 := F0 m 24 ls []) rfl ?_
  refine lv_aload_n hx hb dX3_readsOne_24 rfl (lv_at hl 0 rfl) ?_
  refine lv_bipush (v := 15) hx hb dX3_readsOne_25 (by decide) ?_
  refine lv_iconst (v := 0) hx hb dX3_readsOne_27 (by decide) ?_
  obtain ⟨r34, hc35, hF⟩ := bd_some hF
  have hPc := hP.sub (ws' := [o3 h a_text a_steps x_size r31.2.1 r31.2.2.1 r31.2.2.2.1 x_caught, aI G a_steps 120 r31.2.2.2.2]) [0, 1] rfl
  have hDc := hD.sub (ws' := [o3 h a_text a_steps x_size r31.2.1 r31.2.2.1 r31.2.2.2.1 x_caught, aI G a_steps 120 r31.2.2.2.2]) [0, 1] (by decide) rfl
  have hFc := va_free (wc := [o3 h a_text a_steps x_size r31.2.1 r31.2.2.1 r31.2.2.2.1 x_caught, aI G a_steps 120 r31.2.2.2.2]) hD hS hA [0, 1] rfl
  have hM := c_X3_adds l G h a_text a_steps x_size r31.2.1 r31.2.2.1 r31.2.2.2.1 x_caught r31.2.2.2.2 (15 : Int32) (0 : Int32) r34.1 r34.2.1 r34.2.2 hc35 H.size
  refine cl_i (w1 := [o3 h a_text a_steps x_size r31.2.1 r34.2.1 r31.2.2.2.1 x_caught, aI G a_steps 120 r34.2.2]) (ws' := [o3 h a_text a_steps x_size r31.2.1 r34.2.1 r31.2.2.2.1 x_caught, aI G a_steps 120 r34.2.2, aI G a_text 120 f_text]) hP hD hS hFc [0, 1] rfl rfl rfl (va_runV (As := [.int 15, .int 0]) (rest := []) ⟨hx, hb, hml, hown, hts⟩ hM (cwV 2 hts gX3_readsOne_X3_adds rfl rfl rfl (by decide +kernel) ⟨(by show 0 + 1 ≤ 10 + (d + 1); omega), (by show 8 + (3 + 11) + 0 ≤ 300 + 60 * (d + 1); omega)⟩) (cp_V hK hE hS hPc hDc hFc (va_recv hK hPc (ci := 3) (q0 := 0) rfl rfl)) rfl rfl hl.1 rfl (lv_room (Nat.le_of_ble_eq_true rfl)) dX3_readsOne_28 ⟨Nat.zero_le _, Nat.zero_le _⟩) (fun H locs hP hD hS => ?_)
  refine lv_if_eq (tgt := 38) hx hb dX3_readsOne_31 (by decide) (fun c36 => ?_) (fun c36 => ?_)
  · rw [if_pos c36] at hF
    refine lv_iconst (v := 0) hx hb dX3_readsOne_38 (by decide) ?_
    injection hF with hz
    injection hz with hq0 hz
    injection hz with hq1 hz
    injection hz with hq2 hz
    injection hz with hq3 hz
    subst hq0
    subst hq1
    subst hq2
    subst hq3
    subst hz
    exact cm_reti hx hb hr (by decide) hlk hK hP hD hS dX3_readsOne_39
  rw [if_neg c36] at hF
  refine lv_iconst (v := 1) hx hb dX3_readsOne_34 (by decide) ?_
  refine lv_goto (tgt := 39) hx hb dX3_readsOne_35 (by decide) ?_
  injection hF with hz
  injection hz with hq0 hz
  injection hz with hq1 hz
  injection hz with hq2 hz
  injection hz with hq3 hz
  subst hq0
  subst hq1
  subst hq2
  subst hq3
  subst hz
  exact cm_reti hx hb hr (by decide) hlk hK hP hD hS dX3_readsOne_39

/-! HeadsByHair$Reader.readsAll(I)Z -/
set_option maxHeartbeats 4000000 in
set_option maxRecDepth 100000 in
theorem c_X3_readsAll (l : Launch) (G : GG) (d : Nat) (g_X3_readsOne : Int32 → Int32 → Int32 → Int32 → (Nat → Int32) → (Nat → Int32) → Int32 → Option (Int32 × Int32 × Int32 × Int32 × (Nat → Int32))) (hg_X3_readsOne : ∀ (h a_text a_steps : Nat) (x_size x_place x_stepCount x_number x_caught : Int32) (f_steps f_text : Nat → Int32) (l1 : Int32) (z : Int32) (z_x_place : Int32) (z_x_stepCount : Int32) (z_x_number : Int32) (z_f_steps : Nat → Int32), g_X3_readsOne x_size x_place x_stepCount x_number f_steps f_text l1 = some (z, z_x_place, z_x_stepCount, z_x_number, z_f_steps) → CMi l yX3_readsOne wsX3_readsOne (rg_tR d) G [o3 h a_text a_steps x_size x_place x_stepCount x_number x_caught, aI G a_steps 120 f_steps, aI G a_text 120 f_text] [o3 h a_text a_steps x_size z_x_place z_x_stepCount z_x_number x_caught, aI G a_steps 120 z_f_steps, aI G a_text 120 f_text] [.ref h, .int l1] z) (g_X3_readsAll : Int32 → Int32 → Int32 → Int32 → (Nat → Int32) → (Nat → Int32) → Int32 → Option (Int32 × Int32 × Int32 × Int32 × (Nat → Int32))) (hg_X3_readsAll : ∀ (h a_text a_steps : Nat) (x_size x_place x_stepCount x_number x_caught : Int32) (f_steps f_text : Nat → Int32) (l1 : Int32) (z : Int32) (z_x_place : Int32) (z_x_stepCount : Int32) (z_x_number : Int32) (z_f_steps : Nat → Int32), g_X3_readsAll x_size x_place x_stepCount x_number f_steps f_text l1 = some (z, z_x_place, z_x_stepCount, z_x_number, z_f_steps) → CMi l yX3_readsAll wsX3_readsAll (rg_tR d) G [o3 h a_text a_steps x_size x_place x_stepCount x_number x_caught, aI G a_steps 120 f_steps, aI G a_text 120 f_text] [o3 h a_text a_steps x_size z_x_place z_x_stepCount z_x_number x_caught, aI G a_steps 120 z_f_steps, aI G a_text 120 f_text] [.ref h, .int l1] z) (g_X3_readsAny : Int32 → Int32 → Int32 → Int32 → (Nat → Int32) → (Nat → Int32) → Int32 → Option (Int32 × Int32 × Int32 × Int32 × (Nat → Int32))) (hg_X3_readsAny : ∀ (h a_text a_steps : Nat) (x_size x_place x_stepCount x_number x_caught : Int32) (f_steps f_text : Nat → Int32) (l1 : Int32) (z : Int32) (z_x_place : Int32) (z_x_stepCount : Int32) (z_x_number : Int32) (z_f_steps : Nat → Int32), g_X3_readsAny x_size x_place x_stepCount x_number f_steps f_text l1 = some (z, z_x_place, z_x_stepCount, z_x_number, z_f_steps) → CMi l yX3_readsAny wsX3_readsAny (rg_tR d) G [o3 h a_text a_steps x_size x_place x_stepCount x_number x_caught, aI G a_steps 120 f_steps, aI G a_text 120 f_text] [o3 h a_text a_steps x_size z_x_place z_x_stepCount z_x_number x_caught, aI G a_steps 120 z_f_steps, aI G a_text 120 f_text] [.ref h, .int l1] z) (h a_text a_steps : Nat) (x_size x_place x_stepCount x_number x_caught : Int32) (f_steps : Nat → Int32) (f_text : Nat → Int32) (l1 : Int32) (z : Int32) (z_x_place : Int32) (z_x_stepCount : Int32) (z_x_number : Int32) (z_f_steps : Nat → Int32) (hF : fX3_readsAll g_X3_readsOne g_X3_readsAll g_X3_readsAny x_size x_place x_stepCount x_number f_steps f_text l1 = some (z, z_x_place, z_x_stepCount, z_x_number, z_f_steps)) : CMi l yX3_readsAll wsX3_readsAll (rg_tR (d + 1)) G [o3 h a_text a_steps x_size x_place x_stepCount x_number x_caught, aI G a_steps 120 f_steps, aI G a_text 120 f_text] [o3 h a_text a_steps x_size z_x_place z_x_stepCount z_x_number x_caught, aI G a_steps 120 z_f_steps, aI G a_text 120 f_text] [.ref h, .int l1] z := by
  refine cm_start (cc := cX3_readsAll) (maxL := 4) (ret := (some .boolean)) (Qc := fun A => QI G [o3 h a_text a_steps x_size z_x_place z_x_stepCount z_x_number x_caught, aI G a_steps 120 z_f_steps, aI G a_text 120 f_text] z A) (by decide +kernel) rfl (Nat.le_of_ble_eq_true rfl) ?_
  intro p e s m args below meth c A hx hb hr hlk hml hown hnm hts hA H locs hP hK hD hE hS ls hl
  have hown : s.vm.findClass RX3 = some m.cls := hown
  have hl : lv_has ls 4 [(0, .ref h), (1, .int l1)] := hl
  have hin3 : ∀ w ∈ wsX30, w ∈ wsX3_readsAll := by decide +kernel
  have lk_24 := hts (.fieldLink RX3 24 "HeadsByHair$Reader" "size" "I") (by decide +kernel)
  revert hF
  have LP8 : ∀ (l1 : Int32) (n : Nat) (x_place : Int32) (x_stepCount : Int32) (x_number : Int32) (f_steps : Nat → Int32) (l2 : Int32) (l3 : Int32) (H : Heap) (locs : List Loc) (ls : Array Slot), va_P G.1 vwCl [o3 h a_text a_steps x_size x_place x_stepCount x_number x_caught, aI G a_steps 120 f_steps, aI G a_text 120 f_text] H → va_D A [o3 h a_text a_steps x_size x_place x_stepCount x_number x_caught, aI G a_steps 120 f_steps, aI G a_text 120 f_text] → va_S A s.heap H locs → lv_has ls 4 [(0, .ref h), (1, .int l1), (2, .int l2), (3, .int l3)] → fX3_readsAll_L8 g_X3_readsOne g_X3_readsAll g_X3_readsAny x_size f_text l1 n x_place x_stepCount x_number f_steps l2 l3 = some (z, z_x_place, z_x_stepCount, z_x_number, z_f_steps) → W p l e ((rg_tR (d + 1))) s m args below meth c H locs 0 0 (MQ below (QI G [o3 h a_text a_steps x_size z_x_place z_x_stepCount z_x_number x_caught, aI G a_steps 120 z_f_steps, aI G a_text 120 f_text] z A) args s 0 0 A) (F0 m 8 ls []) := by
    intro l1 n
    induction n with
    | zero =>
      intro x_place x_stepCount x_number f_steps l2 l3 H locs ls hP hD hS hl hF
      cases hF
    | succ n ih =>
      intro x_place x_stepCount x_number f_steps l2 l3 H locs ls hP hD hS hl hF
      rw [fX3_readsAll_L8] at hF
      refine lv_iload_n hx hb dX3_readsAll_8 rfl (lv_at hl 3 rfl) ?_
      refine lv_aload_n hx hb dX3_readsAll_9 rfl (lv_at hl 0 rfl) ?_
      refine va_get (D := G.1) (ci := 3) (v := .int x_size) (C := RX3) (T := TX3) (N := 7) hx hb hts hin3 hown hK hP 0 rfl rfl 2 (by decide) lk_24 (fun _ h9 => h9) rfl dX3_readsAll_10 ?_
      refine lv_icmp_ge (tgt := 59) hx hb dX3_readsAll_13 (by decide) (fun c3 => ?_) (fun c3 => ?_)
      · rw [if_pos c3] at hF
        refine lv_iload_n hx hb dX3_readsAll_59 rfl (lv_at hl 2 rfl) ?_
        obtain ⟨hb4, hF⟩ := ck_some hF
        injection hF with hz
        injection hz with hq0 hz
        injection hz with hq1 hz
        injection hz with hq2 hz
        injection hz with hq3 hz
        subst hq0
        subst hq1
        subst hq2
        subst hq3
        subst hz
        exact cm_reti hx hb hr (nb_ok hb4).1 hlk hK hP hD hS dX3_readsAll_60
      rw [if_neg c3] at hF
      refine lv_iload_n hx hb dX3_readsAll_16 rfl (lv_at hl 2 rfl) ?_
      refine lv_if_eq (tgt := 59) hx hb dX3_readsAll_17 (by decide) (fun c5 => ?_) (fun c5 => ?_)
      · rw [if_pos c5] at hF
        refine lv_iload_n hx hb dX3_readsAll_59 rfl (lv_at hl 2 rfl) ?_
        obtain ⟨hb6, hF⟩ := ck_some hF
        injection hF with hz
        injection hz with hq0 hz
        injection hz with hq1 hz
        injection hz with hq2 hz
        injection hz with hq3 hz
        subst hq0
        subst hq1
        subst hq2
        subst hq3
        subst hz
        exact cm_reti hx hb hr (nb_ok hb6).1 hlk hK hP hD hS dX3_readsAll_60
      rw [if_neg c5] at hF
      refine lv_aload_n hx hb dX3_readsAll_20 rfl (lv_at hl 0 rfl) ?_
      refine lv_bipush (v := 38) hx hb dX3_readsAll_21 (by decide) ?_
      obtain ⟨r7, hc8, hF⟩ := bd_some hF
      have hPc := hP.sub (ws' := [o3 h a_text a_steps x_size x_place x_stepCount x_number x_caught, aI G a_text 120 f_text]) [0, 2] rfl
      have hDc := hD.sub (ws' := [o3 h a_text a_steps x_size x_place x_stepCount x_number x_caught, aI G a_text 120 f_text]) [0, 2] (by decide) rfl
      have hFc := va_free (wc := [o3 h a_text a_steps x_size x_place x_stepCount x_number x_caught, aI G a_text 120 f_text]) hD hS hA [0, 2] rfl
      have hM := c_X3_passes l G h a_text a_steps x_size x_place x_stepCount x_number x_caught f_text (38 : Int32) r7.1 r7.2 hc8 H.size
      refine cl_i (w1 := [o3 h a_text a_steps x_size r7.2 x_stepCount x_number x_caught, aI G a_text 120 f_text]) (ws' := [o3 h a_text a_steps x_size r7.2 x_stepCount x_number x_caught, aI G a_steps 120 f_steps, aI G a_text 120 f_text]) hP hD hS hFc [0, 2] rfl rfl rfl (va_runV (As := [.int 38]) (rest := []) ⟨hx, hb, hml, hown, hts⟩ hM (cwV 1 hts gX3_readsAll_X3_passes rfl rfl rfl (by decide +kernel) ⟨(by show 1 + 1 ≤ 10 + (d + 1); omega), (by show 8 + (2 + 11) + 20 ≤ 300 + 60 * (d + 1); omega)⟩) (cp_V hK hE hS hPc hDc hFc (va_recv hK hPc (ci := 3) (q0 := 0) rfl rfl)) rfl rfl hl.1 rfl (lv_room (Nat.le_of_ble_eq_true rfl)) dX3_readsAll_23 ⟨Nat.zero_le _, Nat.zero_le _⟩) (fun H locs hP hD hS => ?_)
      refine lv_if_eq (tgt := 59) hx hb dX3_readsAll_26 (by decide) (fun c9 => ?_) (fun c9 => ?_)
      · rw [if_pos c9] at hF
        refine lv_iload_n hx hb dX3_readsAll_59 rfl (lv_at hl 2 rfl) ?_
        obtain ⟨hb10, hF⟩ := ck_some hF
        injection hF with hz
        injection hz with hq0 hz
        injection hz with hq1 hz
        injection hz with hq2 hz
        injection hz with hq3 hz
        subst hq0
        subst hq1
        subst hq2
        subst hq3
        subst hz
        exact cm_reti hx hb hr (nb_ok hb10).1 hlk hK hP hD hS dX3_readsAll_60
      rw [if_neg c9] at hF
      refine lv_aload_n hx hb dX3_readsAll_29 rfl (lv_at hl 0 rfl) ?_
      refine lv_iload_n hx hb dX3_readsAll_30 rfl (lv_at hl 1 rfl) ?_
      obtain ⟨r11, hc12, hF⟩ := bd_some hF
      have hPc := hP.sub (ws' := [o3 h a_text a_steps x_size r7.2 x_stepCount x_number x_caught, aI G a_steps 120 f_steps, aI G a_text 120 f_text]) [0, 1, 2] rfl
      have hDc := hD.sub (ws' := [o3 h a_text a_steps x_size r7.2 x_stepCount x_number x_caught, aI G a_steps 120 f_steps, aI G a_text 120 f_text]) [0, 1, 2] (by decide) rfl
      have hFc := va_free (wc := [o3 h a_text a_steps x_size r7.2 x_stepCount x_number x_caught, aI G a_steps 120 f_steps, aI G a_text 120 f_text]) hD hS hA [0, 1, 2] rfl
      have hM := hg_X3_readsOne h a_text a_steps x_size r7.2 x_stepCount x_number x_caught f_steps f_text l1 r11.1 r11.2.1 r11.2.2.1 r11.2.2.2.1 r11.2.2.2.2 hc12 H.size
      refine cl_i (w1 := [o3 h a_text a_steps x_size r11.2.1 r11.2.2.1 r11.2.2.2.1 x_caught, aI G a_steps 120 r11.2.2.2.2, aI G a_text 120 f_text]) (ws' := [o3 h a_text a_steps x_size r11.2.1 r11.2.2.1 r11.2.2.2.1 x_caught, aI G a_steps 120 r11.2.2.2.2, aI G a_text 120 f_text]) hP hD hS hFc [0, 1, 2] rfl rfl rfl (va_runV (As := [.int l1]) (rest := []) ⟨hx, hb, hml, hown, hts⟩ hM (cwV 1 hts gX3_readsAll_X3_readsOne rfl rfl rfl (by decide +kernel) ⟨(by show (10 + d) + 1 ≤ 10 + (d + 1); omega), (by show 8 + (4 + 11) + (300 + 60 * d) ≤ 300 + 60 * (d + 1); omega)⟩) (cp_V hK hE hS hPc hDc hFc (va_recv hK hPc (ci := 3) (q0 := 0) rfl rfl)) rfl rfl hl.1 rfl (lv_room (Nat.le_of_ble_eq_true rfl)) dX3_readsAll_31 ⟨Nat.zero_le _, Nat.zero_le _⟩) (fun H locs hP hD hS => ?_)
      refine W.eq (g2 := F0 m 34 ls [.int r11.1]) rfl ?_
      refine lv_if_eq (tgt := 51) hx hb dX3_readsAll_34 (by decide) (fun c13 => ?_) (fun c13 => ?_)
      · rw [if_pos c13] at hF
        refine lv_iconst (v := 0) hx hb dX3_readsAll_51 (by decide) ?_
        refine lv_istore_n (lv' := [(2, .int 0), (0, .ref h), (1, .int l1), (3, .int l3)]) hx hb dX3_readsAll_52 rfl hl (by decide) rfl (fun ls hl => ?_)
        refine lv_iinc (v := l3 + 1) (lv' := [(3, .int (l3 + 1)), (2, .int 0), (0, .ref h), (1, .int l1)]) hx hb dX3_readsAll_53 hl (k := 3) rfl rfl (by decide) rfl (fun ls hl => ?_)
        refine lv_goto (tgt := 8) hx hb dX3_readsAll_56 (by decide) ?_
        exact ih _ _ _ _ _ _ H locs ls hP hD hS (lv_sub hl [2, 3, 1, 0] rfl) hF
      rw [if_neg c13] at hF
      refine lv_aload_n hx hb dX3_readsAll_37 rfl (lv_at hl 0 rfl) ?_
      refine lv_bipush (v := 16) hx hb dX3_readsAll_38 (by decide) ?_
      refine lv_iconst (v := 0) hx hb dX3_readsAll_40 (by decide) ?_
      obtain ⟨r14, hc15, hF⟩ := bd_some hF
      have hPc := hP.sub (ws' := [o3 h a_text a_steps x_size r11.2.1 r11.2.2.1 r11.2.2.2.1 x_caught, aI G a_steps 120 r11.2.2.2.2]) [0, 1] rfl
      have hDc := hD.sub (ws' := [o3 h a_text a_steps x_size r11.2.1 r11.2.2.1 r11.2.2.2.1 x_caught, aI G a_steps 120 r11.2.2.2.2]) [0, 1] (by decide) rfl
      have hFc := va_free (wc := [o3 h a_text a_steps x_size r11.2.1 r11.2.2.1 r11.2.2.2.1 x_caught, aI G a_steps 120 r11.2.2.2.2]) hD hS hA [0, 1] rfl
      have hM := c_X3_adds l G h a_text a_steps x_size r11.2.1 r11.2.2.1 r11.2.2.2.1 x_caught r11.2.2.2.2 (16 : Int32) (0 : Int32) r14.1 r14.2.1 r14.2.2 hc15 H.size
      refine cl_i (w1 := [o3 h a_text a_steps x_size r11.2.1 r14.2.1 r11.2.2.2.1 x_caught, aI G a_steps 120 r14.2.2]) (ws' := [o3 h a_text a_steps x_size r11.2.1 r14.2.1 r11.2.2.2.1 x_caught, aI G a_steps 120 r14.2.2, aI G a_text 120 f_text]) hP hD hS hFc [0, 1] rfl rfl rfl (va_runV (As := [.int 16, .int 0]) (rest := []) ⟨hx, hb, hml, hown, hts⟩ hM (cwV 2 hts gX3_readsAll_X3_adds rfl rfl rfl (by decide +kernel) ⟨(by show 0 + 1 ≤ 10 + (d + 1); omega), (by show 8 + (3 + 11) + 0 ≤ 300 + 60 * (d + 1); omega)⟩) (cp_V hK hE hS hPc hDc hFc (va_recv hK hPc (ci := 3) (q0 := 0) rfl rfl)) rfl rfl hl.1 rfl (lv_room (Nat.le_of_ble_eq_true rfl)) dX3_readsAll_41 ⟨Nat.zero_le _, Nat.zero_le _⟩) (fun H locs hP hD hS => ?_)
      refine lv_if_eq (tgt := 51) hx hb dX3_readsAll_44 (by decide) (fun c16 => ?_) (fun c16 => ?_)
      · rw [if_pos c16] at hF
        refine lv_iconst (v := 0) hx hb dX3_readsAll_51 (by decide) ?_
        refine lv_istore_n (lv' := [(2, .int 0), (0, .ref h), (1, .int l1), (3, .int l3)]) hx hb dX3_readsAll_52 rfl hl (by decide) rfl (fun ls hl => ?_)
        refine lv_iinc (v := l3 + 1) (lv' := [(3, .int (l3 + 1)), (2, .int 0), (0, .ref h), (1, .int l1)]) hx hb dX3_readsAll_53 hl (k := 3) rfl rfl (by decide) rfl (fun ls hl => ?_)
        refine lv_goto (tgt := 8) hx hb dX3_readsAll_56 (by decide) ?_
        exact ih _ _ _ _ _ _ H locs ls hP hD hS (lv_sub hl [2, 3, 1, 0] rfl) hF
      rw [if_neg c16] at hF
      refine lv_iconst (v := 1) hx hb dX3_readsAll_47 (by decide) ?_
      refine lv_goto (tgt := 52) hx hb dX3_readsAll_48 (by decide) ?_
      refine lv_istore_n (lv' := [(2, .int 1), (0, .ref h), (1, .int l1), (3, .int l3)]) hx hb dX3_readsAll_52 rfl hl (by decide) rfl (fun ls hl => ?_)
      refine lv_iinc (v := l3 + 1) (lv' := [(3, .int (l3 + 1)), (2, .int 1), (0, .ref h), (1, .int l1)]) hx hb dX3_readsAll_53 hl (k := 3) rfl rfl (by decide) rfl (fun ls hl => ?_)
      refine lv_goto (tgt := 8) hx hb dX3_readsAll_56 (by decide) ?_
      exact ih _ _ _ _ _ _ H locs ls hP hD hS (lv_sub hl [2, 3, 1, 0] rfl) hF
  intro hF
  unfold fX3_readsAll at hF
  refine lv_aload_n hx hb dX3_readsAll_0 rfl (lv_at hl 0 rfl) ?_
  refine lv_iload_n hx hb dX3_readsAll_1 rfl (lv_at hl 1 rfl) ?_
  obtain ⟨r1, hc2, hF⟩ := bd_some hF
  have hPc := hP.sub (ws' := [o3 h a_text a_steps x_size x_place x_stepCount x_number x_caught, aI G a_steps 120 f_steps, aI G a_text 120 f_text]) [0, 1, 2] rfl
  have hDc := hD.sub (ws' := [o3 h a_text a_steps x_size x_place x_stepCount x_number x_caught, aI G a_steps 120 f_steps, aI G a_text 120 f_text]) [0, 1, 2] (by decide) rfl
  have hFc := va_free (wc := [o3 h a_text a_steps x_size x_place x_stepCount x_number x_caught, aI G a_steps 120 f_steps, aI G a_text 120 f_text]) hD hS hA [0, 1, 2] rfl
  have hM := hg_X3_readsOne h a_text a_steps x_size x_place x_stepCount x_number x_caught f_steps f_text l1 r1.1 r1.2.1 r1.2.2.1 r1.2.2.2.1 r1.2.2.2.2 hc2 H.size
  refine cl_i (w1 := [o3 h a_text a_steps x_size r1.2.1 r1.2.2.1 r1.2.2.2.1 x_caught, aI G a_steps 120 r1.2.2.2.2, aI G a_text 120 f_text]) (ws' := [o3 h a_text a_steps x_size r1.2.1 r1.2.2.1 r1.2.2.2.1 x_caught, aI G a_steps 120 r1.2.2.2.2, aI G a_text 120 f_text]) hP hD hS hFc [0, 1, 2] rfl rfl rfl (va_runV (As := [.int l1]) (rest := []) ⟨hx, hb, hml, hown, hts⟩ hM (cwV 1 hts gX3_readsAll_X3_readsOne rfl rfl rfl (by decide +kernel) ⟨(by show (10 + d) + 1 ≤ 10 + (d + 1); omega), (by show 8 + (4 + 11) + (300 + 60 * d) ≤ 300 + 60 * (d + 1); omega)⟩) (cp_V hK hE hS hPc hDc hFc (va_recv hK hPc (ci := 3) (q0 := 0) rfl rfl)) rfl rfl hl.1 rfl (lv_room (Nat.le_of_ble_eq_true rfl)) dX3_readsAll_2 ⟨Nat.zero_le _, Nat.zero_le _⟩) (fun H locs hP hD hS => ?_)
  refine lv_istore_n (lv' := [(2, .int r1.1), (0, .ref h), (1, .int l1)]) hx hb dX3_readsAll_5 rfl hl (by decide) rfl (fun ls hl => ?_)
  refine lv_iconst (v := 0) hx hb dX3_readsAll_6 (by decide) ?_
  refine lv_istore_n (lv' := [(3, .int 0), (2, .int r1.1), (0, .ref h), (1, .int l1)]) hx hb dX3_readsAll_7 rfl hl (by decide) rfl (fun ls hl => ?_)
  refine LP8 _ _ _ _ _ _ _ _ H locs ls hP hD hS (lv_sub hl [2, 3, 1, 0] rfl) hF

/-! HeadsByHair$Reader.readsAny(I)Z -/
set_option maxHeartbeats 4000000 in
set_option maxRecDepth 100000 in
theorem c_X3_readsAny (l : Launch) (G : GG) (d : Nat) (g_X3_readsOne : Int32 → Int32 → Int32 → Int32 → (Nat → Int32) → (Nat → Int32) → Int32 → Option (Int32 × Int32 × Int32 × Int32 × (Nat → Int32))) (hg_X3_readsOne : ∀ (h a_text a_steps : Nat) (x_size x_place x_stepCount x_number x_caught : Int32) (f_steps f_text : Nat → Int32) (l1 : Int32) (z : Int32) (z_x_place : Int32) (z_x_stepCount : Int32) (z_x_number : Int32) (z_f_steps : Nat → Int32), g_X3_readsOne x_size x_place x_stepCount x_number f_steps f_text l1 = some (z, z_x_place, z_x_stepCount, z_x_number, z_f_steps) → CMi l yX3_readsOne wsX3_readsOne (rg_tR d) G [o3 h a_text a_steps x_size x_place x_stepCount x_number x_caught, aI G a_steps 120 f_steps, aI G a_text 120 f_text] [o3 h a_text a_steps x_size z_x_place z_x_stepCount z_x_number x_caught, aI G a_steps 120 z_f_steps, aI G a_text 120 f_text] [.ref h, .int l1] z) (g_X3_readsAll : Int32 → Int32 → Int32 → Int32 → (Nat → Int32) → (Nat → Int32) → Int32 → Option (Int32 × Int32 × Int32 × Int32 × (Nat → Int32))) (hg_X3_readsAll : ∀ (h a_text a_steps : Nat) (x_size x_place x_stepCount x_number x_caught : Int32) (f_steps f_text : Nat → Int32) (l1 : Int32) (z : Int32) (z_x_place : Int32) (z_x_stepCount : Int32) (z_x_number : Int32) (z_f_steps : Nat → Int32), g_X3_readsAll x_size x_place x_stepCount x_number f_steps f_text l1 = some (z, z_x_place, z_x_stepCount, z_x_number, z_f_steps) → CMi l yX3_readsAll wsX3_readsAll (rg_tR d) G [o3 h a_text a_steps x_size x_place x_stepCount x_number x_caught, aI G a_steps 120 f_steps, aI G a_text 120 f_text] [o3 h a_text a_steps x_size z_x_place z_x_stepCount z_x_number x_caught, aI G a_steps 120 z_f_steps, aI G a_text 120 f_text] [.ref h, .int l1] z) (g_X3_readsAny : Int32 → Int32 → Int32 → Int32 → (Nat → Int32) → (Nat → Int32) → Int32 → Option (Int32 × Int32 × Int32 × Int32 × (Nat → Int32))) (hg_X3_readsAny : ∀ (h a_text a_steps : Nat) (x_size x_place x_stepCount x_number x_caught : Int32) (f_steps f_text : Nat → Int32) (l1 : Int32) (z : Int32) (z_x_place : Int32) (z_x_stepCount : Int32) (z_x_number : Int32) (z_f_steps : Nat → Int32), g_X3_readsAny x_size x_place x_stepCount x_number f_steps f_text l1 = some (z, z_x_place, z_x_stepCount, z_x_number, z_f_steps) → CMi l yX3_readsAny wsX3_readsAny (rg_tR d) G [o3 h a_text a_steps x_size x_place x_stepCount x_number x_caught, aI G a_steps 120 f_steps, aI G a_text 120 f_text] [o3 h a_text a_steps x_size z_x_place z_x_stepCount z_x_number x_caught, aI G a_steps 120 z_f_steps, aI G a_text 120 f_text] [.ref h, .int l1] z) (h a_text a_steps : Nat) (x_size x_place x_stepCount x_number x_caught : Int32) (f_steps : Nat → Int32) (f_text : Nat → Int32) (l1 : Int32) (z : Int32) (z_x_place : Int32) (z_x_stepCount : Int32) (z_x_number : Int32) (z_f_steps : Nat → Int32) (hF : fX3_readsAny g_X3_readsOne g_X3_readsAll g_X3_readsAny x_size x_place x_stepCount x_number f_steps f_text l1 = some (z, z_x_place, z_x_stepCount, z_x_number, z_f_steps)) : CMi l yX3_readsAny wsX3_readsAny (rg_tR (d + 1)) G [o3 h a_text a_steps x_size x_place x_stepCount x_number x_caught, aI G a_steps 120 f_steps, aI G a_text 120 f_text] [o3 h a_text a_steps x_size z_x_place z_x_stepCount z_x_number x_caught, aI G a_steps 120 z_f_steps, aI G a_text 120 f_text] [.ref h, .int l1] z := by
  refine cm_start (cc := cX3_readsAny) (maxL := 4) (ret := (some .boolean)) (Qc := fun A => QI G [o3 h a_text a_steps x_size z_x_place z_x_stepCount z_x_number x_caught, aI G a_steps 120 z_f_steps, aI G a_text 120 f_text] z A) (by decide +kernel) rfl (Nat.le_of_ble_eq_true rfl) ?_
  intro p e s m args below meth c A hx hb hr hlk hml hown hnm hts hA H locs hP hK hD hE hS ls hl
  have hown : s.vm.findClass RX3 = some m.cls := hown
  have hl : lv_has ls 4 [(0, .ref h), (1, .int l1)] := hl
  have hin3 : ∀ w ∈ wsX30, w ∈ wsX3_readsAny := by decide +kernel
  have lk_24 := hts (.fieldLink RX3 24 "HeadsByHair$Reader" "size" "I") (by decide +kernel)
  revert hF
  have LP8 : ∀ (l1 : Int32) (n : Nat) (x_place : Int32) (x_stepCount : Int32) (x_number : Int32) (f_steps : Nat → Int32) (l2 : Int32) (l3 : Int32) (H : Heap) (locs : List Loc) (ls : Array Slot), va_P G.1 vwCl [o3 h a_text a_steps x_size x_place x_stepCount x_number x_caught, aI G a_steps 120 f_steps, aI G a_text 120 f_text] H → va_D A [o3 h a_text a_steps x_size x_place x_stepCount x_number x_caught, aI G a_steps 120 f_steps, aI G a_text 120 f_text] → va_S A s.heap H locs → lv_has ls 4 [(0, .ref h), (1, .int l1), (2, .int l2), (3, .int l3)] → fX3_readsAny_L8 g_X3_readsOne g_X3_readsAll g_X3_readsAny x_size f_text l1 n x_place x_stepCount x_number f_steps l2 l3 = some (z, z_x_place, z_x_stepCount, z_x_number, z_f_steps) → W p l e ((rg_tR (d + 1))) s m args below meth c H locs 0 0 (MQ below (QI G [o3 h a_text a_steps x_size z_x_place z_x_stepCount z_x_number x_caught, aI G a_steps 120 z_f_steps, aI G a_text 120 f_text] z A) args s 0 0 A) (F0 m 8 ls []) := by
    intro l1 n
    induction n with
    | zero =>
      intro x_place x_stepCount x_number f_steps l2 l3 H locs ls hP hD hS hl hF
      cases hF
    | succ n ih =>
      intro x_place x_stepCount x_number f_steps l2 l3 H locs ls hP hD hS hl hF
      rw [fX3_readsAny_L8] at hF
      refine lv_iload_n hx hb dX3_readsAny_8 rfl (lv_at hl 3 rfl) ?_
      refine lv_aload_n hx hb dX3_readsAny_9 rfl (lv_at hl 0 rfl) ?_
      refine va_get (D := G.1) (ci := 3) (v := .int x_size) (C := RX3) (T := TX3) (N := 7) hx hb hts hin3 hown hK hP 0 rfl rfl 2 (by decide) lk_24 (fun _ h9 => h9) rfl dX3_readsAny_10 ?_
      refine lv_icmp_ge (tgt := 59) hx hb dX3_readsAny_13 (by decide) (fun c3 => ?_) (fun c3 => ?_)
      · rw [if_pos c3] at hF
        refine lv_iload_n hx hb dX3_readsAny_59 rfl (lv_at hl 2 rfl) ?_
        obtain ⟨hb4, hF⟩ := ck_some hF
        injection hF with hz
        injection hz with hq0 hz
        injection hz with hq1 hz
        injection hz with hq2 hz
        injection hz with hq3 hz
        subst hq0
        subst hq1
        subst hq2
        subst hq3
        subst hz
        exact cm_reti hx hb hr (nb_ok hb4).1 hlk hK hP hD hS dX3_readsAny_60
      rw [if_neg c3] at hF
      refine lv_iload_n hx hb dX3_readsAny_16 rfl (lv_at hl 2 rfl) ?_
      refine lv_if_eq (tgt := 59) hx hb dX3_readsAny_17 (by decide) (fun c5 => ?_) (fun c5 => ?_)
      · rw [if_pos c5] at hF
        refine lv_iload_n hx hb dX3_readsAny_59 rfl (lv_at hl 2 rfl) ?_
        obtain ⟨hb6, hF⟩ := ck_some hF
        injection hF with hz
        injection hz with hq0 hz
        injection hz with hq1 hz
        injection hz with hq2 hz
        injection hz with hq3 hz
        subst hq0
        subst hq1
        subst hq2
        subst hq3
        subst hz
        exact cm_reti hx hb hr (nb_ok hb6).1 hlk hK hP hD hS dX3_readsAny_60
      rw [if_neg c5] at hF
      refine lv_aload_n hx hb dX3_readsAny_20 rfl (lv_at hl 0 rfl) ?_
      refine lv_bipush (v := 124) hx hb dX3_readsAny_21 (by decide) ?_
      obtain ⟨r7, hc8, hF⟩ := bd_some hF
      have hPc := hP.sub (ws' := [o3 h a_text a_steps x_size x_place x_stepCount x_number x_caught, aI G a_text 120 f_text]) [0, 2] rfl
      have hDc := hD.sub (ws' := [o3 h a_text a_steps x_size x_place x_stepCount x_number x_caught, aI G a_text 120 f_text]) [0, 2] (by decide) rfl
      have hFc := va_free (wc := [o3 h a_text a_steps x_size x_place x_stepCount x_number x_caught, aI G a_text 120 f_text]) hD hS hA [0, 2] rfl
      have hM := c_X3_passes l G h a_text a_steps x_size x_place x_stepCount x_number x_caught f_text (124 : Int32) r7.1 r7.2 hc8 H.size
      refine cl_i (w1 := [o3 h a_text a_steps x_size r7.2 x_stepCount x_number x_caught, aI G a_text 120 f_text]) (ws' := [o3 h a_text a_steps x_size r7.2 x_stepCount x_number x_caught, aI G a_steps 120 f_steps, aI G a_text 120 f_text]) hP hD hS hFc [0, 2] rfl rfl rfl (va_runV (As := [.int 124]) (rest := []) ⟨hx, hb, hml, hown, hts⟩ hM (cwV 1 hts gX3_readsAny_X3_passes rfl rfl rfl (by decide +kernel) ⟨(by show 1 + 1 ≤ 10 + (d + 1); omega), (by show 8 + (2 + 11) + 20 ≤ 300 + 60 * (d + 1); omega)⟩) (cp_V hK hE hS hPc hDc hFc (va_recv hK hPc (ci := 3) (q0 := 0) rfl rfl)) rfl rfl hl.1 rfl (lv_room (Nat.le_of_ble_eq_true rfl)) dX3_readsAny_23 ⟨Nat.zero_le _, Nat.zero_le _⟩) (fun H locs hP hD hS => ?_)
      refine lv_if_eq (tgt := 59) hx hb dX3_readsAny_26 (by decide) (fun c9 => ?_) (fun c9 => ?_)
      · rw [if_pos c9] at hF
        refine lv_iload_n hx hb dX3_readsAny_59 rfl (lv_at hl 2 rfl) ?_
        obtain ⟨hb10, hF⟩ := ck_some hF
        injection hF with hz
        injection hz with hq0 hz
        injection hz with hq1 hz
        injection hz with hq2 hz
        injection hz with hq3 hz
        subst hq0
        subst hq1
        subst hq2
        subst hq3
        subst hz
        exact cm_reti hx hb hr (nb_ok hb10).1 hlk hK hP hD hS dX3_readsAny_60
      rw [if_neg c9] at hF
      refine lv_aload_n hx hb dX3_readsAny_29 rfl (lv_at hl 0 rfl) ?_
      refine lv_iload_n hx hb dX3_readsAny_30 rfl (lv_at hl 1 rfl) ?_
      obtain ⟨r11, hc12, hF⟩ := bd_some hF
      have hPc := hP.sub (ws' := [o3 h a_text a_steps x_size r7.2 x_stepCount x_number x_caught, aI G a_steps 120 f_steps, aI G a_text 120 f_text]) [0, 1, 2] rfl
      have hDc := hD.sub (ws' := [o3 h a_text a_steps x_size r7.2 x_stepCount x_number x_caught, aI G a_steps 120 f_steps, aI G a_text 120 f_text]) [0, 1, 2] (by decide) rfl
      have hFc := va_free (wc := [o3 h a_text a_steps x_size r7.2 x_stepCount x_number x_caught, aI G a_steps 120 f_steps, aI G a_text 120 f_text]) hD hS hA [0, 1, 2] rfl
      have hM := hg_X3_readsAll h a_text a_steps x_size r7.2 x_stepCount x_number x_caught f_steps f_text l1 r11.1 r11.2.1 r11.2.2.1 r11.2.2.2.1 r11.2.2.2.2 hc12 H.size
      refine cl_i (w1 := [o3 h a_text a_steps x_size r11.2.1 r11.2.2.1 r11.2.2.2.1 x_caught, aI G a_steps 120 r11.2.2.2.2, aI G a_text 120 f_text]) (ws' := [o3 h a_text a_steps x_size r11.2.1 r11.2.2.1 r11.2.2.2.1 x_caught, aI G a_steps 120 r11.2.2.2.2, aI G a_text 120 f_text]) hP hD hS hFc [0, 1, 2] rfl rfl rfl (va_runV (As := [.int l1]) (rest := []) ⟨hx, hb, hml, hown, hts⟩ hM (cwV 1 hts gX3_readsAny_X3_readsAll rfl rfl rfl (by decide +kernel) ⟨(by show (10 + d) + 1 ≤ 10 + (d + 1); omega), (by show 8 + (4 + 11) + (300 + 60 * d) ≤ 300 + 60 * (d + 1); omega)⟩) (cp_V hK hE hS hPc hDc hFc (va_recv hK hPc (ci := 3) (q0 := 0) rfl rfl)) rfl rfl hl.1 rfl (lv_room (Nat.le_of_ble_eq_true rfl)) dX3_readsAny_31 ⟨Nat.zero_le _, Nat.zero_le _⟩) (fun H locs hP hD hS => ?_)
      refine W.eq (g2 := F0 m 34 ls [.int r11.1]) rfl ?_
      refine lv_if_eq (tgt := 51) hx hb dX3_readsAny_34 (by decide) (fun c13 => ?_) (fun c13 => ?_)
      · rw [if_pos c13] at hF
        refine lv_iconst (v := 0) hx hb dX3_readsAny_51 (by decide) ?_
        refine lv_istore_n (lv' := [(2, .int 0), (0, .ref h), (1, .int l1), (3, .int l3)]) hx hb dX3_readsAny_52 rfl hl (by decide) rfl (fun ls hl => ?_)
        refine lv_iinc (v := l3 + 1) (lv' := [(3, .int (l3 + 1)), (2, .int 0), (0, .ref h), (1, .int l1)]) hx hb dX3_readsAny_53 hl (k := 3) rfl rfl (by decide) rfl (fun ls hl => ?_)
        refine lv_goto (tgt := 8) hx hb dX3_readsAny_56 (by decide) ?_
        exact ih _ _ _ _ _ _ H locs ls hP hD hS (lv_sub hl [2, 3, 1, 0] rfl) hF
      rw [if_neg c13] at hF
      refine lv_aload_n hx hb dX3_readsAny_37 rfl (lv_at hl 0 rfl) ?_
      refine lv_bipush (v := 17) hx hb dX3_readsAny_38 (by decide) ?_
      refine lv_iconst (v := 0) hx hb dX3_readsAny_40 (by decide) ?_
      obtain ⟨r14, hc15, hF⟩ := bd_some hF
      have hPc := hP.sub (ws' := [o3 h a_text a_steps x_size r11.2.1 r11.2.2.1 r11.2.2.2.1 x_caught, aI G a_steps 120 r11.2.2.2.2]) [0, 1] rfl
      have hDc := hD.sub (ws' := [o3 h a_text a_steps x_size r11.2.1 r11.2.2.1 r11.2.2.2.1 x_caught, aI G a_steps 120 r11.2.2.2.2]) [0, 1] (by decide) rfl
      have hFc := va_free (wc := [o3 h a_text a_steps x_size r11.2.1 r11.2.2.1 r11.2.2.2.1 x_caught, aI G a_steps 120 r11.2.2.2.2]) hD hS hA [0, 1] rfl
      have hM := c_X3_adds l G h a_text a_steps x_size r11.2.1 r11.2.2.1 r11.2.2.2.1 x_caught r11.2.2.2.2 (17 : Int32) (0 : Int32) r14.1 r14.2.1 r14.2.2 hc15 H.size
      refine cl_i (w1 := [o3 h a_text a_steps x_size r11.2.1 r14.2.1 r11.2.2.2.1 x_caught, aI G a_steps 120 r14.2.2]) (ws' := [o3 h a_text a_steps x_size r11.2.1 r14.2.1 r11.2.2.2.1 x_caught, aI G a_steps 120 r14.2.2, aI G a_text 120 f_text]) hP hD hS hFc [0, 1] rfl rfl rfl (va_runV (As := [.int 17, .int 0]) (rest := []) ⟨hx, hb, hml, hown, hts⟩ hM (cwV 2 hts gX3_readsAny_X3_adds rfl rfl rfl (by decide +kernel) ⟨(by show 0 + 1 ≤ 10 + (d + 1); omega), (by show 8 + (3 + 11) + 0 ≤ 300 + 60 * (d + 1); omega)⟩) (cp_V hK hE hS hPc hDc hFc (va_recv hK hPc (ci := 3) (q0 := 0) rfl rfl)) rfl rfl hl.1 rfl (lv_room (Nat.le_of_ble_eq_true rfl)) dX3_readsAny_41 ⟨Nat.zero_le _, Nat.zero_le _⟩) (fun H locs hP hD hS => ?_)
      refine lv_if_eq (tgt := 51) hx hb dX3_readsAny_44 (by decide) (fun c16 => ?_) (fun c16 => ?_)
      · rw [if_pos c16] at hF
        refine lv_iconst (v := 0) hx hb dX3_readsAny_51 (by decide) ?_
        refine lv_istore_n (lv' := [(2, .int 0), (0, .ref h), (1, .int l1), (3, .int l3)]) hx hb dX3_readsAny_52 rfl hl (by decide) rfl (fun ls hl => ?_)
        refine lv_iinc (v := l3 + 1) (lv' := [(3, .int (l3 + 1)), (2, .int 0), (0, .ref h), (1, .int l1)]) hx hb dX3_readsAny_53 hl (k := 3) rfl rfl (by decide) rfl (fun ls hl => ?_)
        refine lv_goto (tgt := 8) hx hb dX3_readsAny_56 (by decide) ?_
        exact ih _ _ _ _ _ _ H locs ls hP hD hS (lv_sub hl [2, 3, 1, 0] rfl) hF
      rw [if_neg c16] at hF
      refine lv_iconst (v := 1) hx hb dX3_readsAny_47 (by decide) ?_
      refine lv_goto (tgt := 52) hx hb dX3_readsAny_48 (by decide) ?_
      refine lv_istore_n (lv' := [(2, .int 1), (0, .ref h), (1, .int l1), (3, .int l3)]) hx hb dX3_readsAny_52 rfl hl (by decide) rfl (fun ls hl => ?_)
      refine lv_iinc (v := l3 + 1) (lv' := [(3, .int (l3 + 1)), (2, .int 1), (0, .ref h), (1, .int l1)]) hx hb dX3_readsAny_53 hl (k := 3) rfl rfl (by decide) rfl (fun ls hl => ?_)
      refine lv_goto (tgt := 8) hx hb dX3_readsAny_56 (by decide) ?_
      exact ih _ _ _ _ _ _ H locs ls hP hD hS (lv_sub hl [2, 3, 1, 0] rfl) hF
  intro hF
  unfold fX3_readsAny at hF
  refine lv_aload_n hx hb dX3_readsAny_0 rfl (lv_at hl 0 rfl) ?_
  refine lv_iload_n hx hb dX3_readsAny_1 rfl (lv_at hl 1 rfl) ?_
  obtain ⟨r1, hc2, hF⟩ := bd_some hF
  have hPc := hP.sub (ws' := [o3 h a_text a_steps x_size x_place x_stepCount x_number x_caught, aI G a_steps 120 f_steps, aI G a_text 120 f_text]) [0, 1, 2] rfl
  have hDc := hD.sub (ws' := [o3 h a_text a_steps x_size x_place x_stepCount x_number x_caught, aI G a_steps 120 f_steps, aI G a_text 120 f_text]) [0, 1, 2] (by decide) rfl
  have hFc := va_free (wc := [o3 h a_text a_steps x_size x_place x_stepCount x_number x_caught, aI G a_steps 120 f_steps, aI G a_text 120 f_text]) hD hS hA [0, 1, 2] rfl
  have hM := hg_X3_readsAll h a_text a_steps x_size x_place x_stepCount x_number x_caught f_steps f_text l1 r1.1 r1.2.1 r1.2.2.1 r1.2.2.2.1 r1.2.2.2.2 hc2 H.size
  refine cl_i (w1 := [o3 h a_text a_steps x_size r1.2.1 r1.2.2.1 r1.2.2.2.1 x_caught, aI G a_steps 120 r1.2.2.2.2, aI G a_text 120 f_text]) (ws' := [o3 h a_text a_steps x_size r1.2.1 r1.2.2.1 r1.2.2.2.1 x_caught, aI G a_steps 120 r1.2.2.2.2, aI G a_text 120 f_text]) hP hD hS hFc [0, 1, 2] rfl rfl rfl (va_runV (As := [.int l1]) (rest := []) ⟨hx, hb, hml, hown, hts⟩ hM (cwV 1 hts gX3_readsAny_X3_readsAll rfl rfl rfl (by decide +kernel) ⟨(by show (10 + d) + 1 ≤ 10 + (d + 1); omega), (by show 8 + (4 + 11) + (300 + 60 * d) ≤ 300 + 60 * (d + 1); omega)⟩) (cp_V hK hE hS hPc hDc hFc (va_recv hK hPc (ci := 3) (q0 := 0) rfl rfl)) rfl rfl hl.1 rfl (lv_room (Nat.le_of_ble_eq_true rfl)) dX3_readsAny_2 ⟨Nat.zero_le _, Nat.zero_le _⟩) (fun H locs hP hD hS => ?_)
  refine lv_istore_n (lv' := [(2, .int r1.1), (0, .ref h), (1, .int l1)]) hx hb dX3_readsAny_5 rfl hl (by decide) rfl (fun ls hl => ?_)
  refine lv_iconst (v := 0) hx hb dX3_readsAny_6 (by decide) ?_
  refine lv_istore_n (lv' := [(3, .int 0), (2, .int r1.1), (0, .ref h), (1, .int l1)]) hx hb dX3_readsAny_7 rfl hl (by decide) rfl (fun ls hl => ?_)
  refine LP8 _ _ _ _ _ _ _ _ H locs ls hP hD hS (lv_sub hl [2, 3, 1, 0] rfl) hF

theorem tR_z (k : Nat) (x_size : Int32) (x_place : Int32) (x_stepCount : Int32) (x_number : Int32) (f_steps : Nat → Int32) (f_text : Nat → Int32) (l1 : Int32) : tR 0 k x_size x_place x_stepCount x_number f_steps f_text l1 = none := rfl
theorem tR_0 (n : Nat) (x_size : Int32) (x_place : Int32) (x_stepCount : Int32) (x_number : Int32) (f_steps : Nat → Int32) (f_text : Nat → Int32) (l1 : Int32) : tR (n + 1) 0 x_size x_place x_stepCount x_number f_steps f_text l1 = fX3_readsOne (tR n 0) (tR n 1) (tR n 2) x_size x_place x_stepCount x_number f_steps f_text l1 := rfl
theorem tR_1 (n : Nat) (x_size : Int32) (x_place : Int32) (x_stepCount : Int32) (x_number : Int32) (f_steps : Nat → Int32) (f_text : Nat → Int32) (l1 : Int32) : tR (n + 1) 1 x_size x_place x_stepCount x_number f_steps f_text l1 = fX3_readsAll (tR n 0) (tR n 1) (tR n 2) x_size x_place x_stepCount x_number f_steps f_text l1 := rfl
theorem tR_2 (n : Nat) (x_size : Int32) (x_place : Int32) (x_stepCount : Int32) (x_number : Int32) (f_steps : Nat → Int32) (f_text : Nat → Int32) (l1 : Int32) : tR (n + 1) 2 x_size x_place x_stepCount x_number f_steps f_text l1 = fX3_readsAny (tR n 0) (tR n 1) (tR n 2) x_size x_place x_stepCount x_number f_steps f_text l1 := rfl
set_option maxHeartbeats 4000000 in
set_option maxRecDepth 100000 in
theorem c_tR (l : Launch) (G : GG) : ∀ d : Nat, (∀ (h a_text a_steps : Nat) (x_size x_place x_stepCount x_number x_caught : Int32) (f_steps f_text : Nat → Int32) (l1 : Int32) (z : Int32) (z_x_place : Int32) (z_x_stepCount : Int32) (z_x_number : Int32) (z_f_steps : Nat → Int32), tR d 0 x_size x_place x_stepCount x_number f_steps f_text l1 = some (z, z_x_place, z_x_stepCount, z_x_number, z_f_steps) → CMi l yX3_readsOne wsX3_readsOne (rg_tR d) G [o3 h a_text a_steps x_size x_place x_stepCount x_number x_caught, aI G a_steps 120 f_steps, aI G a_text 120 f_text] [o3 h a_text a_steps x_size z_x_place z_x_stepCount z_x_number x_caught, aI G a_steps 120 z_f_steps, aI G a_text 120 f_text] [.ref h, .int l1] z) ∧ (∀ (h a_text a_steps : Nat) (x_size x_place x_stepCount x_number x_caught : Int32) (f_steps f_text : Nat → Int32) (l1 : Int32) (z : Int32) (z_x_place : Int32) (z_x_stepCount : Int32) (z_x_number : Int32) (z_f_steps : Nat → Int32), tR d 1 x_size x_place x_stepCount x_number f_steps f_text l1 = some (z, z_x_place, z_x_stepCount, z_x_number, z_f_steps) → CMi l yX3_readsAll wsX3_readsAll (rg_tR d) G [o3 h a_text a_steps x_size x_place x_stepCount x_number x_caught, aI G a_steps 120 f_steps, aI G a_text 120 f_text] [o3 h a_text a_steps x_size z_x_place z_x_stepCount z_x_number x_caught, aI G a_steps 120 z_f_steps, aI G a_text 120 f_text] [.ref h, .int l1] z) ∧ (∀ (h a_text a_steps : Nat) (x_size x_place x_stepCount x_number x_caught : Int32) (f_steps f_text : Nat → Int32) (l1 : Int32) (z : Int32) (z_x_place : Int32) (z_x_stepCount : Int32) (z_x_number : Int32) (z_f_steps : Nat → Int32), tR d 2 x_size x_place x_stepCount x_number f_steps f_text l1 = some (z, z_x_place, z_x_stepCount, z_x_number, z_f_steps) → CMi l yX3_readsAny wsX3_readsAny (rg_tR d) G [o3 h a_text a_steps x_size x_place x_stepCount x_number x_caught, aI G a_steps 120 f_steps, aI G a_text 120 f_text] [o3 h a_text a_steps x_size z_x_place z_x_stepCount z_x_number x_caught, aI G a_steps 120 z_f_steps, aI G a_text 120 f_text] [.ref h, .int l1] z) := by
  intro d
  induction d with
  | zero =>
    refine ⟨?_, ?_, ?_⟩
    · intro a0 a1 a2 a3 a4 a5 a6 a7 a8 a9 a10 a11 a12 a13 a14 a15 hF
      rw [tR_z] at hF
      cases hF
    · intro a0 a1 a2 a3 a4 a5 a6 a7 a8 a9 a10 a11 a12 a13 a14 a15 hF
      rw [tR_z] at hF
      cases hF
    · intro a0 a1 a2 a3 a4 a5 a6 a7 a8 a9 a10 a11 a12 a13 a14 a15 hF
      rw [tR_z] at hF
      cases hF
  | succ d ih =>
    obtain ⟨i0, i1, i2⟩ := ih
    refine ⟨?_, ?_, ?_⟩
    · intro a0 a1 a2 a3 a4 a5 a6 a7 a8 a9 a10 a11 a12 a13 a14 a15 hF
      rw [tR_0] at hF
      exact c_X3_readsOne l G d (tR d 0) i0 (tR d 1) i1 (tR d 2) i2 a0 a1 a2 a3 a4 a5 a6 a7 a8 a9 a10 a11 a12 a13 a14 a15 hF
    · intro a0 a1 a2 a3 a4 a5 a6 a7 a8 a9 a10 a11 a12 a13 a14 a15 hF
      rw [tR_1] at hF
      exact c_X3_readsAll l G d (tR d 0) i0 (tR d 1) i1 (tR d 2) i2 a0 a1 a2 a3 a4 a5 a6 a7 a8 a9 a10 a11 a12 a13 a14 a15 hF
    · intro a0 a1 a2 a3 a4 a5 a6 a7 a8 a9 a10 a11 a12 a13 a14 a15 hF
      rw [tR_2] at hF
      exact c_X3_readsAny l G d (tR d 0) i0 (tR d 1) i1 (tR d 2) i2 a0 a1 a2 a3 a4 a5 a6 a7 a8 a9 a10 a11 a12 a13 a14 a15 hF
/-! HeadsByHair$Reader.readsClause()Z -/
abbrev rm_X3_readsClause : Room := { frames := 51, cells := 0, slots := 0, locals := 2723 }
set_option maxHeartbeats 4000000 in
set_option maxRecDepth 100000 in
theorem c_X3_readsClause (l : Launch) (G : GG) (h a_text a_steps : Nat) (x_size x_place x_stepCount x_number x_caught : Int32) (f_steps : Nat → Int32) (f_text : Nat → Int32) (z : Int32) (z_x_place : Int32) (z_x_stepCount : Int32) (z_x_number : Int32) (z_x_caught : Int32) (z_f_steps : Nat → Int32) (hF : fX3_readsClause x_size x_place x_stepCount x_number x_caught f_steps f_text = some (z, z_x_place, z_x_stepCount, z_x_number, z_x_caught, z_f_steps)) : CMi l yX3_readsClause wsX3_readsClause rm_X3_readsClause G [o3 h a_text a_steps x_size x_place x_stepCount x_number x_caught, aI G a_steps 120 f_steps, aI G a_text 120 f_text] [o3 h a_text a_steps x_size z_x_place z_x_stepCount z_x_number z_x_caught, aI G a_steps 120 z_f_steps, aI G a_text 120 f_text] [.ref h] z := by
  refine cm_start (cc := cX3_readsClause) (maxL := 3) (ret := (some .boolean)) (Qc := fun A => QI G [o3 h a_text a_steps x_size z_x_place z_x_stepCount z_x_number z_x_caught, aI G a_steps 120 z_f_steps, aI G a_text 120 f_text] z A) (by decide +kernel) rfl (Nat.le_of_ble_eq_true rfl) ?_
  intro p e s m args below meth c A hx hb hr hlk hml hown hnm hts hA H locs hP hK hD hE hS ls hl
  have hown : s.vm.findClass RX3 = some m.cls := hown
  have hl : lv_has ls 3 [(0, .ref h)] := hl
  have hin3 : ∀ w ∈ wsX30, w ∈ wsX3_readsClause := by decide +kernel
  have lk_64 := hts (.fieldLink RX3 64 "HeadsByHair$Reader" "number" "I") (by decide +kernel)
  have lk_34 := hts (.fieldLink RX3 34 "HeadsByHair$Reader" "caught" "I") (by decide +kernel)
  revert hF
  have B110 : ∀ (x_place : Int32) (x_stepCount : Int32) (x_number : Int32) (x_caught : Int32) (f_steps : Nat → Int32) (l1 : Int32) (s1 : Nat) (hs1 : s1 < nJS) (H : Heap) (locs : List Loc) (ls : Array Slot), va_P G.1 vwCl [o3 h a_text a_steps x_size x_place x_stepCount x_number x_caught, aI G a_steps 120 f_steps, aI G a_text 120 f_text] H → va_D A [o3 h a_text a_steps x_size x_place x_stepCount x_number x_caught, aI G a_steps 120 f_steps, aI G a_text 120 f_text] → va_S A s.heap H locs → lv_has ls 3 [(0, .ref h), (1, .int l1)] → fX3_readsClause_b110 x_size x_place x_stepCount x_number x_caught f_steps f_text l1 s1 = some (z, z_x_place, z_x_stepCount, z_x_number, z_x_caught, z_f_steps) → W p l e (rm_X3_readsClause) s m args below meth c H locs 0 0 (MQ below (QI G [o3 h a_text a_steps x_size z_x_place z_x_stepCount z_x_number z_x_caught, aI G a_steps 120 z_f_steps, aI G a_text 120 f_text] z A) args s 0 0 A) (F0 m 110 ls [.ref (G.2.2.1 s1), .ref h]) := by
    intro x_place x_stepCount x_number x_caught f_steps l1 s1 hs1 H locs ls hP hD hS hl hF
    unfold fX3_readsClause_b110 at hF
    obtain ⟨r11, hc12, hF⟩ := bd_some hF
    have hPc := hP.sub (ws' := [o3 h a_text a_steps x_size x_place x_stepCount x_number x_caught, aI G a_text 120 f_text]) [0, 2] rfl
    have hDc := hD.sub (ws' := [o3 h a_text a_steps x_size x_place x_stepCount x_number x_caught, aI G a_text 120 f_text]) [0, 2] (by decide) rfl
    have hFc := va_free (wc := [o3 h a_text a_steps x_size x_place x_stepCount x_number x_caught, aI G a_text 120 f_text]) hD hS hA [0, 2] rfl
    have hM := c_X3_passesAll l G h a_text a_steps x_size x_place x_stepCount x_number x_caught f_text s1 hs1 r11.1 r11.2 hc12 H.size
    refine cl_i (w1 := [o3 h a_text a_steps x_size r11.2 x_stepCount x_number x_caught, aI G a_text 120 f_text]) (ws' := [o3 h a_text a_steps x_size r11.2 x_stepCount x_number x_caught, aI G a_steps 120 f_steps, aI G a_text 120 f_text]) hP hD hS hFc [0, 2] rfl rfl rfl (va_runV (As := [.ref (G.2.2.1 s1)]) (rest := []) ⟨hx, hb, hml, hown, hts⟩ hM (cwV 1 hts gX3_readsClause_X3_passesAll rfl rfl rfl (by decide +kernel) ⟨Nat.le_of_ble_eq_true rfl, Nat.le_of_ble_eq_true rfl⟩) (cp_V hK hE hS hPc hDc hFc (va_recv hK hPc (ci := 3) (q0 := 0) rfl rfl)) rfl rfl hl.1 rfl (lv_room (Nat.le_of_ble_eq_true rfl)) dX3_readsClause_110 ⟨Nat.zero_le _, Nat.zero_le _⟩) (fun H locs hP hD hS => ?_)
    refine lv_if_eq (tgt := 132) hx hb dX3_readsClause_113 (by decide) (fun c13 => ?_) (fun c13 => ?_)
    · rw [if_pos c13] at hF
      refine lv_iconst (v := 0) hx hb dX3_readsClause_132 (by decide) ?_
      injection hF with hz
      injection hz with hq0 hz
      injection hz with hq1 hz
      injection hz with hq2 hz
      injection hz with hq3 hz
      injection hz with hq4 hz
      subst hq0
      subst hq1
      subst hq2
      subst hq3
      subst hq4
      subst hz
      exact cm_reti hx hb hr (by decide) hlk hK hP hD hS dX3_readsClause_133
    rw [if_neg c13] at hF
    refine lv_aload_n hx hb dX3_readsClause_116 rfl (lv_at hl 0 rfl) ?_
    obtain ⟨r14, hc15, hF⟩ := bd_some hF
    have hPc := hP.sub (ws' := [o3 h a_text a_steps x_size r11.2 x_stepCount x_number x_caught, aI G a_text 120 f_text]) [0, 2] rfl
    have hDc := hD.sub (ws' := [o3 h a_text a_steps x_size r11.2 x_stepCount x_number x_caught, aI G a_text 120 f_text]) [0, 2] (by decide) rfl
    have hFc := va_free (wc := [o3 h a_text a_steps x_size r11.2 x_stepCount x_number x_caught, aI G a_text 120 f_text]) hD hS hA [0, 2] rfl
    have hM := c_X3_readsNumber l G h a_text a_steps x_size r11.2 x_stepCount x_number x_caught f_text r14.1 r14.2.1 r14.2.2 hc15 H.size
    refine cl_i (w1 := [o3 h a_text a_steps x_size r14.2.1 x_stepCount r14.2.2 x_caught, aI G a_text 120 f_text]) (ws' := [o3 h a_text a_steps x_size r14.2.1 x_stepCount r14.2.2 x_caught, aI G a_steps 120 f_steps, aI G a_text 120 f_text]) hP hD hS hFc [0, 2] rfl rfl rfl (va_runV (As := []) (rest := []) ⟨hx, hb, hml, hown, hts⟩ hM (cwV 0 hts gX3_readsClause_X3_readsNumber rfl rfl rfl (by decide +kernel) ⟨Nat.le_of_ble_eq_true rfl, Nat.le_of_ble_eq_true rfl⟩) (cp_V hK hE hS hPc hDc hFc (va_recv hK hPc (ci := 3) (q0 := 0) rfl rfl)) rfl rfl hl.1 rfl (lv_room (Nat.le_of_ble_eq_true rfl)) dX3_readsClause_117 ⟨Nat.zero_le _, Nat.zero_le _⟩) (fun H locs hP hD hS => ?_)
    refine lv_if_eq (tgt := 132) hx hb dX3_readsClause_120 (by decide) (fun c16 => ?_) (fun c16 => ?_)
    · rw [if_pos c16] at hF
      refine lv_iconst (v := 0) hx hb dX3_readsClause_132 (by decide) ?_
      injection hF with hz
      injection hz with hq0 hz
      injection hz with hq1 hz
      injection hz with hq2 hz
      injection hz with hq3 hz
      injection hz with hq4 hz
      subst hq0
      subst hq1
      subst hq2
      subst hq3
      subst hq4
      subst hz
      exact cm_reti hx hb hr (by decide) hlk hK hP hD hS dX3_readsClause_133
    rw [if_neg c16] at hF
    refine lv_aload_n hx hb dX3_readsClause_123 rfl (lv_at hl 0 rfl) ?_
    refine lv_bipush (v := 32) hx hb dX3_readsClause_124 (by decide) ?_
    obtain ⟨r17, hc18, hF⟩ := bd_some hF
    have hPc := hP.sub (ws' := [o3 h a_text a_steps x_size r14.2.1 x_stepCount r14.2.2 x_caught, aI G a_text 120 f_text]) [0, 2] rfl
    have hDc := hD.sub (ws' := [o3 h a_text a_steps x_size r14.2.1 x_stepCount r14.2.2 x_caught, aI G a_text 120 f_text]) [0, 2] (by decide) rfl
    have hFc := va_free (wc := [o3 h a_text a_steps x_size r14.2.1 x_stepCount r14.2.2 x_caught, aI G a_text 120 f_text]) hD hS hA [0, 2] rfl
    have hM := c_X3_passes l G h a_text a_steps x_size r14.2.1 x_stepCount r14.2.2 x_caught f_text (32 : Int32) r17.1 r17.2 hc18 H.size
    refine cl_i (w1 := [o3 h a_text a_steps x_size r17.2 x_stepCount r14.2.2 x_caught, aI G a_text 120 f_text]) (ws' := [o3 h a_text a_steps x_size r17.2 x_stepCount r14.2.2 x_caught, aI G a_steps 120 f_steps, aI G a_text 120 f_text]) hP hD hS hFc [0, 2] rfl rfl rfl (va_runV (As := [.int 32]) (rest := []) ⟨hx, hb, hml, hown, hts⟩ hM (cwV 1 hts gX3_readsClause_X3_passes rfl rfl rfl (by decide +kernel) ⟨Nat.le_of_ble_eq_true rfl, Nat.le_of_ble_eq_true rfl⟩) (cp_V hK hE hS hPc hDc hFc (va_recv hK hPc (ci := 3) (q0 := 0) rfl rfl)) rfl rfl hl.1 rfl (lv_room (Nat.le_of_ble_eq_true rfl)) dX3_readsClause_126 ⟨Nat.zero_le _, Nat.zero_le _⟩) (fun H locs hP hD hS => ?_)
    refine lv_if_ne (tgt := 134) hx hb dX3_readsClause_129 (by decide) (fun c19 => ?_) (fun c19 => ?_)
    · rw [if_neg c19] at hF
      refine lv_aload_n hx hb dX3_readsClause_134 rfl (lv_at hl 0 rfl) ?_
      refine va_get (D := G.1) (ci := 3) (v := .int r14.2.2) (C := RX3) (T := TX3) (N := 7) hx hb hts hin3 hown hK hP 0 rfl rfl 5 (by decide) lk_64 (fun _ h9 => h9) rfl dX3_readsClause_135 ?_
      refine lv_istore_n (lv' := [(2, .int r14.2.2), (0, .ref h), (1, .int l1)]) hx hb dX3_readsClause_138 rfl hl (by decide) rfl (fun ls hl => ?_)
      refine lv_aload_n hx hb dX3_readsClause_139 rfl (lv_at hl 1 rfl) ?_
      refine W.eq (g2 := F0 m 140 ls [.ref h]) rfl ?_
      refine lv_iconst (v := 0) hx hb dX3_readsClause_140 (by decide) ?_
      obtain ⟨r20, hc21, hF⟩ := bd_some hF
      have hPc := hP.sub (ws' := [o3 h a_text a_steps x_size r17.2 x_stepCount r14.2.2 x_caught, aI G a_steps 120 f_steps, aI G a_text 120 f_text]) [0, 1, 2] rfl
      have hDc := hD.sub (ws' := [o3 h a_text a_steps x_size r17.2 x_stepCount r14.2.2 x_caught, aI G a_steps 120 f_steps, aI G a_text 120 f_text]) [0, 1, 2] (by decide) rfl
      have hFc := va_free (wc := [o3 h a_text a_steps x_size r17.2 x_stepCount r14.2.2 x_caught, aI G a_steps 120 f_steps, aI G a_text 120 f_text]) hD hS hA [0, 1, 2] rfl
      have hM := (c_tR l G 40).2.2 h a_text a_steps x_size r17.2 x_stepCount r14.2.2 x_caught f_steps f_text (0 : Int32) r20.1 r20.2.1 r20.2.2.1 r20.2.2.2.1 r20.2.2.2.2 hc21 H.size
      refine cl_i (w1 := [o3 h a_text a_steps x_size r20.2.1 r20.2.2.1 r20.2.2.2.1 x_caught, aI G a_steps 120 r20.2.2.2.2, aI G a_text 120 f_text]) (ws' := [o3 h a_text a_steps x_size r20.2.1 r20.2.2.1 r20.2.2.2.1 x_caught, aI G a_steps 120 r20.2.2.2.2, aI G a_text 120 f_text]) hP hD hS hFc [0, 1, 2] rfl rfl rfl (va_runV (As := [.int 0]) (rest := []) ⟨hx, hb, hml, hown, hts⟩ hM (cwV 1 hts gX3_readsClause_X3_readsAny rfl rfl rfl (by decide +kernel) ⟨Nat.le_of_ble_eq_true rfl, Nat.le_of_ble_eq_true rfl⟩) (cp_V hK hE hS hPc hDc hFc (va_recv hK hPc (ci := 3) (q0 := 0) rfl rfl)) rfl rfl hl.1 rfl (lv_room (Nat.le_of_ble_eq_true rfl)) dX3_readsClause_141 ⟨Nat.zero_le _, Nat.zero_le _⟩) (fun H locs hP hD hS => ?_)
      refine lv_if_eq (tgt := 160) hx hb dX3_readsClause_144 (by decide) (fun c22 => ?_) (fun c22 => ?_)
      · rw [if_pos c22] at hF
        refine lv_iconst (v := 0) hx hb dX3_readsClause_160 (by decide) ?_
        injection hF with hz
        injection hz with hq0 hz
        injection hz with hq1 hz
        injection hz with hq2 hz
        injection hz with hq3 hz
        injection hz with hq4 hz
        subst hq0
        subst hq1
        subst hq2
        subst hq3
        subst hq4
        subst hz
        exact cm_reti hx hb hr (by decide) hlk hK hP hD hS dX3_readsClause_161
      rw [if_neg c22] at hF
      refine lv_aload_n hx hb dX3_readsClause_147 rfl (lv_at hl 1 rfl) ?_
      refine lv_iload_n hx hb dX3_readsClause_148 rfl (lv_at hl 2 rfl) ?_
      refine lv_iload_n hx hb dX3_readsClause_149 rfl (lv_at hl 0 rfl) ?_
      obtain ⟨r23, hc24, hF⟩ := bd_some hF
      have hPc := hP.sub (ws' := [o3 h a_text a_steps x_size r20.2.1 r20.2.2.1 r20.2.2.2.1 x_caught, aI G a_steps 120 r20.2.2.2.2]) [0, 1] rfl
      have hDc := hD.sub (ws' := [o3 h a_text a_steps x_size r20.2.1 r20.2.2.1 r20.2.2.2.1 x_caught, aI G a_steps 120 r20.2.2.2.2]) [0, 1] (by decide) rfl
      have hFc := va_free (wc := [o3 h a_text a_steps x_size r20.2.1 r20.2.2.1 r20.2.2.2.1 x_caught, aI G a_steps 120 r20.2.2.2.2]) hD hS hA [0, 1] rfl
      have hM := c_X3_adds l G h a_text a_steps x_size r20.2.1 r20.2.2.1 r20.2.2.2.1 x_caught r20.2.2.2.2 l1 r14.2.2 r23.1 r23.2.1 r23.2.2 hc24 H.size
      refine cl_i (w1 := [o3 h a_text a_steps x_size r20.2.1 r23.2.1 r20.2.2.2.1 x_caught, aI G a_steps 120 r23.2.2]) (ws' := [o3 h a_text a_steps x_size r20.2.1 r23.2.1 r20.2.2.2.1 x_caught, aI G a_steps 120 r23.2.2, aI G a_text 120 f_text]) hP hD hS hFc [0, 1] rfl rfl rfl (va_runV (As := [.int l1, .int r14.2.2]) (rest := []) ⟨hx, hb, hml, hown, hts⟩ hM (cwV 2 hts gX3_readsClause_X3_adds rfl rfl rfl (by decide +kernel) ⟨Nat.le_of_ble_eq_true rfl, Nat.le_of_ble_eq_true rfl⟩) (cp_V hK hE hS hPc hDc hFc (va_recv hK hPc (ci := 3) (q0 := 0) rfl rfl)) rfl rfl hl.1 rfl (lv_room (Nat.le_of_ble_eq_true rfl)) dX3_readsClause_150 ⟨Nat.zero_le _, Nat.zero_le _⟩) (fun H locs hP hD hS => ?_)
      refine lv_if_eq (tgt := 160) hx hb dX3_readsClause_153 (by decide) (fun c25 => ?_) (fun c25 => ?_)
      · rw [if_pos c25] at hF
        refine lv_iconst (v := 0) hx hb dX3_readsClause_160 (by decide) ?_
        injection hF with hz
        injection hz with hq0 hz
        injection hz with hq1 hz
        injection hz with hq2 hz
        injection hz with hq3 hz
        injection hz with hq4 hz
        subst hq0
        subst hq1
        subst hq2
        subst hq3
        subst hq4
        subst hz
        exact cm_reti hx hb hr (by decide) hlk hK hP hD hS dX3_readsClause_161
      rw [if_neg c25] at hF
      refine lv_iconst (v := 1) hx hb dX3_readsClause_156 (by decide) ?_
      refine lv_goto (tgt := 161) hx hb dX3_readsClause_157 (by decide) ?_
      injection hF with hz
      injection hz with hq0 hz
      injection hz with hq1 hz
      injection hz with hq2 hz
      injection hz with hq3 hz
      injection hz with hq4 hz
      subst hq0
      subst hq1
      subst hq2
      subst hq3
      subst hq4
      subst hz
      exact cm_reti hx hb hr (by decide) hlk hK hP hD hS dX3_readsClause_161
    rw [if_pos c19] at hF
    refine lv_iconst (v := 0) hx hb dX3_readsClause_132 (by decide) ?_
    injection hF with hz
    injection hz with hq0 hz
    injection hz with hq1 hz
    injection hz with hq2 hz
    injection hz with hq3 hz
    injection hz with hq4 hz
    subst hq0
    subst hq1
    subst hq2
    subst hq3
    subst hq4
    subst hz
    exact cm_reti hx hb hr (by decide) hlk hK hP hD hS dX3_readsClause_133
  have B95 : ∀ (x_place : Int32) (x_stepCount : Int32) (x_number : Int32) (x_caught : Int32) (f_steps : Nat → Int32) (s0 : Int32) (H : Heap) (locs : List Loc) (ls : Array Slot), va_P G.1 vwCl [o3 h a_text a_steps x_size x_place x_stepCount x_number x_caught, aI G a_steps 120 f_steps, aI G a_text 120 f_text] H → va_D A [o3 h a_text a_steps x_size x_place x_stepCount x_number x_caught, aI G a_steps 120 f_steps, aI G a_text 120 f_text] → va_S A s.heap H locs → lv_has ls 3 [(0, .ref h)] → fX3_readsClause_b95 x_size x_place x_stepCount x_number x_caught f_steps f_text s0 = some (z, z_x_place, z_x_stepCount, z_x_number, z_x_caught, z_f_steps) → W p l e (rm_X3_readsClause) s m args below meth c H locs 0 0 (MQ below (QI G [o3 h a_text a_steps x_size z_x_place z_x_stepCount z_x_number z_x_caught, aI G a_steps 120 z_f_steps, aI G a_text 120 f_text] z A) args s 0 0 A) (F0 m 95 ls [.int s0]) := by
    intro x_place x_stepCount x_number x_caught f_steps s0 H locs ls hP hD hS hl hF
    unfold fX3_readsClause_b95 at hF
    refine lv_istore_n (lv' := [(1, .int s0), (0, .ref h)]) hx hb dX3_readsClause_95 rfl hl (by decide) rfl (fun ls hl => ?_)
    refine lv_aload_n hx hb dX3_readsClause_96 rfl (lv_at hl 1 rfl) ?_
    refine lv_iload_n hx hb dX3_readsClause_97 rfl (lv_at hl 0 rfl) ?_
    refine lv_bipush (v := 18) hx hb dX3_readsClause_98 (by decide) ?_
    refine lv_icmp_ne (tgt := 108) hx hb dX3_readsClause_100 (by decide) (fun c10 => ?_) (fun c10 => ?_)
    · rw [if_neg c10] at hF
      refine va_ldcS hx hb hown (hE.ref (i := 3) (by decide)) dX3_readsClause_108 ?_
      exact B110 _ _ _ _ _ _ _ (by decide) H locs ls hP hD hS (lv_sub hl [1, 0] rfl) hF
    rw [if_pos c10] at hF
    refine va_ldcS hx hb hown (hE.ref (i := 2) (by decide)) dX3_readsClause_103 ?_
    refine lv_goto (tgt := 110) hx hb dX3_readsClause_105 (by decide) ?_
    exact B110 _ _ _ _ _ _ _ (by decide) H locs ls hP hD hS (lv_sub hl [1, 0] rfl) hF
  intro hF
  unfold fX3_readsClause at hF
  refine lv_aload_n hx hb dX3_readsClause_0 rfl (lv_at hl 0 rfl) ?_
  refine lv_bipush (v := 115) hx hb dX3_readsClause_1 (by decide) ?_
  obtain ⟨r1, hc2, hF⟩ := bd_some hF
  have hPc := hP.sub (ws' := [o3 h a_text a_steps x_size x_place x_stepCount x_number x_caught, aI G a_text 120 f_text]) [0, 2] rfl
  have hDc := hD.sub (ws' := [o3 h a_text a_steps x_size x_place x_stepCount x_number x_caught, aI G a_text 120 f_text]) [0, 2] (by decide) rfl
  have hFc := va_free (wc := [o3 h a_text a_steps x_size x_place x_stepCount x_number x_caught, aI G a_text 120 f_text]) hD hS hA [0, 2] rfl
  have hM := c_X3_passes l G h a_text a_steps x_size x_place x_stepCount x_number x_caught f_text (115 : Int32) r1.1 r1.2 hc2 H.size
  refine cl_i (w1 := [o3 h a_text a_steps x_size r1.2 x_stepCount x_number x_caught, aI G a_text 120 f_text]) (ws' := [o3 h a_text a_steps x_size r1.2 x_stepCount x_number x_caught, aI G a_steps 120 f_steps, aI G a_text 120 f_text]) hP hD hS hFc [0, 2] rfl rfl rfl (va_runV (As := [.int 115]) (rest := []) ⟨hx, hb, hml, hown, hts⟩ hM (cwV 1 hts gX3_readsClause_X3_passes rfl rfl rfl (by decide +kernel) ⟨Nat.le_of_ble_eq_true rfl, Nat.le_of_ble_eq_true rfl⟩) (cp_V hK hE hS hPc hDc hFc (va_recv hK hPc (ci := 3) (q0 := 0) rfl rfl)) rfl rfl hl.1 rfl (lv_room (Nat.le_of_ble_eq_true rfl)) dX3_readsClause_3 ⟨Nat.zero_le _, Nat.zero_le _⟩) (fun H locs hP hD hS => ?_)
  refine lv_if_eq (tgt := 42) hx hb dX3_readsClause_6 (by decide) (fun c3 => ?_) (fun c3 => ?_)
  · rw [if_pos c3] at hF
    refine lv_aload_n hx hb dX3_readsClause_42 rfl (lv_at hl 0 rfl) ?_
    refine lv_bipush (v := 99) hx hb dX3_readsClause_43 (by decide) ?_
    obtain ⟨r4, hc5, hF⟩ := bd_some hF
    have hPc := hP.sub (ws' := [o3 h a_text a_steps x_size r1.2 x_stepCount x_number x_caught, aI G a_text 120 f_text]) [0, 2] rfl
    have hDc := hD.sub (ws' := [o3 h a_text a_steps x_size r1.2 x_stepCount x_number x_caught, aI G a_text 120 f_text]) [0, 2] (by decide) rfl
    have hFc := va_free (wc := [o3 h a_text a_steps x_size r1.2 x_stepCount x_number x_caught, aI G a_text 120 f_text]) hD hS hA [0, 2] rfl
    have hM := c_X3_passes l G h a_text a_steps x_size r1.2 x_stepCount x_number x_caught f_text (99 : Int32) r4.1 r4.2 hc5 H.size
    refine cl_i (w1 := [o3 h a_text a_steps x_size r4.2 x_stepCount x_number x_caught, aI G a_text 120 f_text]) (ws' := [o3 h a_text a_steps x_size r4.2 x_stepCount x_number x_caught, aI G a_steps 120 f_steps, aI G a_text 120 f_text]) hP hD hS hFc [0, 2] rfl rfl rfl (va_runV (As := [.int 99]) (rest := []) ⟨hx, hb, hml, hown, hts⟩ hM (cwV 1 hts gX3_readsClause_X3_passes rfl rfl rfl (by decide +kernel) ⟨Nat.le_of_ble_eq_true rfl, Nat.le_of_ble_eq_true rfl⟩) (cp_V hK hE hS hPc hDc hFc (va_recv hK hPc (ci := 3) (q0 := 0) rfl rfl)) rfl rfl hl.1 rfl (lv_room (Nat.le_of_ble_eq_true rfl)) dX3_readsClause_45 ⟨Nat.zero_le _, Nat.zero_le _⟩) (fun H locs hP hD hS => ?_)
    refine lv_if_eq (tgt := 79) hx hb dX3_readsClause_48 (by decide) (fun c6 => ?_) (fun c6 => ?_)
    · rw [if_pos c6] at hF
      refine lv_aload_n hx hb dX3_readsClause_79 rfl (lv_at hl 0 rfl) ?_
      refine lv_bipush (v := 116) hx hb dX3_readsClause_80 (by decide) ?_
      obtain ⟨r7, hc8, hF⟩ := bd_some hF
      have hPc := hP.sub (ws' := [o3 h a_text a_steps x_size r4.2 x_stepCount x_number x_caught, aI G a_text 120 f_text]) [0, 2] rfl
      have hDc := hD.sub (ws' := [o3 h a_text a_steps x_size r4.2 x_stepCount x_number x_caught, aI G a_text 120 f_text]) [0, 2] (by decide) rfl
      have hFc := va_free (wc := [o3 h a_text a_steps x_size r4.2 x_stepCount x_number x_caught, aI G a_text 120 f_text]) hD hS hA [0, 2] rfl
      have hM := c_X3_passes l G h a_text a_steps x_size r4.2 x_stepCount x_number x_caught f_text (116 : Int32) r7.1 r7.2 hc8 H.size
      refine cl_i (w1 := [o3 h a_text a_steps x_size r7.2 x_stepCount x_number x_caught, aI G a_text 120 f_text]) (ws' := [o3 h a_text a_steps x_size r7.2 x_stepCount x_number x_caught, aI G a_steps 120 f_steps, aI G a_text 120 f_text]) hP hD hS hFc [0, 2] rfl rfl rfl (va_runV (As := [.int 116]) (rest := []) ⟨hx, hb, hml, hown, hts⟩ hM (cwV 1 hts gX3_readsClause_X3_passes rfl rfl rfl (by decide +kernel) ⟨Nat.le_of_ble_eq_true rfl, Nat.le_of_ble_eq_true rfl⟩) (cp_V hK hE hS hPc hDc hFc (va_recv hK hPc (ci := 3) (q0 := 0) rfl rfl)) rfl rfl hl.1 rfl (lv_room (Nat.le_of_ble_eq_true rfl)) dX3_readsClause_82 ⟨Nat.zero_le _, Nat.zero_le _⟩) (fun H locs hP hD hS => ?_)
      refine lv_if_eq (tgt := 93) hx hb dX3_readsClause_85 (by decide) (fun c9 => ?_) (fun c9 => ?_)
      · rw [if_pos c9] at hF
        refine lv_bipush (v := 19) hx hb dX3_readsClause_93 (by decide) ?_
        exact B95 _ _ _ _ _ _ H locs ls hP hD hS (lv_sub hl [0] rfl) hF
      rw [if_neg c9] at hF
      refine lv_bipush (v := 18) hx hb dX3_readsClause_88 (by decide) ?_
      refine W.eq (g2 := F0 m 90 ls [.int 18]) rfl ?_
      refine lv_goto (tgt := 95) hx hb dX3_readsClause_90 (by decide) ?_
      exact B95 _ _ _ _ _ _ H locs ls hP hD hS (lv_sub hl [0] rfl) hF
    rw [if_neg c6] at hF
    refine lv_aload_n hx hb dX3_readsClause_51 rfl (lv_at hl 0 rfl) ?_
    refine va_ldcS hx hb hown (hE.ref (i := 1) (by decide)) dX3_readsClause_52 ?_
    obtain ⟨r26, hc27, hF⟩ := bd_some hF
    have hPc := hP.sub (ws' := [o3 h a_text a_steps x_size r4.2 x_stepCount x_number x_caught, aI G a_text 120 f_text]) [0, 2] rfl
    have hDc := hD.sub (ws' := [o3 h a_text a_steps x_size r4.2 x_stepCount x_number x_caught, aI G a_text 120 f_text]) [0, 2] (by decide) rfl
    have hFc := va_free (wc := [o3 h a_text a_steps x_size r4.2 x_stepCount x_number x_caught, aI G a_text 120 f_text]) hD hS hA [0, 2] rfl
    have hM := c_X3_passesAll l G h a_text a_steps x_size r4.2 x_stepCount x_number x_caught f_text 1 (by decide) r26.1 r26.2 hc27 H.size
    refine cl_i (w1 := [o3 h a_text a_steps x_size r26.2 x_stepCount x_number x_caught, aI G a_text 120 f_text]) (ws' := [o3 h a_text a_steps x_size r26.2 x_stepCount x_number x_caught, aI G a_steps 120 f_steps, aI G a_text 120 f_text]) hP hD hS hFc [0, 2] rfl rfl rfl (va_runV (As := [.ref (G.2.2.1 1)]) (rest := []) ⟨hx, hb, hml, hown, hts⟩ hM (cwV 1 hts gX3_readsClause_X3_passesAll rfl rfl rfl (by decide +kernel) ⟨Nat.le_of_ble_eq_true rfl, Nat.le_of_ble_eq_true rfl⟩) (cp_V hK hE hS hPc hDc hFc (va_recv hK hPc (ci := 3) (q0 := 0) rfl rfl)) rfl rfl hl.1 rfl (lv_room (Nat.le_of_ble_eq_true rfl)) dX3_readsClause_54 ⟨Nat.zero_le _, Nat.zero_le _⟩) (fun H locs hP hD hS => ?_)
    refine lv_if_eq (tgt := 67) hx hb dX3_readsClause_57 (by decide) (fun c28 => ?_) (fun c28 => ?_)
    · rw [if_pos c28] at hF
      refine lv_iconst (v := 0) hx hb dX3_readsClause_67 (by decide) ?_
      refine W.eq (g2 := F0 m 68 ls [.int 0]) rfl ?_
      injection hF with hz
      injection hz with hq0 hz
      injection hz with hq1 hz
      injection hz with hq2 hz
      injection hz with hq3 hz
      injection hz with hq4 hz
      subst hq0
      subst hq1
      subst hq2
      subst hq3
      subst hq4
      subst hz
      exact cm_reti hx hb hr (by decide) hlk hK hP hD hS dX3_readsClause_68
    rw [if_neg c28] at hF
    refine lv_aload_n hx hb dX3_readsClause_60 rfl (lv_at hl 0 rfl) ?_
    refine W.eq (g2 := F0 m 61 ls [.ref h]) rfl ?_
    obtain ⟨r29, hc30, hF⟩ := bd_some hF
    have hPc := hP.sub (ws' := [o3 h a_text a_steps x_size r26.2 x_stepCount x_number x_caught, aI G a_text 120 f_text]) [0, 2] rfl
    have hDc := hD.sub (ws' := [o3 h a_text a_steps x_size r26.2 x_stepCount x_number x_caught, aI G a_text 120 f_text]) [0, 2] (by decide) rfl
    have hFc := va_free (wc := [o3 h a_text a_steps x_size r26.2 x_stepCount x_number x_caught, aI G a_text 120 f_text]) hD hS hA [0, 2] rfl
    have hM := c_X3_readsNumber l G h a_text a_steps x_size r26.2 x_stepCount x_number x_caught f_text r29.1 r29.2.1 r29.2.2 hc30 H.size
    refine cl_i (w1 := [o3 h a_text a_steps x_size r29.2.1 x_stepCount r29.2.2 x_caught, aI G a_text 120 f_text]) (ws' := [o3 h a_text a_steps x_size r29.2.1 x_stepCount r29.2.2 x_caught, aI G a_steps 120 f_steps, aI G a_text 120 f_text]) hP hD hS hFc [0, 2] rfl rfl rfl (va_runV (As := []) (rest := []) ⟨hx, hb, hml, hown, hts⟩ hM (cwV 0 hts gX3_readsClause_X3_readsNumber rfl rfl rfl (by decide +kernel) ⟨Nat.le_of_ble_eq_true rfl, Nat.le_of_ble_eq_true rfl⟩) (cp_V hK hE hS hPc hDc hFc (va_recv hK hPc (ci := 3) (q0 := 0) rfl rfl)) rfl rfl hl.1 rfl (lv_room (Nat.le_of_ble_eq_true rfl)) dX3_readsClause_61 ⟨Nat.zero_le _, Nat.zero_le _⟩) (fun H locs hP hD hS => ?_)
    refine lv_if_ne (tgt := 69) hx hb dX3_readsClause_64 (by decide) (fun c31 => ?_) (fun c31 => ?_)
    · rw [if_neg c31] at hF
      refine lv_aload_n hx hb dX3_readsClause_69 rfl (lv_at hl 0 rfl) ?_
      refine lv_aload_n hx hb dX3_readsClause_70 rfl (lv_at hl 0 rfl) ?_
      refine va_get (D := G.1) (ci := 3) (v := .int r29.2.2) (C := RX3) (T := TX3) (N := 7) hx hb hts hin3 hown hK hP 0 rfl rfl 5 (by decide) lk_64 (fun _ h9 => h9) rfl dX3_readsClause_71 ?_
      refine va_put (D := G.1) (ci := 3) (v := .int r29.2.2) (ty := .int) (C := RX3) (T := TX3) (N := 7) hx hb hts hin3 tyX3 tyX3_ok nmX3 hown hK hP hD hS 0 rfl rfl 6 (by decide) lk_34 (fun _ h9 => h9) rfl (tyX3_ok 6 (by decide)) rfl rfl (Nat.le_of_ble_eq_true rfl) dX3_readsClause_74 (fun H locs hP hD hS => ?_)
      have hP : va_P G.1 vwCl [o3 h a_text a_steps x_size r29.2.1 x_stepCount r29.2.2 r29.2.2, aI G a_steps 120 f_steps, aI G a_text 120 f_text] H := hP
      have hD : va_D A [o3 h a_text a_steps x_size r29.2.1 x_stepCount r29.2.2 r29.2.2, aI G a_steps 120 f_steps, aI G a_text 120 f_text] := hD
      refine lv_iconst (v := 1) hx hb dX3_readsClause_77 (by decide) ?_
      injection hF with hz
      injection hz with hq0 hz
      injection hz with hq1 hz
      injection hz with hq2 hz
      injection hz with hq3 hz
      injection hz with hq4 hz
      subst hq0
      subst hq1
      subst hq2
      subst hq3
      subst hq4
      subst hz
      exact cm_reti hx hb hr (by decide) hlk hK hP hD hS dX3_readsClause_78
    rw [if_pos c31] at hF
    refine lv_iconst (v := 0) hx hb dX3_readsClause_67 (by decide) ?_
    injection hF with hz
    injection hz with hq0 hz
    injection hz with hq1 hz
    injection hz with hq2 hz
    injection hz with hq3 hz
    injection hz with hq4 hz
    subst hq0
    subst hq1
    subst hq2
    subst hq3
    subst hq4
    subst hz
    exact cm_reti hx hb hr (by decide) hlk hK hP hD hS dX3_readsClause_68
  rw [if_neg c3] at hF
  refine lv_aload_n hx hb dX3_readsClause_9 rfl (lv_at hl 0 rfl) ?_
  refine va_ldcS hx hb hown (hE.ref (i := 0) (by decide)) dX3_readsClause_10 ?_
  obtain ⟨r32, hc33, hF⟩ := bd_some hF
  have hPc := hP.sub (ws' := [o3 h a_text a_steps x_size r1.2 x_stepCount x_number x_caught, aI G a_text 120 f_text]) [0, 2] rfl
  have hDc := hD.sub (ws' := [o3 h a_text a_steps x_size r1.2 x_stepCount x_number x_caught, aI G a_text 120 f_text]) [0, 2] (by decide) rfl
  have hFc := va_free (wc := [o3 h a_text a_steps x_size r1.2 x_stepCount x_number x_caught, aI G a_text 120 f_text]) hD hS hA [0, 2] rfl
  have hM := c_X3_passesAll l G h a_text a_steps x_size r1.2 x_stepCount x_number x_caught f_text 0 (by decide) r32.1 r32.2 hc33 H.size
  refine cl_i (w1 := [o3 h a_text a_steps x_size r32.2 x_stepCount x_number x_caught, aI G a_text 120 f_text]) (ws' := [o3 h a_text a_steps x_size r32.2 x_stepCount x_number x_caught, aI G a_steps 120 f_steps, aI G a_text 120 f_text]) hP hD hS hFc [0, 2] rfl rfl rfl (va_runV (As := [.ref (G.2.2.1 0)]) (rest := []) ⟨hx, hb, hml, hown, hts⟩ hM (cwV 1 hts gX3_readsClause_X3_passesAll rfl rfl rfl (by decide +kernel) ⟨Nat.le_of_ble_eq_true rfl, Nat.le_of_ble_eq_true rfl⟩) (cp_V hK hE hS hPc hDc hFc (va_recv hK hPc (ci := 3) (q0 := 0) rfl rfl)) rfl rfl hl.1 rfl (lv_room (Nat.le_of_ble_eq_true rfl)) dX3_readsClause_12 ⟨Nat.zero_le _, Nat.zero_le _⟩) (fun H locs hP hD hS => ?_)
  refine lv_if_eq (tgt := 40) hx hb dX3_readsClause_15 (by decide) (fun c34 => ?_) (fun c34 => ?_)
  · rw [if_pos c34] at hF
    refine lv_iconst (v := 0) hx hb dX3_readsClause_40 (by decide) ?_
    injection hF with hz
    injection hz with hq0 hz
    injection hz with hq1 hz
    injection hz with hq2 hz
    injection hz with hq3 hz
    injection hz with hq4 hz
    subst hq0
    subst hq1
    subst hq2
    subst hq3
    subst hq4
    subst hz
    exact cm_reti hx hb hr (by decide) hlk hK hP hD hS dX3_readsClause_41
  rw [if_neg c34] at hF
  refine lv_aload_n hx hb dX3_readsClause_18 rfl (lv_at hl 0 rfl) ?_
  refine lv_iconst (v := 0) hx hb dX3_readsClause_19 (by decide) ?_
  obtain ⟨r35, hc36, hF⟩ := bd_some hF
  have hPc := hP.sub (ws' := [o3 h a_text a_steps x_size r32.2 x_stepCount x_number x_caught, aI G a_steps 120 f_steps, aI G a_text 120 f_text]) [0, 1, 2] rfl
  have hDc := hD.sub (ws' := [o3 h a_text a_steps x_size r32.2 x_stepCount x_number x_caught, aI G a_steps 120 f_steps, aI G a_text 120 f_text]) [0, 1, 2] (by decide) rfl
  have hFc := va_free (wc := [o3 h a_text a_steps x_size r32.2 x_stepCount x_number x_caught, aI G a_steps 120 f_steps, aI G a_text 120 f_text]) hD hS hA [0, 1, 2] rfl
  have hM := (c_tR l G 40).2.2 h a_text a_steps x_size r32.2 x_stepCount x_number x_caught f_steps f_text (0 : Int32) r35.1 r35.2.1 r35.2.2.1 r35.2.2.2.1 r35.2.2.2.2 hc36 H.size
  refine cl_i (w1 := [o3 h a_text a_steps x_size r35.2.1 r35.2.2.1 r35.2.2.2.1 x_caught, aI G a_steps 120 r35.2.2.2.2, aI G a_text 120 f_text]) (ws' := [o3 h a_text a_steps x_size r35.2.1 r35.2.2.1 r35.2.2.2.1 x_caught, aI G a_steps 120 r35.2.2.2.2, aI G a_text 120 f_text]) hP hD hS hFc [0, 1, 2] rfl rfl rfl (va_runV (As := [.int 0]) (rest := []) ⟨hx, hb, hml, hown, hts⟩ hM (cwV 1 hts gX3_readsClause_X3_readsAny rfl rfl rfl (by decide +kernel) ⟨Nat.le_of_ble_eq_true rfl, Nat.le_of_ble_eq_true rfl⟩) (cp_V hK hE hS hPc hDc hFc (va_recv hK hPc (ci := 3) (q0 := 0) rfl rfl)) rfl rfl hl.1 rfl (lv_room (Nat.le_of_ble_eq_true rfl)) dX3_readsClause_20 ⟨Nat.zero_le _, Nat.zero_le _⟩) (fun H locs hP hD hS => ?_)
  refine lv_if_eq (tgt := 40) hx hb dX3_readsClause_23 (by decide) (fun c37 => ?_) (fun c37 => ?_)
  · rw [if_pos c37] at hF
    refine lv_iconst (v := 0) hx hb dX3_readsClause_40 (by decide) ?_
    refine W.eq (g2 := F0 m 41 ls [.int 0]) rfl ?_
    injection hF with hz
    injection hz with hq0 hz
    injection hz with hq1 hz
    injection hz with hq2 hz
    injection hz with hq3 hz
    injection hz with hq4 hz
    subst hq0
    subst hq1
    subst hq2
    subst hq3
    subst hq4
    subst hz
    exact cm_reti hx hb hr (by decide) hlk hK hP hD hS dX3_readsClause_41
  rw [if_neg c37] at hF
  refine lv_aload_n hx hb dX3_readsClause_26 rfl (lv_at hl 0 rfl) ?_
  refine W.eq (g2 := F0 m 27 ls [.ref h]) rfl ?_
  refine lv_bipush (v := 20) hx hb dX3_readsClause_27 (by decide) ?_
  refine lv_iconst (v := 0) hx hb dX3_readsClause_29 (by decide) ?_
  obtain ⟨r38, hc39, hF⟩ := bd_some hF
  have hPc := hP.sub (ws' := [o3 h a_text a_steps x_size r35.2.1 r35.2.2.1 r35.2.2.2.1 x_caught, aI G a_steps 120 r35.2.2.2.2]) [0, 1] rfl
  have hDc := hD.sub (ws' := [o3 h a_text a_steps x_size r35.2.1 r35.2.2.1 r35.2.2.2.1 x_caught, aI G a_steps 120 r35.2.2.2.2]) [0, 1] (by decide) rfl
  have hFc := va_free (wc := [o3 h a_text a_steps x_size r35.2.1 r35.2.2.1 r35.2.2.2.1 x_caught, aI G a_steps 120 r35.2.2.2.2]) hD hS hA [0, 1] rfl
  have hM := c_X3_adds l G h a_text a_steps x_size r35.2.1 r35.2.2.1 r35.2.2.2.1 x_caught r35.2.2.2.2 (20 : Int32) (0 : Int32) r38.1 r38.2.1 r38.2.2 hc39 H.size
  refine cl_i (w1 := [o3 h a_text a_steps x_size r35.2.1 r38.2.1 r35.2.2.2.1 x_caught, aI G a_steps 120 r38.2.2]) (ws' := [o3 h a_text a_steps x_size r35.2.1 r38.2.1 r35.2.2.2.1 x_caught, aI G a_steps 120 r38.2.2, aI G a_text 120 f_text]) hP hD hS hFc [0, 1] rfl rfl rfl (va_runV (As := [.int 20, .int 0]) (rest := []) ⟨hx, hb, hml, hown, hts⟩ hM (cwV 2 hts gX3_readsClause_X3_adds rfl rfl rfl (by decide +kernel) ⟨Nat.le_of_ble_eq_true rfl, Nat.le_of_ble_eq_true rfl⟩) (cp_V hK hE hS hPc hDc hFc (va_recv hK hPc (ci := 3) (q0 := 0) rfl rfl)) rfl rfl hl.1 rfl (lv_room (Nat.le_of_ble_eq_true rfl)) dX3_readsClause_30 ⟨Nat.zero_le _, Nat.zero_le _⟩) (fun H locs hP hD hS => ?_)
  refine lv_if_eq (tgt := 40) hx hb dX3_readsClause_33 (by decide) (fun c40 => ?_) (fun c40 => ?_)
  · rw [if_pos c40] at hF
    refine lv_iconst (v := 0) hx hb dX3_readsClause_40 (by decide) ?_
    injection hF with hz
    injection hz with hq0 hz
    injection hz with hq1 hz
    injection hz with hq2 hz
    injection hz with hq3 hz
    injection hz with hq4 hz
    subst hq0
    subst hq1
    subst hq2
    subst hq3
    subst hq4
    subst hz
    exact cm_reti hx hb hr (by decide) hlk hK hP hD hS dX3_readsClause_41
  rw [if_neg c40] at hF
  refine lv_iconst (v := 1) hx hb dX3_readsClause_36 (by decide) ?_
  refine lv_goto (tgt := 41) hx hb dX3_readsClause_37 (by decide) ?_
  injection hF with hz
  injection hz with hq0 hz
  injection hz with hq1 hz
  injection hz with hq2 hz
  injection hz with hq3 hz
  injection hz with hq4 hz
  subst hq0
  subst hq1
  subst hq2
  subst hq3
  subst hq4
  subst hz
  exact cm_reti hx hb hr (by decide) hlk hK hP hD hS dX3_readsClause_41

/-! HeadsByHair$Reader.reads([II)Z -/
abbrev rm_X3_reads : Room := { frames := 52, cells := 0, slots := 0, locals := 2745 }
set_option maxHeartbeats 4000000 in
set_option maxRecDepth 100000 in
theorem c_X3_reads (l : Launch) (G : GG) (h a_text a_steps a_p1 : Nat) (x_size x_place x_stepCount x_number x_caught : Int32) (f_steps : Nat → Int32) (f_p1 : Nat → Int32) (l2 : Int32) (z : Int32) (z_x_size : Int32) (z_x_place : Int32) (z_x_stepCount : Int32) (z_x_number : Int32) (z_x_caught : Int32) (z_f_steps : Nat → Int32) (hF : fX3_reads x_size x_place x_stepCount x_number x_caught f_steps f_p1 l2 = some (z, z_x_size, z_x_place, z_x_stepCount, z_x_number, z_x_caught, z_f_steps)) : CMi l yX3_reads wsX3_reads rm_X3_reads G [o3 h a_text a_steps x_size x_place x_stepCount x_number x_caught, aI G a_steps 120 f_steps, aI G a_p1 120 f_p1] [o3 h a_p1 a_steps z_x_size z_x_place z_x_stepCount z_x_number z_x_caught, aI G a_steps 120 z_f_steps, aI G a_p1 120 f_p1] [.ref h, .ref a_p1, .int l2] z := by
  refine cm_start (cc := cX3_reads) (maxL := 4) (ret := (some .boolean)) (Qc := fun A => QI G [o3 h a_p1 a_steps z_x_size z_x_place z_x_stepCount z_x_number z_x_caught, aI G a_steps 120 z_f_steps, aI G a_p1 120 f_p1] z A) (by decide +kernel) rfl (Nat.le_of_ble_eq_true rfl) ?_
  intro p e s m args below meth c A hx hb hr hlk hml hown hnm hts hA H locs hP hK hD hE hS ls hl
  have hown : s.vm.findClass RX3 = some m.cls := hown
  have hl : lv_has ls 4 [(0, .ref h), (1, .ref a_p1), (2, .int l2)] := hl
  have hin3 : ∀ w ∈ wsX30, w ∈ wsX3_reads := by decide +kernel
  have lk_9 := hts (.fieldLink RX3 9 "HeadsByHair$Reader" "text" "[I") (by decide +kernel)
  have lm_18 := hts (.methodLink RX3 18 Lib.Math.min.name) (by decide +kernel)
  have ms_min := hts (.static Lib.Math.min.name) (by decide +kernel)
  have mi := hts (.initialized "java/lang/Math") (by decide +kernel)
  have mc_min := hts (.code Lib.Math.min.name Lib.Math.min.code 2 (some .int)) (by decide +kernel)
  have lk_24 := hts (.fieldLink RX3 24 "HeadsByHair$Reader" "size" "I") (by decide +kernel)
  have lk_28 := hts (.fieldLink RX3 28 "HeadsByHair$Reader" "place" "I") (by decide +kernel)
  have lk_31 := hts (.fieldLink RX3 31 "HeadsByHair$Reader" "stepCount" "I") (by decide +kernel)
  have lk_34 := hts (.fieldLink RX3 34 "HeadsByHair$Reader" "caught" "I") (by decide +kernel)
  revert hF
  have LP32 : ∀ (x_size : Int32) (n : Nat) (x_place : Int32) (x_stepCount : Int32) (x_number : Int32) (x_caught : Int32) (f_steps : Nat → Int32) (l3 : Int32) (H : Heap) (locs : List Loc) (ls : Array Slot), va_P G.1 vwCl [o3 h a_p1 a_steps x_size x_place x_stepCount x_number x_caught, aI G a_steps 120 f_steps, aI G a_p1 120 f_p1] H → va_D A [o3 h a_p1 a_steps x_size x_place x_stepCount x_number x_caught, aI G a_steps 120 f_steps, aI G a_p1 120 f_p1] → va_S A s.heap H locs → lv_has ls 4 [(0, .ref h), (3, .int l3)] → fX3_reads_L32 x_size f_p1 n x_place x_stepCount x_number x_caught f_steps l3 = some (z, z_x_size, z_x_place, z_x_stepCount, z_x_number, z_x_caught, z_f_steps) → W p l e (rm_X3_reads) s m args below meth c H locs 0 0 (MQ below (QI G [o3 h a_p1 a_steps z_x_size z_x_place z_x_stepCount z_x_number z_x_caught, aI G a_steps 120 z_f_steps, aI G a_p1 120 f_p1] z A) args s 0 0 A) (F0 m 32 ls []) := by
    intro x_size n
    induction n with
    | zero =>
      intro x_place x_stepCount x_number x_caught f_steps l3 H locs ls hP hD hS hl hF
      cases hF
    | succ n ih =>
      have B53 : ∀ (x_place : Int32) (x_stepCount : Int32) (x_number : Int32) (x_caught : Int32) (f_steps : Nat → Int32) (l3 : Int32) (H : Heap) (locs : List Loc) (ls : Array Slot), va_P G.1 vwCl [o3 h a_p1 a_steps x_size x_place x_stepCount x_number x_caught, aI G a_steps 120 f_steps, aI G a_p1 120 f_p1] H → va_D A [o3 h a_p1 a_steps x_size x_place x_stepCount x_number x_caught, aI G a_steps 120 f_steps, aI G a_p1 120 f_p1] → va_S A s.heap H locs → lv_has ls 4 [(0, .ref h), (3, .int l3)] → fX3_reads_b53 (fX3_reads_L32 x_size f_p1 n) x_size x_place x_stepCount x_number x_caught f_steps f_p1 l3 = some (z, z_x_size, z_x_place, z_x_stepCount, z_x_number, z_x_caught, z_f_steps) → W p l e (rm_X3_reads) s m args below meth c H locs 0 0 (MQ below (QI G [o3 h a_p1 a_steps z_x_size z_x_place z_x_stepCount z_x_number z_x_caught, aI G a_steps 120 z_f_steps, aI G a_p1 120 f_p1] z A) args s 0 0 A) (F0 m 53 ls []) := by
        intro x_place x_stepCount x_number x_caught f_steps l3 H locs ls hP hD hS hl hF
        unfold fX3_reads_b53 at hF
        refine lv_aload_n hx hb dX3_reads_53 rfl (lv_at hl 0 rfl) ?_
        obtain ⟨r3, hc4, hF⟩ := bd_some hF
        have hPc := hP.sub (ws' := [o3 h a_p1 a_steps x_size x_place x_stepCount x_number x_caught, aI G a_steps 120 f_steps, aI G a_p1 120 f_p1]) [0, 1, 2] rfl
        have hDc := hD.sub (ws' := [o3 h a_p1 a_steps x_size x_place x_stepCount x_number x_caught, aI G a_steps 120 f_steps, aI G a_p1 120 f_p1]) [0, 1, 2] (by decide) rfl
        have hFc := va_free (wc := [o3 h a_p1 a_steps x_size x_place x_stepCount x_number x_caught, aI G a_steps 120 f_steps, aI G a_p1 120 f_p1]) hD hS hA [0, 1, 2] rfl
        have hM := c_X3_readsClause l G h a_p1 a_steps x_size x_place x_stepCount x_number x_caught f_steps f_p1 r3.1 r3.2.1 r3.2.2.1 r3.2.2.2.1 r3.2.2.2.2.1 r3.2.2.2.2.2 hc4 H.size
        refine cl_i (w1 := [o3 h a_p1 a_steps x_size r3.2.1 r3.2.2.1 r3.2.2.2.1 r3.2.2.2.2.1, aI G a_steps 120 r3.2.2.2.2.2, aI G a_p1 120 f_p1]) (ws' := [o3 h a_p1 a_steps x_size r3.2.1 r3.2.2.1 r3.2.2.2.1 r3.2.2.2.2.1, aI G a_steps 120 r3.2.2.2.2.2, aI G a_p1 120 f_p1]) hP hD hS hFc [0, 1, 2] rfl rfl rfl (va_runV (As := []) (rest := []) ⟨hx, hb, hml, hown, hts⟩ hM (cwV 0 hts gX3_reads_X3_readsClause rfl rfl rfl (by decide +kernel) ⟨Nat.le_of_ble_eq_true rfl, Nat.le_of_ble_eq_true rfl⟩) (cp_V hK hE hS hPc hDc hFc (va_recv hK hPc (ci := 3) (q0 := 0) rfl rfl)) rfl rfl hl.1 rfl (lv_room (Nat.le_of_ble_eq_true rfl)) dX3_reads_54 ⟨Nat.zero_le _, Nat.zero_le _⟩) (fun H locs hP hD hS => ?_)
        refine lv_if_ne (tgt := 62) hx hb dX3_reads_57 (by decide) (fun c5 => ?_) (fun c5 => ?_)
        · rw [if_neg c5] at hF
          refine lv_aload_n hx hb dX3_reads_62 rfl (lv_at hl 0 rfl) ?_
          refine va_get (D := G.1) (ci := 3) (v := .int r3.2.1) (C := RX3) (T := TX3) (N := 7) hx hb hts hin3 hown hK hP 0 rfl rfl 3 (by decide) lk_28 (fun _ h9 => h9) rfl dX3_reads_63 ?_
          refine lv_aload_n hx hb dX3_reads_66 rfl (lv_at hl 0 rfl) ?_
          refine va_get (D := G.1) (ci := 3) (v := .int x_size) (C := RX3) (T := TX3) (N := 7) hx hb hts hin3 hown hK hP 0 rfl rfl 2 (by decide) lk_24 (fun _ h9 => h9) rfl dX3_reads_67 ?_
          refine lv_icmp_lt (tgt := 75) hx hb dX3_reads_70 (by decide) (fun c6 => ?_) (fun c6 => ?_)
          · rw [if_pos c6] at hF
            refine lv_iinc (v := l3 + 1) (lv' := [(3, .int (l3 + 1)), (0, .ref h)]) hx hb dX3_reads_75 hl (k := 1) rfl rfl (by decide) rfl (fun ls hl => ?_)
            refine lv_goto (tgt := 32) hx hb dX3_reads_78 (by decide) ?_
            exact ih _ _ _ _ _ _ H locs ls hP hD hS (lv_sub hl [1, 0] rfl) hF
          rw [if_neg c6] at hF
          refine lv_iconst (v := 1) hx hb dX3_reads_73 (by decide) ?_
          injection hF with hz
          injection hz with hq0 hz
          injection hz with hq1 hz
          injection hz with hq2 hz
          injection hz with hq3 hz
          injection hz with hq4 hz
          injection hz with hq5 hz
          subst hq0
          subst hq1
          subst hq2
          subst hq3
          subst hq4
          subst hq5
          subst hz
          exact cm_reti hx hb hr (by decide) hlk hK hP hD hS dX3_reads_74
        rw [if_pos c5] at hF
        refine lv_iconst (v := 0) hx hb dX3_reads_60 (by decide) ?_
        injection hF with hz
        injection hz with hq0 hz
        injection hz with hq1 hz
        injection hz with hq2 hz
        injection hz with hq3 hz
        injection hz with hq4 hz
        injection hz with hq5 hz
        subst hq0
        subst hq1
        subst hq2
        subst hq3
        subst hq4
        subst hq5
        subst hz
        exact cm_reti hx hb hr (by decide) hlk hK hP hD hS dX3_reads_61
      intro x_place x_stepCount x_number x_caught f_steps l3 H locs ls hP hD hS hl hF
      rw [fX3_reads_L32] at hF
      refine lv_iload_n hx hb dX3_reads_32 rfl (lv_at hl 1 rfl) ?_
      refine lv_bipush (v := 8) hx hb dX3_reads_33 (by decide) ?_
      refine lv_icmp_ge (tgt := 81) hx hb dX3_reads_35 (by decide) (fun c1 => ?_) (fun c1 => ?_)
      · rw [if_pos c1] at hF
        refine lv_iconst (v := 0) hx hb dX3_reads_81 (by decide) ?_
        injection hF with hz
        injection hz with hq0 hz
        injection hz with hq1 hz
        injection hz with hq2 hz
        injection hz with hq3 hz
        injection hz with hq4 hz
        injection hz with hq5 hz
        subst hq0
        subst hq1
        subst hq2
        subst hq3
        subst hq4
        subst hq5
        subst hz
        exact cm_reti hx hb hr (by decide) hlk hK hP hD hS dX3_reads_82
      rw [if_neg c1] at hF
      refine lv_iload_n hx hb dX3_reads_38 rfl (lv_at hl 1 rfl) ?_
      refine lv_if_le (tgt := 53) hx hb dX3_reads_39 (by decide) (fun c2 => ?_) (fun c2 => ?_)
      · rw [if_pos c2] at hF
        exact B53 _ _ _ _ _ _ H locs ls hP hD hS (lv_sub hl [0, 1] rfl) hF
      rw [if_neg c2] at hF
      refine lv_aload_n hx hb dX3_reads_42 rfl (lv_at hl 0 rfl) ?_
      refine lv_bipush (v := 59) hx hb dX3_reads_43 (by decide) ?_
      obtain ⟨r7, hc8, hF⟩ := bd_some hF
      have hPc := hP.sub (ws' := [o3 h a_p1 a_steps x_size x_place x_stepCount x_number x_caught, aI G a_p1 120 f_p1]) [0, 2] rfl
      have hDc := hD.sub (ws' := [o3 h a_p1 a_steps x_size x_place x_stepCount x_number x_caught, aI G a_p1 120 f_p1]) [0, 2] (by decide) rfl
      have hFc := va_free (wc := [o3 h a_p1 a_steps x_size x_place x_stepCount x_number x_caught, aI G a_p1 120 f_p1]) hD hS hA [0, 2] rfl
      have hM := c_X3_passes l G h a_p1 a_steps x_size x_place x_stepCount x_number x_caught f_p1 (59 : Int32) r7.1 r7.2 hc8 H.size
      refine cl_i (w1 := [o3 h a_p1 a_steps x_size r7.2 x_stepCount x_number x_caught, aI G a_p1 120 f_p1]) (ws' := [o3 h a_p1 a_steps x_size r7.2 x_stepCount x_number x_caught, aI G a_steps 120 f_steps, aI G a_p1 120 f_p1]) hP hD hS hFc [0, 2] rfl rfl rfl (va_runV (As := [.int 59]) (rest := []) ⟨hx, hb, hml, hown, hts⟩ hM (cwV 1 hts gX3_reads_X3_passes rfl rfl rfl (by decide +kernel) ⟨Nat.le_of_ble_eq_true rfl, Nat.le_of_ble_eq_true rfl⟩) (cp_V hK hE hS hPc hDc hFc (va_recv hK hPc (ci := 3) (q0 := 0) rfl rfl)) rfl rfl hl.1 rfl (lv_room (Nat.le_of_ble_eq_true rfl)) dX3_reads_45 ⟨Nat.zero_le _, Nat.zero_le _⟩) (fun H locs hP hD hS => ?_)
      refine lv_if_ne (tgt := 53) hx hb dX3_reads_48 (by decide) (fun c9 => ?_) (fun c9 => ?_)
      · rw [if_neg c9] at hF
        exact B53 _ _ _ _ _ _ H locs ls hP hD hS (lv_sub hl [0, 1] rfl) hF
      rw [if_pos c9] at hF
      refine lv_iconst (v := 0) hx hb dX3_reads_51 (by decide) ?_
      injection hF with hz
      injection hz with hq0 hz
      injection hz with hq1 hz
      injection hz with hq2 hz
      injection hz with hq3 hz
      injection hz with hq4 hz
      injection hz with hq5 hz
      subst hq0
      subst hq1
      subst hq2
      subst hq3
      subst hq4
      subst hq5
      subst hz
      exact cm_reti hx hb hr (by decide) hlk hK hP hD hS dX3_reads_52
  intro hF
  unfold fX3_reads at hF
  refine lv_aload_n hx hb dX3_reads_0 rfl (lv_at hl 0 rfl) ?_
  refine lv_aload_n hx hb dX3_reads_1 rfl (lv_at hl 1 rfl) ?_
  refine va_put (D := G.1) (ci := 3) (v := .ref a_p1) (ty := (.array .int)) (C := RX3) (T := TX3) (N := 7) hx hb hts hin3 tyX3 tyX3_ok nmX3 hown hK hP hD hS 0 rfl rfl 0 (by decide) lk_9 (fun _ h9 => h9) rfl (tyX3_ok 0 (by decide)) rfl rfl (Nat.le_of_ble_eq_true rfl) dX3_reads_2 (fun H locs hP hD hS => ?_)
  have hP : va_P G.1 vwCl [o3 h a_p1 a_steps x_size x_place x_stepCount x_number x_caught, aI G a_steps 120 f_steps, aI G a_p1 120 f_p1] H := hP
  have hD : va_D A [o3 h a_p1 a_steps x_size x_place x_stepCount x_number x_caught, aI G a_steps 120 f_steps, aI G a_p1 120 f_p1] := hD
  refine lv_aload_n hx hb dX3_reads_5 rfl (lv_at hl 0 rfl) ?_
  refine lv_iload_n hx hb dX3_reads_6 rfl (lv_at hl 2 rfl) ?_
  refine lv_aload_n hx hb dX3_reads_7 rfl (lv_at hl 1 rfl) ?_
  refine va_alen (D := G.1) (v := 120) hx hb hK hP 2 0 rfl rfl rfl dX3_reads_8 ?_
  refine va_mmin hx hb (hml.trans hl.1.symm) hown lm_18 ms_min mi mc_min (Nat.le_of_ble_eq_true rfl) (Nat.le_of_ble_eq_true rfl) (Nat.zero_le _) (Nat.zero_le _) dX3_reads_9 ?_
  refine va_put (D := G.1) (ci := 3) (v := .int (if 120 < l2 then 120 else l2)) (ty := .int) (C := RX3) (T := TX3) (N := 7) hx hb hts hin3 tyX3 tyX3_ok nmX3 hown hK hP hD hS 0 rfl rfl 2 (by decide) lk_24 (fun _ h9 => h9) rfl (tyX3_ok 2 (by decide)) rfl rfl (Nat.le_of_ble_eq_true rfl) dX3_reads_12 (fun H locs hP hD hS => ?_)
  have hP : va_P G.1 vwCl [o3 h a_p1 a_steps (if 120 < l2 then 120 else l2) x_place x_stepCount x_number x_caught, aI G a_steps 120 f_steps, aI G a_p1 120 f_p1] H := hP
  have hD : va_D A [o3 h a_p1 a_steps (if 120 < l2 then 120 else l2) x_place x_stepCount x_number x_caught, aI G a_steps 120 f_steps, aI G a_p1 120 f_p1] := hD
  refine lv_aload_n hx hb dX3_reads_15 rfl (lv_at hl 0 rfl) ?_
  refine lv_iconst (v := 0) hx hb dX3_reads_16 (by decide) ?_
  refine va_put (D := G.1) (ci := 3) (v := .int 0) (ty := .int) (C := RX3) (T := TX3) (N := 7) hx hb hts hin3 tyX3 tyX3_ok nmX3 hown hK hP hD hS 0 rfl rfl 3 (by decide) lk_28 (fun _ h9 => h9) rfl (tyX3_ok 3 (by decide)) rfl rfl (Nat.le_of_ble_eq_true rfl) dX3_reads_17 (fun H locs hP hD hS => ?_)
  have hP : va_P G.1 vwCl [o3 h a_p1 a_steps (if 120 < l2 then 120 else l2) 0 x_stepCount x_number x_caught, aI G a_steps 120 f_steps, aI G a_p1 120 f_p1] H := hP
  have hD : va_D A [o3 h a_p1 a_steps (if 120 < l2 then 120 else l2) 0 x_stepCount x_number x_caught, aI G a_steps 120 f_steps, aI G a_p1 120 f_p1] := hD
  refine lv_aload_n hx hb dX3_reads_20 rfl (lv_at hl 0 rfl) ?_
  refine W.eq (g2 := F0 m 21 ls [.ref h]) rfl ?_
  refine lv_iconst (v := 0) hx hb dX3_reads_21 (by decide) ?_
  refine va_put (D := G.1) (ci := 3) (v := .int 0) (ty := .int) (C := RX3) (T := TX3) (N := 7) hx hb hts hin3 tyX3 tyX3_ok nmX3 hown hK hP hD hS 0 rfl rfl 4 (by decide) lk_31 (fun _ h9 => h9) rfl (tyX3_ok 4 (by decide)) rfl rfl (Nat.le_of_ble_eq_true rfl) dX3_reads_22 (fun H locs hP hD hS => ?_)
  have hP : va_P G.1 vwCl [o3 h a_p1 a_steps (if 120 < l2 then 120 else l2) 0 0 x_number x_caught, aI G a_steps 120 f_steps, aI G a_p1 120 f_p1] H := hP
  have hD : va_D A [o3 h a_p1 a_steps (if 120 < l2 then 120 else l2) 0 0 x_number x_caught, aI G a_steps 120 f_steps, aI G a_p1 120 f_p1] := hD
  refine lv_aload_n hx hb dX3_reads_25 rfl (lv_at hl 0 rfl) ?_
  refine lv_iconst (v := 0) hx hb dX3_reads_26 (by decide) ?_
  refine va_put (D := G.1) (ci := 3) (v := .int 0) (ty := .int) (C := RX3) (T := TX3) (N := 7) hx hb hts hin3 tyX3 tyX3_ok nmX3 hown hK hP hD hS 0 rfl rfl 6 (by decide) lk_34 (fun _ h9 => h9) rfl (tyX3_ok 6 (by decide)) rfl rfl (Nat.le_of_ble_eq_true rfl) dX3_reads_27 (fun H locs hP hD hS => ?_)
  have hP : va_P G.1 vwCl [o3 h a_p1 a_steps (if 120 < l2 then 120 else l2) 0 0 x_number 0, aI G a_steps 120 f_steps, aI G a_p1 120 f_p1] H := hP
  have hD : va_D A [o3 h a_p1 a_steps (if 120 < l2 then 120 else l2) 0 0 x_number 0, aI G a_steps 120 f_steps, aI G a_p1 120 f_p1] := hD
  refine lv_iconst (v := 0) hx hb dX3_reads_30 (by decide) ?_
  refine lv_istore_n (lv' := [(3, .int 0), (0, .ref h), (1, .ref a_p1), (2, .int l2)]) hx hb dX3_reads_31 rfl hl (by decide) rfl (fun ls hl => ?_)
  refine LP32 _ _ _ _ _ _ _ _ H locs ls hP hD hS (lv_sub hl [1, 0] rfl) hF
