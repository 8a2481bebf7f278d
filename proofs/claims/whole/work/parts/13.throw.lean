abbrev oT (ci h : Nat) (x_kind x_number x_v x_caught : Int32) (x_steps : Nat) : Nat × va_E := (h, .inr (ci, [.int x_kind, .int x_number, .int x_v, .int x_caught, .ref x_steps]))
theorem TXe0 : TX0 = TX7 := by
  funext k
  match k with
  | 0 => rfl
  | 1 => rfl
  | 2 => rfl
  | 3 => rfl
  | _ + 4 => rfl
theorem TXe1 : TX1 = TX7 := by
  funext k
  match k with
  | 0 => rfl
  | 1 => rfl
  | 2 => rfl
  | 3 => rfl
  | _ + 4 => rfl
theorem TXe4 : TX4 = TX7 := by
  funext k
  match k with
  | 0 => rfl
  | 1 => rfl
  | 2 => rfl
  | 3 => rfl
  | _ + 4 => rfl
theorem TXe5 : TX5 = TX7 := by
  funext k
  match k with
  | 0 => rfl
  | 1 => rfl
  | 2 => rfl
  | 3 => rfl
  | _ + 4 => rfl
theorem TXe9 : TX9 = TX7 := by
  funext k
  match k with
  | 0 => rfl
  | 1 => rfl
  | 2 => rfl
  | 3 => rfl
  | _ + 4 => rfl
theorem TXe10 : TX10 = TX7 := by
  funext k
  match k with
  | 0 => rfl
  | 1 => rfl
  | 2 => rfl
  | 3 => rfl
  | _ + 4 => rfl
theorem tC_at {ci : Nat} (h : isT ci) : vwCl[ci]? = some (tC ci, TX7, 5) := by
  rcases h with rfl | rfl | rfl | rfl | rfl | rfl | rfl
  · show some (RX0, TX0, 5) = _; rw [TXe0]; rfl
  · show some (RX1, TX1, 5) = _; rw [TXe1]; rfl
  · show some (RX4, TX4, 5) = _; rw [TXe4]; rfl
  · show some (RX5, TX5, 5) = _; rw [TXe5]; rfl
  · rfl
  · show some (RX9, TX9, 5) = _; rw [TXe9]; rfl
  · show some (RX10, TX10, 5) = _; rw [TXe10]; rfl
theorem nw_upin (w : Cond) (h : w ∈ nw_up) : w ∈ nw_list := List.mem_append_right _ (List.mem_append_left _ h)
theorem ev_X7_sideByAngle : ∀ w ∈ wsX7_sideByAngle, w ∈ nw_list := fun w h => List.mem_append_right _ (List.mem_append_right _ (List.mem_append_left _ h))
theorem ev_X9_turns : ∀ w ∈ wsX9_turns, w ∈ nw_list := fun w h => List.mem_append_right _ (List.mem_append_right _ (List.mem_append_right _ (List.mem_append_left _ h)))
theorem ev_X7_leans : ∀ w ∈ wsX7_leans, w ∈ nw_list := fun w h => List.mem_append_right _ (List.mem_append_right _ (List.mem_append_right _ (List.mem_append_right _ h)))
theorem ev_ws {G : GG} {A : Nat → Prop} {s : State} {H : Heap} (hE : EV G A s H) {ws : List Cond} (hin : ∀ w ∈ ws, w ∈ nw_list) (hok : ws.all (fun w => w.onTables && w.keeps) = true) : ∀ w ∈ ws, ∀ (a' : Array Value) (U : State), s.WarmedH U.vm → w.before a' U = true :=
  fun w hw _ _ hW => word_at hW (Or.inl (List.all_eq_true.mp hok w hw)) (hE.nw w (hin w hw))
/-! HeadsByHair$Throw.sideByAngle(III)I -/
abbrev rm_X7_sideByAngle : Room := { frames := 0, cells := 0, slots := 0, locals := 0 }
set_option maxHeartbeats 4000000 in
set_option maxRecDepth 100000 in
theorem c_X7_sideByAngle (l : Launch) (G : GG) (l0 : Int32) (l1 : Int32) (l2 : Int32) (z : Int32) (hF : fX7_sideByAngle l0 l1 l2 = some (z)) : CMi l yX7_sideByAngle wsX7_sideByAngle rm_X7_sideByAngle G [] [] [.int l0, .int l1, .int l2] z := by
  refine cm_start (cc := cX7_sideByAngle) (maxL := 3) (ret := (some .int)) (Qc := fun A => QI G [] z A) (by decide +kernel) rfl (Nat.le_of_ble_eq_true rfl) ?_
  intro p e s m args below meth c A hx hb hr hlk hml hown hnm hts hA H locs hP hK hD hE hS ls hl
  have hown : s.vm.findClass RX7 = some m.cls := hown
  have hl : lv_has ls 3 [(0, .int l0), (1, .int l1), (2, .int l2)] := hl
  revert hF
  intro hF
  unfold fX7_sideByAngle at hF
  refine lv_iload_n hx hb dX7_sideByAngle_0 rfl (lv_at hl 0 rfl) ?_
  refine lv_iload_n hx hb dX7_sideByAngle_1 rfl (lv_at hl 1 rfl) ?_
  refine lv_icmp_ge (tgt := 9) hx hb dX7_sideByAngle_2 (by decide) (fun c1 => ?_) (fun c1 => ?_)
  · rw [if_pos c1] at hF
    refine lv_iconst (v := 1) hx hb dX7_sideByAngle_9 (by decide) ?_
    refine lv_iload_n hx hb dX7_sideByAngle_10 rfl (lv_at hl 2 rfl) ?_
    refine lv_isub hx hb dX7_sideByAngle_11 ?_
    injection hF with hz
    subst hz
    exact cm_reti hx hb hr rfl hlk hK hP hD hS dX7_sideByAngle_12
  rw [if_neg c1] at hF
  refine lv_iload_n hx hb dX7_sideByAngle_5 rfl (lv_at hl 2 rfl) ?_
  refine lv_goto (tgt := 12) hx hb dX7_sideByAngle_6 (by decide) ?_
  injection hF with hz
  subst hz
  exact cm_reti hx hb hr rfl hlk hK hP hD hS dX7_sideByAngle_12
/-! HeadsByHair$Throw.sideUp(LHeadsByHair$Flight;I)I -/
abbrev rm_X7_sideUp : Room := { frames := 0, cells := 0, slots := 0, locals := 0 }
set_option maxHeartbeats 4000000 in
set_option maxRecDepth 100000 in
theorem c_X7_sideUp (l : Launch) (G : GG) (ct : Nat) (hct : ct = 0 ∨ ct = 1 ∨ ct = 4 ∨ ct = 5 ∨ ct = 7 ∨ ct = 9 ∨ ct = 10) (a_p1 h a_steps : Nat) (x_p1_hand x_p1_edge x_p1_bend x_p1_rise x_p1_last x_p1_tick x_p1_angle x_p1_lean x_kind x_number x_v x_caught : Int32) (l2 : Int32) (z : Int32) (hF : fX7_sideUp ct l2 = some (z)) : CMi l yX7_sideUp wsX7_sideUp rm_X7_sideUp G [o2 a_p1 x_p1_hand x_p1_edge x_p1_bend x_p1_rise x_p1_last x_p1_tick x_p1_angle x_p1_lean, oT ct h x_kind x_number x_v x_caught a_steps] [o2 a_p1 x_p1_hand x_p1_edge x_p1_bend x_p1_rise x_p1_last x_p1_tick x_p1_angle x_p1_lean, oT ct h x_kind x_number x_v x_caught a_steps] [.ref h, .ref a_p1, .int l2] z := by
  refine cm_start (cc := cX7_sideUp) (maxL := 3) (ret := (some .int)) (Qc := fun A => QI G [o2 a_p1 x_p1_hand x_p1_edge x_p1_bend x_p1_rise x_p1_last x_p1_tick x_p1_angle x_p1_lean, oT ct h x_kind x_number x_v x_caught a_steps] z A) (by decide +kernel) rfl (Nat.le_of_ble_eq_true rfl) ?_
  intro p e s m args below meth c A hx hb hr hlk hml hown hnm hts hA H locs hP hK hD hE hS ls hl
  have hown : s.vm.findClass RX7 = some m.cls := hown
  have hl : lv_has ls 3 [(0, .ref h), (1, .ref a_p1), (2, .int l2)] := hl
  revert hF
  intro hF
  unfold fX7_sideUp at hF
  refine lv_iload_n hx hb dX7_sideUp_0 rfl (lv_at hl 2 rfl) ?_
  injection hF with hz
  subst hz
  exact cm_reti hx hb hr rfl hlk hK hP hD hS dX7_sideUp_1
/-! HeadsByHair$Turning.sideUp(LHeadsByHair$Flight;I)I -/
abbrev rm_X9_sideUp : Room := { frames := 1, cells := 0, slots := 0, locals := 22 }
set_option maxHeartbeats 4000000 in
set_option maxRecDepth 100000 in
theorem c_X9_sideUp (l : Launch) (G : GG) (ct : Nat) (hct : ct = 4 ∨ ct = 9 ∨ ct = 10) (a_p1 h a_steps : Nat) (x_p1_hand x_p1_edge x_p1_bend x_p1_rise x_p1_last x_p1_tick x_p1_angle x_p1_lean x_kind x_number x_v x_caught : Int32) (l2 : Int32) (z : Int32) (hF : fX9_sideUp ct x_p1_angle l2 = some (z)) : CMi l yX9_sideUp wsX9_sideUp rm_X9_sideUp G [o2 a_p1 x_p1_hand x_p1_edge x_p1_bend x_p1_rise x_p1_last x_p1_tick x_p1_angle x_p1_lean, oT ct h x_kind x_number x_v x_caught a_steps] [o2 a_p1 x_p1_hand x_p1_edge x_p1_bend x_p1_rise x_p1_last x_p1_tick x_p1_angle x_p1_lean, oT ct h x_kind x_number x_v x_caught a_steps] [.ref h, .ref a_p1, .int l2] z := by
  refine cm_start (cc := cX9_sideUp) (maxL := 3) (ret := (some .int)) (Qc := fun A => QI G [o2 a_p1 x_p1_hand x_p1_edge x_p1_bend x_p1_rise x_p1_last x_p1_tick x_p1_angle x_p1_lean, oT ct h x_kind x_number x_v x_caught a_steps] z A) (by decide +kernel) rfl (Nat.le_of_ble_eq_true rfl) ?_
  intro p e s m args below meth c A hx hb hr hlk hml hown hnm hts hA H locs hP hK hD hE hS ls hl
  have hown : s.vm.findClass RX9 = some m.cls := hown
  have hl : lv_has ls 3 [(0, .ref h), (1, .ref a_p1), (2, .int l2)] := hl
  have hin2 : ∀ w ∈ wsX20, w ∈ wsX9_sideUp := by decide +kernel
  have lk_9 := va_Nw.use (A := args) rfl (hE.nw (.fieldLinkNest "HeadsByHair$Turning" 9 "HeadsByHair$Flight" "angle" "I" "HeadsByHair") (by decide +kernel))
  revert hF
  intro hF
  unfold fX9_sideUp at hF
  refine lv_aload_n hx hb dX9_sideUp_0 rfl (lv_at hl 1 rfl) ?_
  refine va_getN (D := G.1) (ci := 2) (v := .int x_p1_angle) (C := RX2) (T := TX2) (N := 8) hx hb hts hin2 hown hK hP 0 rfl rfl 6 (by decide) lk_9 (fun _ h9 => h9) rfl dX9_sideUp_1 ?_
  refine lv_bipush (v := 50) hx hb dX9_sideUp_4 (by decide) ?_
  refine lv_iload_n hx hb dX9_sideUp_6 rfl (lv_at hl 2 rfl) ?_
  obtain ⟨r1, hc2, hF⟩ := bd_some hF
  have hPc := hP.sub (ws' := []) [] rfl
  have hDc := hD.sub (ws' := []) [] (by decide) rfl
  have hFc := va_free (wc := []) hD hS hA [] rfl
  have hM := c_X7_sideByAngle l G x_p1_angle (50 : Int32) l2 r1 hc2 H.size
  refine cl_i (w1 := []) (ws' := [o2 a_p1 x_p1_hand x_p1_edge x_p1_bend x_p1_rise x_p1_last x_p1_tick x_p1_angle x_p1_lean, oT ct h x_kind x_number x_v x_caught a_steps]) hP hD hS hFc [] rfl rfl rfl (sq_runS (n := 3) (owner := RX7) (x := ⟨RX9, "sideByAngle", "(III)I"⟩) (bytes := cX7_sideByAngle) (maxL := 3) (ret := (some .int)) (As := [.int x_p1_angle, .int 50, .int l2]) (rest := []) ⟨hx, hb, hml, hown, hts⟩ hM rfl rfl rfl ⟨Nat.le_of_ble_eq_true rfl, Nat.le_of_ble_eq_true rfl⟩ (ev_ws hE ev_X7_sideByAngle (by decide +kernel)) (by decide +kernel) (va_Nw.use rfl (hE.nw (.code yX7_sideByAngle cX7_sideByAngle 3 (some .int)) (ev_X7_sideByAngle _ (by decide +kernel)))) (va_Nw.use rfl (hE.nw (.methodLink RX9 15 ⟨RX9, "sideByAngle", "(III)I"⟩) (nw_upin _ (by decide +kernel)))) (va_Nw.use rfl (hE.nw (.sameMethod RX9 RX7 "sideByAngle" "(III)I") (nw_upin _ (by decide +kernel)))) (va_Nw.use rfl (hE.nw (.static yX7_sideByAngle) (nw_upin _ (by decide +kernel)))) (va_Nw.use rfl (hE.nw (.initialized RX7) (nw_upin _ (by decide +kernel)))) (by decide +kernel) (cp_S hK hE hS hPc hDc hFc) rfl rfl hl.1 rfl (lv_room (Nat.le_of_ble_eq_true rfl)) dX9_sideUp_7 ⟨Nat.zero_le _, Nat.zero_le _⟩) (fun H locs hP hD hS => ?_)
  injection hF with hz
  subst hz
  exact cm_reti hx hb hr rfl hlk hK hP hD hS dX9_sideUp_10
/-! HeadsByHair$Wobbling.sideUp(LHeadsByHair$Flight;I)I -/
abbrev rm_X10_sideUp : Room := { frames := 1, cells := 0, slots := 0, locals := 22 }
set_option maxHeartbeats 4000000 in
set_option maxRecDepth 100000 in
theorem c_X10_sideUp (l : Launch) (G : GG) (ct : Nat) (hct : ct = 4 ∨ ct = 10) (a_p1 h a_steps : Nat) (x_p1_hand x_p1_edge x_p1_bend x_p1_rise x_p1_last x_p1_tick x_p1_angle x_p1_lean x_kind x_number x_v x_caught : Int32) (l2 : Int32) (z : Int32) (hF : fX10_sideUp ct x_p1_angle x_p1_lean l2 = some (z)) : CMi l yX10_sideUp wsX10_sideUp rm_X10_sideUp G [o2 a_p1 x_p1_hand x_p1_edge x_p1_bend x_p1_rise x_p1_last x_p1_tick x_p1_angle x_p1_lean, oT ct h x_kind x_number x_v x_caught a_steps] [o2 a_p1 x_p1_hand x_p1_edge x_p1_bend x_p1_rise x_p1_last x_p1_tick x_p1_angle x_p1_lean, oT ct h x_kind x_number x_v x_caught a_steps] [.ref h, .ref a_p1, .int l2] z := by
  refine cm_start (cc := cX10_sideUp) (maxL := 3) (ret := (some .int)) (Qc := fun A => QI G [o2 a_p1 x_p1_hand x_p1_edge x_p1_bend x_p1_rise x_p1_last x_p1_tick x_p1_angle x_p1_lean, oT ct h x_kind x_number x_v x_caught a_steps] z A) (by decide +kernel) rfl (Nat.le_of_ble_eq_true rfl) ?_
  intro p e s m args below meth c A hx hb hr hlk hml hown hnm hts hA H locs hP hK hD hE hS ls hl
  have hown : s.vm.findClass RX10 = some m.cls := hown
  have hl : lv_has ls 3 [(0, .ref h), (1, .ref a_p1), (2, .int l2)] := hl
  have hin2 : ∀ w ∈ wsX20, w ∈ wsX10_sideUp := by decide +kernel
  have lk_9 := va_Nw.use (A := args) rfl (hE.nw (.fieldLinkNest "HeadsByHair$Wobbling" 9 "HeadsByHair$Flight" "angle" "I" "HeadsByHair") (by decide +kernel))
  have lk_15 := va_Nw.use (A := args) rfl (hE.nw (.fieldLinkNest "HeadsByHair$Wobbling" 15 "HeadsByHair$Flight" "lean" "I" "HeadsByHair") (by decide +kernel))
  revert hF
  intro hF
  unfold fX10_sideUp at hF
  refine lv_aload_n hx hb dX10_sideUp_0 rfl (lv_at hl 1 rfl) ?_
  refine va_getN (D := G.1) (ci := 2) (v := .int x_p1_angle) (C := RX2) (T := TX2) (N := 8) hx hb hts hin2 hown hK hP 0 rfl rfl 6 (by decide) lk_9 (fun _ h9 => h9) rfl dX10_sideUp_1 ?_
  refine lv_bipush (v := 50) hx hb dX10_sideUp_4 (by decide) ?_
  refine lv_aload_n hx hb dX10_sideUp_6 rfl (lv_at hl 1 rfl) ?_
  refine va_getN (D := G.1) (ci := 2) (v := .int x_p1_lean) (C := RX2) (T := TX2) (N := 8) hx hb hts hin2 hown hK hP 0 rfl rfl 7 (by decide) lk_15 (fun _ h9 => h9) rfl dX10_sideUp_7 ?_
  refine lv_iadd hx hb dX10_sideUp_10 ?_
  refine lv_iload_n hx hb dX10_sideUp_11 rfl (lv_at hl 2 rfl) ?_
  obtain ⟨r1, hc2, hF⟩ := bd_some hF
  have hPc := hP.sub (ws' := []) [] rfl
  have hDc := hD.sub (ws' := []) [] (by decide) rfl
  have hFc := va_free (wc := []) hD hS hA [] rfl
  have hM := c_X7_sideByAngle l G x_p1_angle (50 + x_p1_lean) l2 r1 hc2 H.size
  refine cl_i (w1 := []) (ws' := [o2 a_p1 x_p1_hand x_p1_edge x_p1_bend x_p1_rise x_p1_last x_p1_tick x_p1_angle x_p1_lean, oT ct h x_kind x_number x_v x_caught a_steps]) hP hD hS hFc [] rfl rfl rfl (sq_runS (n := 3) (owner := RX7) (x := ⟨RX10, "sideByAngle", "(III)I"⟩) (bytes := cX7_sideByAngle) (maxL := 3) (ret := (some .int)) (As := [.int x_p1_angle, .int (50 + x_p1_lean), .int l2]) (rest := []) ⟨hx, hb, hml, hown, hts⟩ hM rfl rfl rfl ⟨Nat.le_of_ble_eq_true rfl, Nat.le_of_ble_eq_true rfl⟩ (ev_ws hE ev_X7_sideByAngle (by decide +kernel)) (by decide +kernel) (va_Nw.use rfl (hE.nw (.code yX7_sideByAngle cX7_sideByAngle 3 (some .int)) (ev_X7_sideByAngle _ (by decide +kernel)))) (va_Nw.use rfl (hE.nw (.methodLink RX10 18 ⟨RX10, "sideByAngle", "(III)I"⟩) (nw_upin _ (by decide +kernel)))) (va_Nw.use rfl (hE.nw (.sameMethod RX10 RX7 "sideByAngle" "(III)I") (nw_upin _ (by decide +kernel)))) (va_Nw.use rfl (hE.nw (.static yX7_sideByAngle) (nw_upin _ (by decide +kernel)))) (va_Nw.use rfl (hE.nw (.initialized RX7) (nw_upin _ (by decide +kernel)))) (by decide +kernel) (cp_S hK hE hS hPc hDc hFc) rfl rfl hl.1 rfl (lv_room (Nat.le_of_ble_eq_true rfl)) dX10_sideUp_12 ⟨Nat.zero_le _, Nat.zero_le _⟩) (fun H locs hP hD hS => ?_)
  injection hF with hz
  subst hz
  exact cm_reti hx hb hr rfl hlk hK hP hD hS dX10_sideUp_15
/-! HeadsByHair$Seeming.sideUp(LHeadsByHair$Flight;I)I -/
abbrev rm_X4_sideUp : Room := { frames := 2, cells := 0, slots := 0, locals := 44 }
set_option maxHeartbeats 4000000 in
set_option maxRecDepth 100000 in
theorem c_X4_sideUp (l : Launch) (G : GG) (a_p1 h a_steps : Nat) (x_p1_hand x_p1_edge x_p1_bend x_p1_rise x_p1_last x_p1_tick x_p1_angle x_p1_lean x_kind x_number x_v x_caught : Int32) (l2 : Int32) (z : Int32) (hF : fX4_sideUp x_p1_angle x_p1_lean x_v l2 = some (z)) : CMi l yX4_sideUp wsX4_sideUp rm_X4_sideUp G [o2 a_p1 x_p1_hand x_p1_edge x_p1_bend x_p1_rise x_p1_last x_p1_tick x_p1_angle x_p1_lean, oT 4 h x_kind x_number x_v x_caught a_steps] [o2 a_p1 x_p1_hand x_p1_edge x_p1_bend x_p1_rise x_p1_last x_p1_tick x_p1_angle x_p1_lean, oT 4 h x_kind x_number x_v x_caught a_steps] [.ref h, .ref a_p1, .int l2] z := by
  refine cm_start (cc := cX4_sideUp) (maxL := 3) (ret := (some .int)) (Qc := fun A => QI G [o2 a_p1 x_p1_hand x_p1_edge x_p1_bend x_p1_rise x_p1_last x_p1_tick x_p1_angle x_p1_lean, oT 4 h x_kind x_number x_v x_caught a_steps] z A) (by decide +kernel) rfl (Nat.le_of_ble_eq_true rfl) ?_
  intro p e s m args below meth c A hx hb hr hlk hml hown hnm hts hA H locs hP hK hD hE hS ls hl
  have hown : s.vm.findClass RX4 = some m.cls := hown
  have hl : lv_has ls 3 [(0, .ref h), (1, .ref a_p1), (2, .int l2)] := hl
  have hin2 : ∀ w ∈ wsX20, w ∈ wsX4_sideUp := by decide +kernel
  have hin4 : ∀ w ∈ wsX40, w ∈ wsX4_sideUp := by decide +kernel
  have lk_7 := va_Nw.use (A := args) rfl (hE.nw (.fieldLinkNest "HeadsByHair$Seeming" 7 "HeadsByHair$Flight" "lean" "I" "HeadsByHair") (by decide +kernel))
  have lk_13 := hts (.fieldLink RX4 13 "HeadsByHair$Seeming" "v" "I") (by decide +kernel)
  revert hF
  intro hF
  unfold fX4_sideUp at hF
  refine lv_aload_n hx hb dX4_sideUp_0 rfl (lv_at hl 1 rfl) ?_
  refine va_getN (D := G.1) (ci := 2) (v := .int x_p1_lean) (C := RX2) (T := TX2) (N := 8) hx hb hts hin2 hown hK hP 0 rfl rfl 7 (by decide) lk_7 (fun _ h9 => h9) rfl dX4_sideUp_1 ?_
  refine lv_aload_n hx hb dX4_sideUp_4 rfl (lv_at hl 0 rfl) ?_
  refine va_get (D := G.1) (ci := 4) (v := .int x_v) (C := RX4) (T := TX4) (N := 5) hx hb hts hin4 hown hK hP 1 rfl rfl 2 (by decide) lk_13 (fun x9 h9 => u_same (hts (.sameField "HeadsByHair$Seeming" "HeadsByHair$Throw" "v" "I") (by decide +kernel)) x9 h9) rfl dX4_sideUp_5 ?_
  refine lv_icmp_lt (tgt := 15) hx hb dX4_sideUp_8 (by decide) (fun c1 => ?_) (fun c1 => ?_)
  · rw [if_pos c1] at hF
    refine lv_aload_n hx hb dX4_sideUp_15 rfl (lv_at hl 0 rfl) ?_
    refine lv_aload_n hx hb dX4_sideUp_16 rfl (lv_at hl 1 rfl) ?_
    refine lv_iload_n hx hb dX4_sideUp_17 rfl (lv_at hl 2 rfl) ?_
    obtain ⟨r2, hc3, hF⟩ := bd_some hF
    have hPc := hP.sub (ws' := [o2 a_p1 x_p1_hand x_p1_edge x_p1_bend x_p1_rise x_p1_last x_p1_tick x_p1_angle x_p1_lean, oT 4 h x_kind x_number x_v x_caught a_steps]) [0, 1] rfl
    have hDc := hD.sub (ws' := [o2 a_p1 x_p1_hand x_p1_edge x_p1_bend x_p1_rise x_p1_last x_p1_tick x_p1_angle x_p1_lean, oT 4 h x_kind x_number x_v x_caught a_steps]) [0, 1] (by decide) rfl
    have hFc := va_free (wc := [o2 a_p1 x_p1_hand x_p1_edge x_p1_bend x_p1_rise x_p1_last x_p1_tick x_p1_angle x_p1_lean, oT 4 h x_kind x_number x_v x_caught a_steps]) hD hS hA [0, 1] rfl
    have hrun : va_Run p l e (rm_X4_sideUp) s m args below meth c H locs 0 0 0 0 (F0 m 18 ls [.int l2, .ref a_p1, .ref h]) [] (QI G [o2 a_p1 x_p1_hand x_p1_edge x_p1_bend x_p1_rise x_p1_last x_p1_tick x_p1_angle x_p1_lean, oT 4 h x_kind x_number x_v x_caught a_steps] r2 (va_A [o2 a_p1 x_p1_hand x_p1_edge x_p1_bend x_p1_rise x_p1_last x_p1_tick x_p1_angle x_p1_lean, oT 4 h x_kind x_number x_v x_caught a_steps] H.size) (Value.ref h :: [.ref a_p1, .int l2]).toArray) (va_A [o2 a_p1 x_p1_hand x_p1_edge x_p1_bend x_p1_rise x_p1_last x_p1_tick x_p1_angle x_p1_lean, oT 4 h x_kind x_number x_v x_caught a_steps] H.size) := by
      have hM := c_X10_sideUp l G 4 (by decide) a_p1 h a_steps x_p1_hand x_p1_edge x_p1_bend x_p1_rise x_p1_last x_p1_tick x_p1_angle x_p1_lean x_kind x_number x_v x_caught l2 r2 hc3 H.size
      exact va_runSU (As := [.ref a_p1, .int l2]) (rest := []) (hK.1 4 (RX4, TX4, 5) rfl).2 ⟨hx, hb, hml, hown, hts⟩ hM (va_cwSU 2 hts gX4_sideUp_X10_sideUp_s18 rfl rfl rfl (by decide +kernel) ⟨Nat.le_of_ble_eq_true rfl, Nat.le_of_ble_eq_true rfl⟩) (cp_V hK hE hS hPc hDc hFc (va_recv hK hPc (ci := 4) (q0 := 1) rfl rfl)) rfl rfl hl.1 rfl (lv_room (Nat.le_of_ble_eq_true rfl)) dX4_sideUp_18 ⟨Nat.zero_le _, Nat.zero_le _⟩
    refine cl_i (w1 := [o2 a_p1 x_p1_hand x_p1_edge x_p1_bend x_p1_rise x_p1_last x_p1_tick x_p1_angle x_p1_lean, oT 4 h x_kind x_number x_v x_caught a_steps]) (ws' := [o2 a_p1 x_p1_hand x_p1_edge x_p1_bend x_p1_rise x_p1_last x_p1_tick x_p1_angle x_p1_lean, oT 4 h x_kind x_number x_v x_caught a_steps]) hP hD hS hFc [0, 1] rfl rfl rfl hrun (fun H locs hP hD hS => ?_)
    injection hF with hz
    subst hz
    exact cm_reti hx hb hr rfl hlk hK hP hD hS dX4_sideUp_21
  rw [if_neg c1] at hF
  refine lv_iload_n hx hb dX4_sideUp_11 rfl (lv_at hl 2 rfl) ?_
  refine lv_goto (tgt := 21) hx hb dX4_sideUp_12 (by decide) ?_
  injection hF with hz
  subst hz
  exact cm_reti hx hb hr rfl hlk hK hP hD hS dX4_sideUp_21
/-! HeadsByHair$Caught.sideUp(LHeadsByHair$Flight;I)I -/
abbrev rm_X0_sideUp : Room := { frames := 1, cells := 0, slots := 0, locals := 22 }
set_option maxHeartbeats 4000000 in
set_option maxRecDepth 100000 in
theorem c_X0_sideUp (l : Launch) (G : GG) (ct : Nat) (hct : ct = 0 ∨ ct = 1) (a_p1 h a_steps : Nat) (x_p1_hand x_p1_edge x_p1_bend x_p1_rise x_p1_last x_p1_tick x_p1_angle x_p1_lean x_kind x_number x_v x_caught : Int32) (l2 : Int32) (z : Int32) (hF : fX0_sideUp ct x_p1_last x_p1_tick x_p1_angle x_v l2 = some (z)) : CMi l yX0_sideUp wsX0_sideUp rm_X0_sideUp G [o2 a_p1 x_p1_hand x_p1_edge x_p1_bend x_p1_rise x_p1_last x_p1_tick x_p1_angle x_p1_lean, oT ct h x_kind x_number x_v x_caught a_steps] [o2 a_p1 x_p1_hand x_p1_edge x_p1_bend x_p1_rise x_p1_last x_p1_tick x_p1_angle x_p1_lean, oT ct h x_kind x_number x_v x_caught a_steps] [.ref h, .ref a_p1, .int l2] z := by
  refine cm_start (cc := cX0_sideUp) (maxL := 4) (ret := (some .int)) (Qc := fun A => QI G [o2 a_p1 x_p1_hand x_p1_edge x_p1_bend x_p1_rise x_p1_last x_p1_tick x_p1_angle x_p1_lean, oT ct h x_kind x_number x_v x_caught a_steps] z A) (by decide +kernel) rfl (Nat.le_of_ble_eq_true rfl) ?_
  intro p e s m args below meth c A hx hb hr hlk hml hown hnm hts hA H locs hP hK hD hE hS ls hl
  have hown : s.vm.findClass RX0 = some m.cls := hown
  have hl : lv_has ls 4 [(0, .ref h), (1, .ref a_p1), (2, .int l2)] := hl
  have hin2 : ∀ w ∈ wsX20, w ∈ wsX0_sideUp := by decide +kernel
  have hT_ct : isT ct := by unfold isT; omega
  have hin_ct : ∀ w ∈ u_ws (tC ct) TX7 5, w ∈ wsX0_sideUp := by rcases hct with rfl | rfl <;> decide +kernel
  have lk_9 := va_Nw.use (A := args) rfl (hE.nw (.fieldLinkNest "HeadsByHair$Caught" 9 "HeadsByHair$Flight" "angle" "I" "HeadsByHair") (by decide +kernel))
  have lk_25 := hts (.fieldLink RX0 25 "HeadsByHair$Caught" "v" "I") (by decide +kernel)
  revert hF
  intro hF
  unfold fX0_sideUp at hF
  refine lv_aload_n hx hb dX0_sideUp_0 rfl (lv_at hl 1 rfl) ?_
  refine va_getN (D := G.1) (ci := 2) (v := .int x_p1_angle) (C := RX2) (T := TX2) (N := 8) hx hb hts hin2 hown hK hP 0 rfl rfl 6 (by decide) lk_9 (fun _ h9 => h9) rfl dX0_sideUp_1 ?_
  refine lv_bipush (v := 50) hx hb dX0_sideUp_4 (by decide) ?_
  refine lv_iload_n hx hb dX0_sideUp_6 rfl (lv_at hl 2 rfl) ?_
  obtain ⟨r1, hc2, hF⟩ := bd_some hF
  have hPc := hP.sub (ws' := []) [] rfl
  have hDc := hD.sub (ws' := []) [] (by decide) rfl
  have hFc := va_free (wc := []) hD hS hA [] rfl
  have hM := c_X7_sideByAngle l G x_p1_angle (50 : Int32) l2 r1 hc2 H.size
  refine cl_i (w1 := []) (ws' := [o2 a_p1 x_p1_hand x_p1_edge x_p1_bend x_p1_rise x_p1_last x_p1_tick x_p1_angle x_p1_lean, oT ct h x_kind x_number x_v x_caught a_steps]) hP hD hS hFc [] rfl rfl rfl (sq_runS (n := 3) (owner := RX7) (x := ⟨RX0, "sideByAngle", "(III)I"⟩) (bytes := cX7_sideByAngle) (maxL := 3) (ret := (some .int)) (As := [.int x_p1_angle, .int 50, .int l2]) (rest := []) ⟨hx, hb, hml, hown, hts⟩ hM rfl rfl rfl ⟨Nat.le_of_ble_eq_true rfl, Nat.le_of_ble_eq_true rfl⟩ (ev_ws hE ev_X7_sideByAngle (by decide +kernel)) (by decide +kernel) (va_Nw.use rfl (hE.nw (.code yX7_sideByAngle cX7_sideByAngle 3 (some .int)) (ev_X7_sideByAngle _ (by decide +kernel)))) (va_Nw.use rfl (hE.nw (.methodLink RX0 15 ⟨RX0, "sideByAngle", "(III)I"⟩) (nw_upin _ (by decide +kernel)))) (va_Nw.use rfl (hE.nw (.sameMethod RX0 RX7 "sideByAngle" "(III)I") (nw_upin _ (by decide +kernel)))) (va_Nw.use rfl (hE.nw (.static yX7_sideByAngle) (nw_upin _ (by decide +kernel)))) (va_Nw.use rfl (hE.nw (.initialized RX7) (nw_upin _ (by decide +kernel)))) (by decide +kernel) (cp_S hK hE hS hPc hDc hFc) rfl rfl hl.1 rfl (lv_room (Nat.le_of_ble_eq_true rfl)) dX0_sideUp_7 ⟨Nat.zero_le _, Nat.zero_le _⟩) (fun H locs hP hD hS => ?_)
  refine lv_istore_n (lv' := [(3, .int r1), (0, .ref h), (1, .ref a_p1), (2, .int l2)]) hx hb dX0_sideUp_10 rfl hl (by decide) rfl (fun ls hl => ?_)
  refine lv_aload_n hx hb dX0_sideUp_11 rfl (lv_at hl 2 rfl) ?_
  obtain ⟨r3, hc4, hF⟩ := bd_some hF
  have hPc := hP.sub (ws' := [o2 a_p1 x_p1_hand x_p1_edge x_p1_bend x_p1_rise x_p1_last x_p1_tick x_p1_angle x_p1_lean]) [0] rfl
  have hDc := hD.sub (ws' := [o2 a_p1 x_p1_hand x_p1_edge x_p1_bend x_p1_rise x_p1_last x_p1_tick x_p1_angle x_p1_lean]) [0] (by decide) rfl
  have hFc := va_free (wc := [o2 a_p1 x_p1_hand x_p1_edge x_p1_bend x_p1_rise x_p1_last x_p1_tick x_p1_angle x_p1_lean]) hD hS hA [0] rfl
  have hM := c_X2_isAtEnd l G a_p1 x_p1_hand x_p1_edge x_p1_bend x_p1_rise x_p1_last x_p1_tick x_p1_angle x_p1_lean r3 hc4 H.size
  refine cl_i (w1 := [o2 a_p1 x_p1_hand x_p1_edge x_p1_bend x_p1_rise x_p1_last x_p1_tick x_p1_angle x_p1_lean]) (ws' := [o2 a_p1 x_p1_hand x_p1_edge x_p1_bend x_p1_rise x_p1_last x_p1_tick x_p1_angle x_p1_lean, oT ct h x_kind x_number x_v x_caught a_steps]) hP hD hS hFc [0] rfl rfl rfl (va_runVN (As := []) (rest := []) ⟨hx, hb, hml, hown, hts⟩ hM ⟨va_cnB 0 hts gX0_sideUp_X2_isAtEnd_n21 rfl rfl rfl (hE.nw (.methodLinkNest RX0 21 yX2_isAtEnd "HeadsByHair") (by decide +kernel)) (hts (.initialized RX2) (by decide +kernel)) (by decide +kernel) ⟨Nat.le_of_ble_eq_true rfl, Nat.le_of_ble_eq_true rfl⟩, hts (.instanceMethod yX2_isAtEnd) (by decide +kernel), hts (.selects RX2 yX2_isAtEnd yX2_isAtEnd) (by decide +kernel)⟩ (cp_V hK hE hS hPc hDc hFc (va_recv hK hPc (ci := 2) (q0 := 0) rfl rfl)) rfl rfl hl.1 rfl (lv_room (Nat.le_of_ble_eq_true rfl)) dX0_sideUp_12 ⟨Nat.zero_le _, Nat.zero_le _⟩) (fun H locs hP hD hS => ?_)
  refine lv_if_eq (tgt := 34) hx hb dX0_sideUp_15 (by decide) (fun c5 => ?_) (fun c5 => ?_)
  · rw [if_pos c5] at hF
    refine lv_iload_n hx hb dX0_sideUp_34 rfl (lv_at hl 0 rfl) ?_
    injection hF with hz
    subst hz
    exact cm_reti hx hb hr rfl hlk hK hP hD hS dX0_sideUp_35
  rw [if_neg c5] at hF
  refine lv_aload_n hx hb dX0_sideUp_18 rfl (lv_at hl 1 rfl) ?_
  refine va_get (D := G.1) (ci := ct) (v := .int x_v) (C := tC ct) (T := TX7) (N := 5) hx hb hts hin_ct hown hK hP 1 rfl (tC_at hT_ct) 2 (by decide) lk_25 (fun x9 h9 => u_same (hts (.sameField "HeadsByHair$Caught" "HeadsByHair$Throw" "v" "I") (by decide +kernel)) x9 h9) rfl dX0_sideUp_19 ?_
  refine lv_iconst (v := 2) hx hb dX0_sideUp_22 (by decide) ?_
  refine lv_irem hx hb dX0_sideUp_23 (by decide) ?_
  refine W.eq (g2 := F0 m 24 ls [.int (x_v - x_v / 2 * 2)]) rfl ?_
  refine lv_iconst (v := 1) hx hb dX0_sideUp_24 (by decide) ?_
  refine lv_icmp_ne (tgt := 34) hx hb dX0_sideUp_25 (by decide) (fun c6 => ?_) (fun c6 => ?_)
  · rw [if_neg c6] at hF
    refine lv_iload_n hx hb dX0_sideUp_34 rfl (lv_at hl 0 rfl) ?_
    injection hF with hz
    subst hz
    exact cm_reti hx hb hr rfl hlk hK hP hD hS dX0_sideUp_35
  rw [if_pos c6] at hF
  refine lv_iconst (v := 1) hx hb dX0_sideUp_28 (by decide) ?_
  refine lv_iload_n hx hb dX0_sideUp_29 rfl (lv_at hl 0 rfl) ?_
  refine lv_isub hx hb dX0_sideUp_30 ?_
  refine lv_goto (tgt := 35) hx hb dX0_sideUp_31 (by decide) ?_
  injection hF with hz
  subst hz
  exact cm_reti hx hb hr rfl hlk hK hP hD hS dX0_sideUp_35
/-! HeadsByHair$Fallen.sideUp(LHeadsByHair$Flight;I)I -/
abbrev rm_X1_sideUp : Room := { frames := 2, cells := 0, slots := 0, locals := 45 }
set_option maxHeartbeats 4000000 in
set_option maxRecDepth 100000 in
theorem c_X1_sideUp (l : Launch) (G : GG) (a_p1 h a_steps : Nat) (x_p1_hand x_p1_edge x_p1_bend x_p1_rise x_p1_last x_p1_tick x_p1_angle x_p1_lean x_kind x_number x_v x_caught : Int32) (l2 : Int32) (z : Int32) (hF : fX1_sideUp x_p1_bend x_p1_last x_p1_tick x_p1_angle x_v l2 = some (z)) : CMi l yX1_sideUp wsX1_sideUp rm_X1_sideUp G [o2 a_p1 x_p1_hand x_p1_edge x_p1_bend x_p1_rise x_p1_last x_p1_tick x_p1_angle x_p1_lean, oT 1 h x_kind x_number x_v x_caught a_steps] [o2 a_p1 x_p1_hand x_p1_edge x_p1_bend x_p1_rise x_p1_last x_p1_tick x_p1_angle x_p1_lean, oT 1 h x_kind x_number x_v x_caught a_steps] [.ref h, .ref a_p1, .int l2] z := by
  refine cm_start (cc := cX1_sideUp) (maxL := 4) (ret := (some .int)) (Qc := fun A => QI G [o2 a_p1 x_p1_hand x_p1_edge x_p1_bend x_p1_rise x_p1_last x_p1_tick x_p1_angle x_p1_lean, oT 1 h x_kind x_number x_v x_caught a_steps] z A) (by decide +kernel) rfl (Nat.le_of_ble_eq_true rfl) ?_
  intro p e s m args below meth c A hx hb hr hlk hml hown hnm hts hA H locs hP hK hD hE hS ls hl
  have hown : s.vm.findClass RX1 = some m.cls := hown
  have hl : lv_has ls 4 [(0, .ref h), (1, .ref a_p1), (2, .int l2)] := hl
  have hin1 : ∀ w ∈ wsX10, w ∈ wsX1_sideUp := by decide +kernel
  have hin2 : ∀ w ∈ wsX20, w ∈ wsX1_sideUp := by decide +kernel
  have lk_17 := hts (.fieldLink RX1 17 "HeadsByHair$Fallen" "v" "I") (by decide +kernel)
  have lk_23 := va_Nw.use (A := args) rfl (hE.nw (.fieldLinkNest "HeadsByHair$Fallen" 23 "HeadsByHair$Flight" "bend" "I" "HeadsByHair") (by decide +kernel))
  revert hF
  intro hF
  unfold fX1_sideUp at hF
  refine lv_aload_n hx hb dX1_sideUp_0 rfl (lv_at hl 0 rfl) ?_
  refine lv_aload_n hx hb dX1_sideUp_1 rfl (lv_at hl 1 rfl) ?_
  refine lv_iload_n hx hb dX1_sideUp_2 rfl (lv_at hl 2 rfl) ?_
  obtain ⟨r1, hc2, hF⟩ := bd_some hF
  have hPc := hP.sub (ws' := [o2 a_p1 x_p1_hand x_p1_edge x_p1_bend x_p1_rise x_p1_last x_p1_tick x_p1_angle x_p1_lean, oT 1 h x_kind x_number x_v x_caught a_steps]) [0, 1] rfl
  have hDc := hD.sub (ws' := [o2 a_p1 x_p1_hand x_p1_edge x_p1_bend x_p1_rise x_p1_last x_p1_tick x_p1_angle x_p1_lean, oT 1 h x_kind x_number x_v x_caught a_steps]) [0, 1] (by decide) rfl
  have hFc := va_free (wc := [o2 a_p1 x_p1_hand x_p1_edge x_p1_bend x_p1_rise x_p1_last x_p1_tick x_p1_angle x_p1_lean, oT 1 h x_kind x_number x_v x_caught a_steps]) hD hS hA [0, 1] rfl
  have hrun : va_Run p l e (rm_X1_sideUp) s m args below meth c H locs 0 0 0 0 (F0 m 3 ls [.int l2, .ref a_p1, .ref h]) [] (QI G [o2 a_p1 x_p1_hand x_p1_edge x_p1_bend x_p1_rise x_p1_last x_p1_tick x_p1_angle x_p1_lean, oT 1 h x_kind x_number x_v x_caught a_steps] r1 (va_A [o2 a_p1 x_p1_hand x_p1_edge x_p1_bend x_p1_rise x_p1_last x_p1_tick x_p1_angle x_p1_lean, oT 1 h x_kind x_number x_v x_caught a_steps] H.size) (Value.ref h :: [.ref a_p1, .int l2]).toArray) (va_A [o2 a_p1 x_p1_hand x_p1_edge x_p1_bend x_p1_rise x_p1_last x_p1_tick x_p1_angle x_p1_lean, oT 1 h x_kind x_number x_v x_caught a_steps] H.size) := by
    have hM := c_X0_sideUp l G 1 (by decide) a_p1 h a_steps x_p1_hand x_p1_edge x_p1_bend x_p1_rise x_p1_last x_p1_tick x_p1_angle x_p1_lean x_kind x_number x_v x_caught l2 r1 hc2 H.size
    exact va_runSU (As := [.ref a_p1, .int l2]) (rest := []) (hK.1 1 (RX1, TX1, 5) rfl).2 ⟨hx, hb, hml, hown, hts⟩ hM (va_cwSU 2 hts gX1_sideUp_X0_sideUp_s7 rfl rfl rfl (by decide +kernel) ⟨Nat.le_of_ble_eq_true rfl, Nat.le_of_ble_eq_true rfl⟩) (cp_V hK hE hS hPc hDc hFc (va_recv hK hPc (ci := 1) (q0 := 1) rfl rfl)) rfl rfl hl.1 rfl (lv_room (Nat.le_of_ble_eq_true rfl)) dX1_sideUp_3 ⟨Nat.zero_le _, Nat.zero_le _⟩
  refine cl_i (w1 := [o2 a_p1 x_p1_hand x_p1_edge x_p1_bend x_p1_rise x_p1_last x_p1_tick x_p1_angle x_p1_lean, oT 1 h x_kind x_number x_v x_caught a_steps]) (ws' := [o2 a_p1 x_p1_hand x_p1_edge x_p1_bend x_p1_rise x_p1_last x_p1_tick x_p1_angle x_p1_lean, oT 1 h x_kind x_number x_v x_caught a_steps]) hP hD hS hFc [0, 1] rfl rfl rfl hrun (fun H locs hP hD hS => ?_)
  refine lv_istore_n (lv' := [(3, .int r1), (0, .ref h), (1, .ref a_p1), (2, .int l2)]) hx hb dX1_sideUp_6 rfl hl (by decide) rfl (fun ls hl => ?_)
  refine lv_aload_n hx hb dX1_sideUp_7 rfl (lv_at hl 2 rfl) ?_
  obtain ⟨r3, hc4, hF⟩ := bd_some hF
  have hPc := hP.sub (ws' := [o2 a_p1 x_p1_hand x_p1_edge x_p1_bend x_p1_rise x_p1_last x_p1_tick x_p1_angle x_p1_lean]) [0] rfl
  have hDc := hD.sub (ws' := [o2 a_p1 x_p1_hand x_p1_edge x_p1_bend x_p1_rise x_p1_last x_p1_tick x_p1_angle x_p1_lean]) [0] (by decide) rfl
  have hFc := va_free (wc := [o2 a_p1 x_p1_hand x_p1_edge x_p1_bend x_p1_rise x_p1_last x_p1_tick x_p1_angle x_p1_lean]) hD hS hA [0] rfl
  have hM := c_X2_isAtEnd l G a_p1 x_p1_hand x_p1_edge x_p1_bend x_p1_rise x_p1_last x_p1_tick x_p1_angle x_p1_lean r3 hc4 H.size
  refine cl_i (w1 := [o2 a_p1 x_p1_hand x_p1_edge x_p1_bend x_p1_rise x_p1_last x_p1_tick x_p1_angle x_p1_lean]) (ws' := [o2 a_p1 x_p1_hand x_p1_edge x_p1_bend x_p1_rise x_p1_last x_p1_tick x_p1_angle x_p1_lean, oT 1 h x_kind x_number x_v x_caught a_steps]) hP hD hS hFc [0] rfl rfl rfl (va_runVN (As := []) (rest := []) ⟨hx, hb, hml, hown, hts⟩ hM ⟨va_cnB 0 hts gX1_sideUp_X2_isAtEnd_n11 rfl rfl rfl (hE.nw (.methodLinkNest RX1 11 yX2_isAtEnd "HeadsByHair") (by decide +kernel)) (hts (.initialized RX2) (by decide +kernel)) (by decide +kernel) ⟨Nat.le_of_ble_eq_true rfl, Nat.le_of_ble_eq_true rfl⟩, hts (.instanceMethod yX2_isAtEnd) (by decide +kernel), hts (.selects RX2 yX2_isAtEnd yX2_isAtEnd) (by decide +kernel)⟩ (cp_V hK hE hS hPc hDc hFc (va_recv hK hPc (ci := 2) (q0 := 0) rfl rfl)) rfl rfl hl.1 rfl (lv_room (Nat.le_of_ble_eq_true rfl)) dX1_sideUp_8 ⟨Nat.zero_le _, Nat.zero_le _⟩) (fun H locs hP hD hS => ?_)
  refine lv_if_eq (tgt := 21) hx hb dX1_sideUp_11 (by decide) (fun c5 => ?_) (fun c5 => ?_)
  · rw [if_pos c5] at hF
    refine lv_iload_n hx hb dX1_sideUp_21 rfl (lv_at hl 0 rfl) ?_
    injection hF with hz
    subst hz
    exact cm_reti hx hb hr rfl hlk hK hP hD hS dX1_sideUp_22
  rw [if_neg c5] at hF
  refine lv_aload_n hx hb dX1_sideUp_14 rfl (lv_at hl 1 rfl) ?_
  refine va_get (D := G.1) (ci := 1) (v := .int x_v) (C := RX1) (T := TX1) (N := 5) hx hb hts hin1 hown hK hP 1 rfl rfl 2 (by decide) lk_17 (fun x9 h9 => u_same (hts (.sameField "HeadsByHair$Fallen" "HeadsByHair$Throw" "v" "I") (by decide +kernel)) x9 h9) rfl dX1_sideUp_15 ?_
  refine lv_if_ne (tgt := 23) hx hb dX1_sideUp_18 (by decide) (fun c6 => ?_) (fun c6 => ?_)
  · rw [if_neg c6] at hF
    refine lv_aload_n hx hb dX1_sideUp_23 rfl (lv_at hl 2 rfl) ?_
    refine va_getN (D := G.1) (ci := 2) (v := .int x_p1_bend) (C := RX2) (T := TX2) (N := 8) hx hb hts hin2 hown hK hP 0 rfl rfl 2 (by decide) lk_23 (fun _ h9 => h9) rfl dX1_sideUp_24 ?_
    refine W.eq (g2 := F0 m 27 ls [.int x_p1_bend]) rfl ?_
    refine lv_aload_n hx hb dX1_sideUp_27 rfl (lv_at hl 1 rfl) ?_
    refine va_get (D := G.1) (ci := 1) (v := .int x_v) (C := RX1) (T := TX1) (N := 5) hx hb hts hin1 hown hK hP 1 rfl rfl 2 (by decide) lk_17 (fun x9 h9 => u_same (hts (.sameField "HeadsByHair$Fallen" "HeadsByHair$Throw" "v" "I") (by decide +kernel)) x9 h9) rfl dX1_sideUp_28 ?_
    obtain ⟨hz7, hF⟩ := ck_some hF
    refine lv_idiv hx hb dX1_sideUp_31 hz7 ?_
    refine lv_iconst (v := 2) hx hb dX1_sideUp_32 (by decide) ?_
    refine lv_irem hx hb dX1_sideUp_33 (by decide) ?_
    refine lv_iconst (v := 1) hx hb dX1_sideUp_34 (by decide) ?_
    refine lv_icmp_ne (tgt := 44) hx hb dX1_sideUp_35 (by decide) (fun c8 => ?_) (fun c8 => ?_)
    · rw [if_neg c8] at hF
      refine lv_iload_n hx hb dX1_sideUp_44 rfl (lv_at hl 0 rfl) ?_
      injection hF with hz
      subst hz
      exact cm_reti hx hb hr rfl hlk hK hP hD hS dX1_sideUp_45
    rw [if_pos c8] at hF
    refine lv_iconst (v := 1) hx hb dX1_sideUp_38 (by decide) ?_
    refine lv_iload_n hx hb dX1_sideUp_39 rfl (lv_at hl 0 rfl) ?_
    refine lv_isub hx hb dX1_sideUp_40 ?_
    refine lv_goto (tgt := 45) hx hb dX1_sideUp_41 (by decide) ?_
    injection hF with hz
    subst hz
    exact cm_reti hx hb hr rfl hlk hK hP hD hS dX1_sideUp_45
  rw [if_pos c6] at hF
  refine lv_iload_n hx hb dX1_sideUp_21 rfl (lv_at hl 0 rfl) ?_
  injection hF with hz
  subst hz
  exact cm_reti hx hb hr rfl hlk hK hP hD hS dX1_sideUp_22
/-! HeadsByHair$Spun.sideUp(LHeadsByHair$Flight;I)I -/
abbrev rm_X5_sideUp : Room := { frames := 0, cells := 0, slots := 0, locals := 0 }
set_option maxHeartbeats 4000000 in
set_option maxRecDepth 100000 in
theorem c_X5_sideUp (l : Launch) (G : GG) (a_p1 h a_steps : Nat) (x_p1_hand x_p1_edge x_p1_bend x_p1_rise x_p1_last x_p1_tick x_p1_angle x_p1_lean x_kind x_number x_v x_caught : Int32) (l2 : Int32) (z : Int32) (hF : fX5_sideUp x_p1_edge x_v l2 = some (z)) : CMi l yX5_sideUp wsX5_sideUp rm_X5_sideUp G [o2 a_p1 x_p1_hand x_p1_edge x_p1_bend x_p1_rise x_p1_last x_p1_tick x_p1_angle x_p1_lean, oT 5 h x_kind x_number x_v x_caught a_steps] [o2 a_p1 x_p1_hand x_p1_edge x_p1_bend x_p1_rise x_p1_last x_p1_tick x_p1_angle x_p1_lean, oT 5 h x_kind x_number x_v x_caught a_steps] [.ref h, .ref a_p1, .int l2] z := by
  refine cm_start (cc := cX5_sideUp) (maxL := 3) (ret := (some .int)) (Qc := fun A => QI G [o2 a_p1 x_p1_hand x_p1_edge x_p1_bend x_p1_rise x_p1_last x_p1_tick x_p1_angle x_p1_lean, oT 5 h x_kind x_number x_v x_caught a_steps] z A) (by decide +kernel) rfl (Nat.le_of_ble_eq_true rfl) ?_
  intro p e s m args below meth c A hx hb hr hlk hml hown hnm hts hA H locs hP hK hD hE hS ls hl
  have hown : s.vm.findClass RX5 = some m.cls := hown
  have hl : lv_has ls 3 [(0, .ref h), (1, .ref a_p1), (2, .int l2)] := hl
  have hin2 : ∀ w ∈ wsX20, w ∈ wsX5_sideUp := by decide +kernel
  have hin5 : ∀ w ∈ wsX50, w ∈ wsX5_sideUp := by decide +kernel
  have lk_9 := va_Nw.use (A := args) rfl (hE.nw (.fieldLinkNest "HeadsByHair$Spun" 9 "HeadsByHair$Flight" "edge" "I" "HeadsByHair") (by decide +kernel))
  have lk_15 := hts (.fieldLink RX5 15 "HeadsByHair$Spun" "v" "I") (by decide +kernel)
  revert hF
  intro hF
  unfold fX5_sideUp at hF
  refine lv_aload_n hx hb dX5_sideUp_0 rfl (lv_at hl 1 rfl) ?_
  refine va_getN (D := G.1) (ci := 2) (v := .int x_p1_edge) (C := RX2) (T := TX2) (N := 8) hx hb hts hin2 hown hK hP 0 rfl rfl 1 (by decide) lk_9 (fun _ h9 => h9) rfl dX5_sideUp_1 ?_
  refine lv_aload_n hx hb dX5_sideUp_4 rfl (lv_at hl 0 rfl) ?_
  refine va_get (D := G.1) (ci := 5) (v := .int x_v) (C := RX5) (T := TX5) (N := 5) hx hb hts hin5 hown hK hP 1 rfl rfl 2 (by decide) lk_15 (fun x9 h9 => u_same (hts (.sameField "HeadsByHair$Spun" "HeadsByHair$Throw" "v" "I") (by decide +kernel)) x9 h9) rfl dX5_sideUp_5 ?_
  refine lv_icmp_lt (tgt := 15) hx hb dX5_sideUp_8 (by decide) (fun c1 => ?_) (fun c1 => ?_)
  · rw [if_pos c1] at hF
    refine lv_iconst (v := 1) hx hb dX5_sideUp_15 (by decide) ?_
    injection hF with hz
    subst hz
    exact cm_reti hx hb hr rfl hlk hK hP hD hS dX5_sideUp_16
  rw [if_neg c1] at hF
  refine lv_iconst (v := 0) hx hb dX5_sideUp_11 (by decide) ?_
  refine lv_goto (tgt := 16) hx hb dX5_sideUp_12 (by decide) ?_
  injection hF with hz
  subst hz
  exact cm_reti hx hb hr rfl hlk hK hP hD hS dX5_sideUp_16
/-! HeadsByHair$Throw.turns(ILHeadsByHair$Trace;)I -/
abbrev rm_X7_turns : Room := { frames := 1, cells := 0, slots := 0, locals := 21 }
set_option maxHeartbeats 4000000 in
set_option maxRecDepth 100000 in
theorem c_X7_turns (l : Launch) (G : GG) (ct : Nat) (hct : ct = 0 ∨ ct = 1 ∨ ct = 4 ∨ ct = 5 ∨ ct = 7 ∨ ct = 9 ∨ ct = 10) (a_p2 a_p2_body h a_steps : Nat) (x_p2_ran x_kind x_number x_v x_caught : Int32) (f_p2_body : Nat → Int32) (l1 : Int32) (z : Int32) (z_x_p2_ran : Int32) (z_f_p2_body : Nat → Int32) (hF : fX7_turns ct x_p2_ran x_number f_p2_body l1 = some (z, z_x_p2_ran, z_f_p2_body)) : CMi l yX7_turns wsX7_turns rm_X7_turns G [o8 a_p2 a_p2_body x_p2_ran, oT ct h x_kind x_number x_v x_caught a_steps, aI G a_p2_body 20 f_p2_body] [o8 a_p2 a_p2_body z_x_p2_ran, oT ct h x_kind x_number x_v x_caught a_steps, aI G a_p2_body 20 z_f_p2_body] [.ref h, .int l1, .ref a_p2] z := by
  refine cm_start (cc := cX7_turns) (maxL := 3) (ret := (some .int)) (Qc := fun A => QI G [o8 a_p2 a_p2_body z_x_p2_ran, oT ct h x_kind x_number x_v x_caught a_steps, aI G a_p2_body 20 z_f_p2_body] z A) (by decide +kernel) rfl (Nat.le_of_ble_eq_true rfl) ?_
  intro p e s m args below meth c A hx hb hr hlk hml hown hnm hts hA H locs hP hK hD hE hS ls hl
  have hown : s.vm.findClass RX7 = some m.cls := hown
  have hl : lv_has ls 3 [(0, .ref h), (1, .int l1), (2, .ref a_p2)] := hl
  have hT_ct : isT ct := by unfold isT; omega
  have hin_ct : ∀ w ∈ u_ws (tC ct) TX7 5, w ∈ wsX7_turns := by rcases hct with rfl | rfl | rfl | rfl | rfl | rfl | rfl <;> decide +kernel
  have lk_13 := hts (.fieldLink RX7 13 "HeadsByHair$Throw" "number" "I") (by decide +kernel)
  revert hF
  intro hF
  unfold fX7_turns at hF
  refine lv_aload_n hx hb dX7_turns_0 rfl (lv_at hl 2 rfl) ?_
  refine lv_iconst (v := 1) hx hb dX7_turns_1 (by decide) ?_
  obtain ⟨r1, hc2, hF⟩ := bd_some hF
  have hPc := hP.sub (ws' := [o8 a_p2 a_p2_body x_p2_ran, aI G a_p2_body 20 f_p2_body]) [0, 2] rfl
  have hDc := hD.sub (ws' := [o8 a_p2 a_p2_body x_p2_ran, aI G a_p2_body 20 f_p2_body]) [0, 2] (by decide) rfl
  have hFc := va_free (wc := [o8 a_p2 a_p2_body x_p2_ran, aI G a_p2_body 20 f_p2_body]) hD hS hA [0, 2] rfl
  have hM := c_X8_began l G a_p2 a_p2_body x_p2_ran f_p2_body (1 : Int32) r1.1 r1.2 hc2 H.size
  refine cl_v (w1 := [o8 a_p2 a_p2_body r1.1, aI G a_p2_body 20 r1.2]) (ws' := [o8 a_p2 a_p2_body r1.1, oT ct h x_kind x_number x_v x_caught a_steps, aI G a_p2_body 20 r1.2]) hP hD hS hFc [0, 2] rfl rfl rfl (va_runVN (As := [.int 1]) (rest := []) ⟨hx, hb, hml, hown, hts⟩ hM ⟨va_cnB 1 hts gX7_turns_X8_began_n39 rfl rfl rfl (hE.nw (.methodLinkNest RX7 39 yX8_began "HeadsByHair") (by decide +kernel)) (hts (.initialized RX8) (by decide +kernel)) (by decide +kernel) ⟨Nat.le_of_ble_eq_true rfl, Nat.le_of_ble_eq_true rfl⟩, hts (.instanceMethod yX8_began) (by decide +kernel), hts (.selects RX8 yX8_began yX8_began) (by decide +kernel)⟩ (cp_V hK hE hS hPc hDc hFc (va_recv hK hPc (ci := 8) (q0 := 0) rfl rfl)) rfl rfl hl.1 rfl (lv_room (Nat.le_of_ble_eq_true rfl)) dX7_turns_2 ⟨Nat.zero_le _, Nat.zero_le _⟩) (fun H locs hP hD hS => ?_)
  refine lv_iload_n hx hb dX7_turns_5 rfl (lv_at hl 1 rfl) ?_
  refine lv_aload_n hx hb dX7_turns_6 rfl (lv_at hl 0 rfl) ?_
  refine va_get (D := G.1) (ci := ct) (v := .int x_number) (C := tC ct) (T := TX7) (N := 5) hx hb hts hin_ct hown hK hP 1 rfl (tC_at hT_ct) 1 (by decide) lk_13 (fun _ h9 => h9) rfl dX7_turns_7 ?_
  refine lv_iadd hx hb dX7_turns_10 ?_
  injection hF with hz
  injection hz with hq0 hz
  injection hz with hq1 hz
  subst hq0
  subst hq1
  subst hz
  exact cm_reti hx hb hr rfl hlk hK hP hD hS dX7_turns_11
/-! HeadsByHair$Turning.turns(ILHeadsByHair$Trace;)I -/
abbrev rm_X9_turns : Room := { frames := 2, cells := 0, slots := 0, locals := 43 }
set_option maxHeartbeats 4000000 in
set_option maxRecDepth 100000 in
theorem c_X9_turns (l : Launch) (G : GG) (ct : Nat) (hct : ct = 4 ∨ ct = 9 ∨ ct = 10) (a_p2 a_p2_body h a_steps : Nat) (x_p2_ran x_kind x_number x_v x_caught : Int32) (f_p2_body : Nat → Int32) (l1 : Int32) (z : Int32) (z_x_p2_ran : Int32) (z_f_p2_body : Nat → Int32) (hF : fX9_turns ct x_p2_ran x_number f_p2_body l1 = some (z, z_x_p2_ran, z_f_p2_body)) : CMi l yX9_turns wsX9_turns rm_X9_turns G [o8 a_p2 a_p2_body x_p2_ran, oT ct h x_kind x_number x_v x_caught a_steps, aI G a_p2_body 20 f_p2_body] [o8 a_p2 a_p2_body z_x_p2_ran, oT ct h x_kind x_number x_v x_caught a_steps, aI G a_p2_body 20 z_f_p2_body] [.ref h, .int l1, .ref a_p2] z := by
  refine cm_start (cc := cX9_turns) (maxL := 3) (ret := (some .int)) (Qc := fun A => QI G [o8 a_p2 a_p2_body z_x_p2_ran, oT ct h x_kind x_number x_v x_caught a_steps, aI G a_p2_body 20 z_f_p2_body] z A) (by decide +kernel) rfl (Nat.le_of_ble_eq_true rfl) ?_
  intro p e s m args below meth c A hx hb hr hlk hml hown hnm hts hA H locs hP hK hD hE hS ls hl
  have hown : s.vm.findClass RX9 = some m.cls := hown
  have hl : lv_has ls 3 [(0, .ref h), (1, .int l1), (2, .ref a_p2)] := hl
  revert hF
  intro hF
  unfold fX9_turns at hF
  refine lv_aload_n hx hb dX9_turns_0 rfl (lv_at hl 2 rfl) ?_
  refine lv_bipush (v := 11) hx hb dX9_turns_1 (by decide) ?_
  obtain ⟨r1, hc2, hF⟩ := bd_some hF
  have hPc := hP.sub (ws' := [o8 a_p2 a_p2_body x_p2_ran, aI G a_p2_body 20 f_p2_body]) [0, 2] rfl
  have hDc := hD.sub (ws' := [o8 a_p2 a_p2_body x_p2_ran, aI G a_p2_body 20 f_p2_body]) [0, 2] (by decide) rfl
  have hFc := va_free (wc := [o8 a_p2 a_p2_body x_p2_ran, aI G a_p2_body 20 f_p2_body]) hD hS hA [0, 2] rfl
  have hM := c_X8_began l G a_p2 a_p2_body x_p2_ran f_p2_body (11 : Int32) r1.1 r1.2 hc2 H.size
  refine cl_v (w1 := [o8 a_p2 a_p2_body r1.1, aI G a_p2_body 20 r1.2]) (ws' := [o8 a_p2 a_p2_body r1.1, oT ct h x_kind x_number x_v x_caught a_steps, aI G a_p2_body 20 r1.2]) hP hD hS hFc [0, 2] rfl rfl rfl (va_runVN (As := [.int 11]) (rest := []) ⟨hx, hb, hml, hown, hts⟩ hM ⟨va_cnB 1 hts gX9_turns_X8_began_n21 rfl rfl rfl (hE.nw (.methodLinkNest RX9 21 yX8_began "HeadsByHair") (by decide +kernel)) (hts (.initialized RX8) (by decide +kernel)) (by decide +kernel) ⟨Nat.le_of_ble_eq_true rfl, Nat.le_of_ble_eq_true rfl⟩, hts (.instanceMethod yX8_began) (by decide +kernel), hts (.selects RX8 yX8_began yX8_began) (by decide +kernel)⟩ (cp_V hK hE hS hPc hDc hFc (va_recv hK hPc (ci := 8) (q0 := 0) rfl rfl)) rfl rfl hl.1 rfl (lv_room (Nat.le_of_ble_eq_true rfl)) dX9_turns_3 ⟨Nat.zero_le _, Nat.zero_le _⟩) (fun H locs hP hD hS => ?_)
  refine lv_aload_n hx hb dX9_turns_6 rfl (lv_at hl 0 rfl) ?_
  refine lv_iload_n hx hb dX9_turns_7 rfl (lv_at hl 1 rfl) ?_
  refine lv_iconst (v := 3) hx hb dX9_turns_8 (by decide) ?_
  refine lv_imul hx hb dX9_turns_9 ?_
  refine lv_aload_n hx hb dX9_turns_10 rfl (lv_at hl 2 rfl) ?_
  obtain ⟨r3, hc4, hF⟩ := bd_some hF
  have hPc := hP.sub (ws' := [o8 a_p2 a_p2_body r1.1, oT ct h x_kind x_number x_v x_caught a_steps, aI G a_p2_body 20 r1.2]) [0, 1, 2] rfl
  have hDc := hD.sub (ws' := [o8 a_p2 a_p2_body r1.1, oT ct h x_kind x_number x_v x_caught a_steps, aI G a_p2_body 20 r1.2]) [0, 1, 2] (by decide) rfl
  have hFc := va_free (wc := [o8 a_p2 a_p2_body r1.1, oT ct h x_kind x_number x_v x_caught a_steps, aI G a_p2_body 20 r1.2]) hD hS hA [0, 1, 2] rfl
  have hrun : va_Run p l e (rm_X9_turns) s m args below meth c H locs 0 0 0 0 (F0 m 11 ls [.ref a_p2, .int (l1 * 3), .ref h]) [] (QI G [o8 a_p2 a_p2_body r3.2.1, oT ct h x_kind x_number x_v x_caught a_steps, aI G a_p2_body 20 r3.2.2] r3.1 (va_A [o8 a_p2 a_p2_body r1.1, oT ct h x_kind x_number x_v x_caught a_steps, aI G a_p2_body 20 r1.2] H.size) (Value.ref h :: [.int (l1 * 3), .ref a_p2]).toArray) (va_A [o8 a_p2 a_p2_body r1.1, oT ct h x_kind x_number x_v x_caught a_steps, aI G a_p2_body 20 r1.2] H.size) := by
    rcases hct with rfl | rfl | rfl
    · have hM := c_X7_turns l G 4 (by decide) a_p2 a_p2_body h a_steps r1.1 x_kind x_number x_v x_caught r1.2 (l1 * 3) r3.1 r3.2.1 r3.2.2 hc4 H.size
      exact va_runSU (As := [.int (l1 * 3), .ref a_p2]) (rest := []) (hK.1 4 (RX4, TX4, 5) rfl).2 ⟨hx, hb, hml, hown, hts⟩ hM (va_cwSU 2 hts gX9_turns_X7_turns_s27 rfl rfl rfl (by decide +kernel) ⟨Nat.le_of_ble_eq_true rfl, Nat.le_of_ble_eq_true rfl⟩) (cp_V hK hE hS hPc hDc hFc (va_recv hK hPc (ci := 4) (q0 := 1) rfl rfl)) rfl rfl hl.1 rfl (lv_room (Nat.le_of_ble_eq_true rfl)) dX9_turns_11 ⟨Nat.zero_le _, Nat.zero_le _⟩
    · have hM := c_X7_turns l G 9 (by decide) a_p2 a_p2_body h a_steps r1.1 x_kind x_number x_v x_caught r1.2 (l1 * 3) r3.1 r3.2.1 r3.2.2 hc4 H.size
      exact va_runSU (As := [.int (l1 * 3), .ref a_p2]) (rest := []) (hK.1 9 (RX9, TX9, 5) rfl).2 ⟨hx, hb, hml, hown, hts⟩ hM (va_cwSU 2 hts gX9_turns_X7_turns_s27 rfl rfl rfl (by decide +kernel) ⟨Nat.le_of_ble_eq_true rfl, Nat.le_of_ble_eq_true rfl⟩) (cp_V hK hE hS hPc hDc hFc (va_recv hK hPc (ci := 9) (q0 := 1) rfl rfl)) rfl rfl hl.1 rfl (lv_room (Nat.le_of_ble_eq_true rfl)) dX9_turns_11 ⟨Nat.zero_le _, Nat.zero_le _⟩
    · have hM := c_X7_turns l G 10 (by decide) a_p2 a_p2_body h a_steps r1.1 x_kind x_number x_v x_caught r1.2 (l1 * 3) r3.1 r3.2.1 r3.2.2 hc4 H.size
      exact va_runSU (As := [.int (l1 * 3), .ref a_p2]) (rest := []) (hK.1 10 (RX10, TX10, 5) rfl).2 ⟨hx, hb, hml, hown, hts⟩ hM (va_cwSU 2 hts gX9_turns_X7_turns_s27 rfl rfl rfl (by decide +kernel) ⟨Nat.le_of_ble_eq_true rfl, Nat.le_of_ble_eq_true rfl⟩) (cp_V hK hE hS hPc hDc hFc (va_recv hK hPc (ci := 10) (q0 := 1) rfl rfl)) rfl rfl hl.1 rfl (lv_room (Nat.le_of_ble_eq_true rfl)) dX9_turns_11 ⟨Nat.zero_le _, Nat.zero_le _⟩
  refine cl_i (w1 := [o8 a_p2 a_p2_body r3.2.1, oT ct h x_kind x_number x_v x_caught a_steps, aI G a_p2_body 20 r3.2.2]) (ws' := [o8 a_p2 a_p2_body r3.2.1, oT ct h x_kind x_number x_v x_caught a_steps, aI G a_p2_body 20 r3.2.2]) hP hD hS hFc [0, 1, 2] rfl rfl rfl hrun (fun H locs hP hD hS => ?_)
  injection hF with hz
  injection hz with hq0 hz
  injection hz with hq1 hz
  subst hq0
  subst hq1
  subst hz
  exact cm_reti hx hb hr rfl hlk hK hP hD hS dX9_turns_14
/-! HeadsByHair$Seeming.turns(ILHeadsByHair$Trace;)I -/
abbrev rm_X4_turns : Room := { frames := 3, cells := 0, slots := 0, locals := 65 }
set_option maxHeartbeats 4000000 in
set_option maxRecDepth 100000 in
theorem c_X4_turns (l : Launch) (G : GG) (a_p2 a_p2_body h a_steps : Nat) (x_p2_ran x_kind x_number x_v x_caught : Int32) (f_p2_body : Nat → Int32) (l1 : Int32) (z : Int32) (z_x_p2_ran : Int32) (z_f_p2_body : Nat → Int32) (hF : fX4_turns x_p2_ran x_number f_p2_body l1 = some (z, z_x_p2_ran, z_f_p2_body)) : CMi l yX4_turns wsX4_turns rm_X4_turns G [o8 a_p2 a_p2_body x_p2_ran, oT 4 h x_kind x_number x_v x_caught a_steps, aI G a_p2_body 20 f_p2_body] [o8 a_p2 a_p2_body z_x_p2_ran, oT 4 h x_kind x_number x_v x_caught a_steps, aI G a_p2_body 20 z_f_p2_body] [.ref h, .int l1, .ref a_p2] z := by
  refine cm_start (cc := cX4_turns) (maxL := 3) (ret := (some .int)) (Qc := fun A => QI G [o8 a_p2 a_p2_body z_x_p2_ran, oT 4 h x_kind x_number x_v x_caught a_steps, aI G a_p2_body 20 z_f_p2_body] z A) (by decide +kernel) rfl (Nat.le_of_ble_eq_true rfl) ?_
  intro p e s m args below meth c A hx hb hr hlk hml hown hnm hts hA H locs hP hK hD hE hS ls hl
  have hown : s.vm.findClass RX4 = some m.cls := hown
  have hl : lv_has ls 3 [(0, .ref h), (1, .int l1), (2, .ref a_p2)] := hl
  have hin4 : ∀ w ∈ wsX40, w ∈ wsX4_turns := by decide +kernel
  have lk_32 := hts (.fieldLink RX4 32 "HeadsByHair$Seeming" "number" "I") (by decide +kernel)
  revert hF
  intro hF
  unfold fX4_turns at hF
  refine lv_aload_n hx hb dX4_turns_0 rfl (lv_at hl 2 rfl) ?_
  refine lv_bipush (v := 51) hx hb dX4_turns_1 (by decide) ?_
  obtain ⟨r1, hc2, hF⟩ := bd_some hF
  have hPc := hP.sub (ws' := [o8 a_p2 a_p2_body x_p2_ran, aI G a_p2_body 20 f_p2_body]) [0, 2] rfl
  have hDc := hD.sub (ws' := [o8 a_p2 a_p2_body x_p2_ran, aI G a_p2_body 20 f_p2_body]) [0, 2] (by decide) rfl
  have hFc := va_free (wc := [o8 a_p2 a_p2_body x_p2_ran, aI G a_p2_body 20 f_p2_body]) hD hS hA [0, 2] rfl
  have hM := c_X8_began l G a_p2 a_p2_body x_p2_ran f_p2_body (51 : Int32) r1.1 r1.2 hc2 H.size
  refine cl_v (w1 := [o8 a_p2 a_p2_body r1.1, aI G a_p2_body 20 r1.2]) (ws' := [o8 a_p2 a_p2_body r1.1, oT 4 h x_kind x_number x_v x_caught a_steps, aI G a_p2_body 20 r1.2]) hP hD hS hFc [0, 2] rfl rfl rfl (va_runVN (As := [.int 51]) (rest := []) ⟨hx, hb, hml, hown, hts⟩ hM ⟨va_cnB 1 hts gX4_turns_X8_began_n22 rfl rfl rfl (hE.nw (.methodLinkNest RX4 22 yX8_began "HeadsByHair") (by decide +kernel)) (hts (.initialized RX8) (by decide +kernel)) (by decide +kernel) ⟨Nat.le_of_ble_eq_true rfl, Nat.le_of_ble_eq_true rfl⟩, hts (.instanceMethod yX8_began) (by decide +kernel), hts (.selects RX8 yX8_began yX8_began) (by decide +kernel)⟩ (cp_V hK hE hS hPc hDc hFc (va_recv hK hPc (ci := 8) (q0 := 0) rfl rfl)) rfl rfl hl.1 rfl (lv_room (Nat.le_of_ble_eq_true rfl)) dX4_turns_3 ⟨Nat.zero_le _, Nat.zero_le _⟩) (fun H locs hP hD hS => ?_)
  refine lv_aload_n hx hb dX4_turns_6 rfl (lv_at hl 0 rfl) ?_
  refine lv_iload_n hx hb dX4_turns_7 rfl (lv_at hl 1 rfl) ?_
  refine lv_aload_n hx hb dX4_turns_8 rfl (lv_at hl 2 rfl) ?_
  obtain ⟨r3, hc4, hF⟩ := bd_some hF
  have hPc := hP.sub (ws' := [o8 a_p2 a_p2_body r1.1, oT 4 h x_kind x_number x_v x_caught a_steps, aI G a_p2_body 20 r1.2]) [0, 1, 2] rfl
  have hDc := hD.sub (ws' := [o8 a_p2 a_p2_body r1.1, oT 4 h x_kind x_number x_v x_caught a_steps, aI G a_p2_body 20 r1.2]) [0, 1, 2] (by decide) rfl
  have hFc := va_free (wc := [o8 a_p2 a_p2_body r1.1, oT 4 h x_kind x_number x_v x_caught a_steps, aI G a_p2_body 20 r1.2]) hD hS hA [0, 1, 2] rfl
  have hrun : va_Run p l e (rm_X4_turns) s m args below meth c H locs 0 0 0 0 (F0 m 9 ls [.ref a_p2, .int l1, .ref h]) [] (QI G [o8 a_p2 a_p2_body r3.2.1, oT 4 h x_kind x_number x_v x_caught a_steps, aI G a_p2_body 20 r3.2.2] r3.1 (va_A [o8 a_p2 a_p2_body r1.1, oT 4 h x_kind x_number x_v x_caught a_steps, aI G a_p2_body 20 r1.2] H.size) (Value.ref h :: [.int l1, .ref a_p2]).toArray) (va_A [o8 a_p2 a_p2_body r1.1, oT 4 h x_kind x_number x_v x_caught a_steps, aI G a_p2_body 20 r1.2] H.size) := by
    have hM := c_X9_turns l G 4 (by decide) a_p2 a_p2_body h a_steps r1.1 x_kind x_number x_v x_caught r1.2 l1 r3.1 r3.2.1 r3.2.2 hc4 H.size
    exact sq_runU (n := 2) (owner := RX9) (x := ⟨RX10, "turns", "(ILHeadsByHair$Trace;)I"⟩) (bytes := cX9_turns) (maxL := 3) (ret := (some .int)) (As := [.int l1, .ref a_p2]) (rest := []) (hK.1 4 (RX4, TX4, 5) rfl).2 ⟨hx, hb, hml, hown, hts⟩ hM rfl rfl rfl ⟨Nat.le_of_ble_eq_true rfl, Nat.le_of_ble_eq_true rfl⟩ (ev_ws hE ev_X9_turns (by decide +kernel)) (by decide +kernel) (va_Nw.use rfl (hE.nw (.code yX9_turns cX9_turns 3 (some .int)) (ev_X9_turns _ (by decide +kernel)))) (va_Nw.use rfl (hE.nw (.methodLink RX4 28 ⟨RX10, "turns", "(ILHeadsByHair$Trace;)I"⟩) (nw_upin _ (by decide +kernel)))) (va_Nw.use rfl (hE.nw (.sameMethod RX10 RX9 "turns" "(ILHeadsByHair$Trace;)I") (nw_upin _ (by decide +kernel)))) (va_Nw.use rfl (hE.nw (.superclass RX4 RX10) (nw_upin _ (by decide +kernel)))) (va_Nw.use rfl (hE.nw (.superclass RX10 RX9) (nw_upin _ (by decide +kernel)))) (va_Nw.use rfl (hE.nw (.instanceMethod yX9_turns) (nw_upin _ (by decide +kernel)))) (va_Nw.use rfl (hE.nw (.initialized RX9) (nw_upin _ (by decide +kernel)))) (by decide +kernel) (cp_V hK hE hS hPc hDc hFc (va_recv hK hPc (ci := 4) (q0 := 1) rfl rfl)) rfl rfl hl.1 rfl (lv_room (Nat.le_of_ble_eq_true rfl)) dX4_turns_9 ⟨Nat.zero_le _, Nat.zero_le _⟩
  refine cl_i (w1 := [o8 a_p2 a_p2_body r3.2.1, oT 4 h x_kind x_number x_v x_caught a_steps, aI G a_p2_body 20 r3.2.2]) (ws' := [o8 a_p2 a_p2_body r3.2.1, oT 4 h x_kind x_number x_v x_caught a_steps, aI G a_p2_body 20 r3.2.2]) hP hD hS hFc [0, 1, 2] rfl rfl rfl hrun (fun H locs hP hD hS => ?_)
  refine lv_aload_n hx hb dX4_turns_12 rfl (lv_at hl 0 rfl) ?_
  refine va_get (D := G.1) (ci := 4) (v := .int x_number) (C := RX4) (T := TX4) (N := 5) hx hb hts hin4 hown hK hP 1 rfl rfl 1 (by decide) lk_32 (fun x9 h9 => u_same (hts (.sameField "HeadsByHair$Seeming" "HeadsByHair$Throw" "number" "I") (by decide +kernel)) x9 h9) rfl dX4_turns_13 ?_
  refine lv_ixor hx hb dX4_turns_16 ?_
  injection hF with hz
  injection hz with hq0 hz
  injection hz with hq1 hz
  subst hq0
  subst hq1
  subst hz
  exact cm_reti hx hb hr rfl hlk hK hP hD hS dX4_turns_17
/-! HeadsByHair$Throw.lands(ILHeadsByHair$Trace;)I -/
abbrev rm_X7_lands : Room := { frames := 4, cells := 0, slots := 0, locals := 87 }
set_option maxHeartbeats 4000000 in
set_option maxRecDepth 100000 in
theorem c_X7_lands (l : Launch) (G : GG) (ct : Nat) (hct : ct = 0 ∨ ct = 1 ∨ ct = 4 ∨ ct = 5 ∨ ct = 7 ∨ ct = 9 ∨ ct = 10) (a_p2 a_p2_body h a_steps : Nat) (x_p2_ran x_kind x_number x_v x_caught : Int32) (f_p2_body : Nat → Int32) (l1 : Int32) (z : Int32) (z_x_p2_ran : Int32) (z_f_p2_body : Nat → Int32) (hF : fX7_lands ct x_p2_ran x_number x_v f_p2_body l1 = some (z, z_x_p2_ran, z_f_p2_body)) : CMi l yX7_lands wsX7_lands rm_X7_lands G [o8 a_p2 a_p2_body x_p2_ran, oT ct h x_kind x_number x_v x_caught a_steps, aI G a_p2_body 20 f_p2_body] [o8 a_p2 a_p2_body z_x_p2_ran, oT ct h x_kind x_number x_v x_caught a_steps, aI G a_p2_body 20 z_f_p2_body] [.ref h, .int l1, .ref a_p2] z := by
  refine cm_start (cc := cX7_lands) (maxL := 3) (ret := (some .int)) (Qc := fun A => QI G [o8 a_p2 a_p2_body z_x_p2_ran, oT ct h x_kind x_number x_v x_caught a_steps, aI G a_p2_body 20 z_f_p2_body] z A) (by decide +kernel) rfl (Nat.le_of_ble_eq_true rfl) ?_
  intro p e s m args below meth c A hx hb hr hlk hml hown hnm hts hA H locs hP hK hD hE hS ls hl
  have hown : s.vm.findClass RX7 = some m.cls := hown
  have hl : lv_has ls 3 [(0, .ref h), (1, .int l1), (2, .ref a_p2)] := hl
  have hT_ct : isT ct := by unfold isT; omega
  have hin_ct : ∀ w ∈ u_ws (tC ct) TX7 5, w ∈ wsX7_lands := by rcases hct with rfl | rfl | rfl | rfl | rfl | rfl | rfl <;> decide +kernel
  have lk_16 := hts (.fieldLink RX7 16 "HeadsByHair$Throw" "v" "I") (by decide +kernel)
  revert hF
  intro hF
  unfold fX7_lands at hF
  refine lv_aload_n hx hb dX7_lands_0 rfl (lv_at hl 2 rfl) ?_
  refine lv_iconst (v := 2) hx hb dX7_lands_1 (by decide) ?_
  obtain ⟨r1, hc2, hF⟩ := bd_some hF
  have hPc := hP.sub (ws' := [o8 a_p2 a_p2_body x_p2_ran, aI G a_p2_body 20 f_p2_body]) [0, 2] rfl
  have hDc := hD.sub (ws' := [o8 a_p2 a_p2_body x_p2_ran, aI G a_p2_body 20 f_p2_body]) [0, 2] (by decide) rfl
  have hFc := va_free (wc := [o8 a_p2 a_p2_body x_p2_ran, aI G a_p2_body 20 f_p2_body]) hD hS hA [0, 2] rfl
  have hM := c_X8_began l G a_p2 a_p2_body x_p2_ran f_p2_body (2 : Int32) r1.1 r1.2 hc2 H.size
  refine cl_v (w1 := [o8 a_p2 a_p2_body r1.1, aI G a_p2_body 20 r1.2]) (ws' := [o8 a_p2 a_p2_body r1.1, oT ct h x_kind x_number x_v x_caught a_steps, aI G a_p2_body 20 r1.2]) hP hD hS hFc [0, 2] rfl rfl rfl (va_runVN (As := [.int 2]) (rest := []) ⟨hx, hb, hml, hown, hts⟩ hM ⟨va_cnB 1 hts gX7_lands_X8_began_n39 rfl rfl rfl (hE.nw (.methodLinkNest RX7 39 yX8_began "HeadsByHair") (by decide +kernel)) (hts (.initialized RX8) (by decide +kernel)) (by decide +kernel) ⟨Nat.le_of_ble_eq_true rfl, Nat.le_of_ble_eq_true rfl⟩, hts (.instanceMethod yX8_began) (by decide +kernel), hts (.selects RX8 yX8_began yX8_began) (by decide +kernel)⟩ (cp_V hK hE hS hPc hDc hFc (va_recv hK hPc (ci := 8) (q0 := 0) rfl rfl)) rfl rfl hl.1 rfl (lv_room (Nat.le_of_ble_eq_true rfl)) dX7_lands_2 ⟨Nat.zero_le _, Nat.zero_le _⟩) (fun H locs hP hD hS => ?_)
  refine lv_aload_n hx hb dX7_lands_5 rfl (lv_at hl 0 rfl) ?_
  refine lv_iload_n hx hb dX7_lands_6 rfl (lv_at hl 1 rfl) ?_
  refine lv_aload_n hx hb dX7_lands_7 rfl (lv_at hl 2 rfl) ?_
  obtain ⟨r3, hc4, hF⟩ := bd_some hF
  have hPc := hP.sub (ws' := [o8 a_p2 a_p2_body r1.1, oT ct h x_kind x_number x_v x_caught a_steps, aI G a_p2_body 20 r1.2]) [0, 1, 2] rfl
  have hDc := hD.sub (ws' := [o8 a_p2 a_p2_body r1.1, oT ct h x_kind x_number x_v x_caught a_steps, aI G a_p2_body 20 r1.2]) [0, 1, 2] (by decide) rfl
  have hFc := va_free (wc := [o8 a_p2 a_p2_body r1.1, oT ct h x_kind x_number x_v x_caught a_steps, aI G a_p2_body 20 r1.2]) hD hS hA [0, 1, 2] rfl
  have hrun : va_Run p l e (rm_X7_lands) s m args below meth c H locs 0 0 0 0 (F0 m 8 ls [.ref a_p2, .int l1, .ref h]) [] (QI G [o8 a_p2 a_p2_body r3.2.1, oT ct h x_kind x_number x_v x_caught a_steps, aI G a_p2_body 20 r3.2.2] r3.1 (va_A [o8 a_p2 a_p2_body r1.1, oT ct h x_kind x_number x_v x_caught a_steps, aI G a_p2_body 20 r1.2] H.size) (Value.ref h :: [.int l1, .ref a_p2]).toArray) (va_A [o8 a_p2 a_p2_body r1.1, oT ct h x_kind x_number x_v x_caught a_steps, aI G a_p2_body 20 r1.2] H.size) := by
    rcases hct with rfl | rfl | rfl | rfl | rfl | rfl | rfl
    · have hM := c_X7_turns l G 0 (by decide) a_p2 a_p2_body h a_steps r1.1 x_kind x_number x_v x_caught r1.2 l1 r3.1 r3.2.1 r3.2.2 (show fX7_turns 0 r1.1 x_number r1.2 l1 = some (r3.1, r3.2.1, r3.2.2) from hc4) H.size
      exact va_runU (As := [.int l1, .ref a_p2]) (rest := []) ⟨hx, hb, hml, hown, hts⟩ hM (va_cwU 2 hts gX7_lands_X7_turns_u45X0 rfl rfl rfl rfl (by decide +kernel) ⟨Nat.le_of_ble_eq_true rfl, Nat.le_of_ble_eq_true rfl⟩) (cp_V hK hE hS hPc hDc hFc (va_recv hK hPc (ci := 0) (q0 := 1) rfl rfl)) rfl rfl hl.1 rfl (lv_room (Nat.le_of_ble_eq_true rfl)) dX7_lands_8 ⟨Nat.zero_le _, Nat.zero_le _⟩
    · have hM := c_X7_turns l G 1 (by decide) a_p2 a_p2_body h a_steps r1.1 x_kind x_number x_v x_caught r1.2 l1 r3.1 r3.2.1 r3.2.2 (show fX7_turns 1 r1.1 x_number r1.2 l1 = some (r3.1, r3.2.1, r3.2.2) from hc4) H.size
      exact va_runU (As := [.int l1, .ref a_p2]) (rest := []) ⟨hx, hb, hml, hown, hts⟩ hM (va_cwU 2 hts gX7_lands_X7_turns_u45X1 rfl rfl rfl rfl (by decide +kernel) ⟨Nat.le_of_ble_eq_true rfl, Nat.le_of_ble_eq_true rfl⟩) (cp_V hK hE hS hPc hDc hFc (va_recv hK hPc (ci := 1) (q0 := 1) rfl rfl)) rfl rfl hl.1 rfl (lv_room (Nat.le_of_ble_eq_true rfl)) dX7_lands_8 ⟨Nat.zero_le _, Nat.zero_le _⟩
    · have hM := c_X4_turns l G a_p2 a_p2_body h a_steps r1.1 x_kind x_number x_v x_caught r1.2 l1 r3.1 r3.2.1 r3.2.2 (show fX4_turns r1.1 x_number r1.2 l1 = some (r3.1, r3.2.1, r3.2.2) from hc4) H.size
      exact va_runU (As := [.int l1, .ref a_p2]) (rest := []) ⟨hx, hb, hml, hown, hts⟩ hM (va_cwO 2 hts gX7_lands_X4_turns_u45X4 rfl rfl rfl (b0 := cX7_turns) (m0 := 3) (r0 := (some .int)) (by decide +kernel) (by decide +kernel) ⟨Nat.le_of_ble_eq_true rfl, Nat.le_of_ble_eq_true rfl⟩) (cp_V hK hE hS hPc hDc hFc (va_recv hK hPc (ci := 4) (q0 := 1) rfl rfl)) rfl rfl hl.1 rfl (lv_room (Nat.le_of_ble_eq_true rfl)) dX7_lands_8 ⟨Nat.zero_le _, Nat.zero_le _⟩
    · have hM := c_X7_turns l G 5 (by decide) a_p2 a_p2_body h a_steps r1.1 x_kind x_number x_v x_caught r1.2 l1 r3.1 r3.2.1 r3.2.2 (show fX7_turns 5 r1.1 x_number r1.2 l1 = some (r3.1, r3.2.1, r3.2.2) from hc4) H.size
      exact va_runU (As := [.int l1, .ref a_p2]) (rest := []) ⟨hx, hb, hml, hown, hts⟩ hM (va_cwU 2 hts gX7_lands_X7_turns_u45X5 rfl rfl rfl rfl (by decide +kernel) ⟨Nat.le_of_ble_eq_true rfl, Nat.le_of_ble_eq_true rfl⟩) (cp_V hK hE hS hPc hDc hFc (va_recv hK hPc (ci := 5) (q0 := 1) rfl rfl)) rfl rfl hl.1 rfl (lv_room (Nat.le_of_ble_eq_true rfl)) dX7_lands_8 ⟨Nat.zero_le _, Nat.zero_le _⟩
    · have hM := c_X7_turns l G 7 (by decide) a_p2 a_p2_body h a_steps r1.1 x_kind x_number x_v x_caught r1.2 l1 r3.1 r3.2.1 r3.2.2 (show fX7_turns 7 r1.1 x_number r1.2 l1 = some (r3.1, r3.2.1, r3.2.2) from hc4) H.size
      exact va_runV (As := [.int l1, .ref a_p2]) (rest := []) ⟨hx, hb, hml, hown, hts⟩ hM (cwV 2 hts gX7_lands_X7_turns rfl rfl rfl (by decide +kernel) ⟨Nat.le_of_ble_eq_true rfl, Nat.le_of_ble_eq_true rfl⟩) (cp_V hK hE hS hPc hDc hFc (va_recv hK hPc (ci := 7) (q0 := 1) rfl rfl)) rfl rfl hl.1 rfl (lv_room (Nat.le_of_ble_eq_true rfl)) dX7_lands_8 ⟨Nat.zero_le _, Nat.zero_le _⟩
    · have hM := c_X9_turns l G 9 (by decide) a_p2 a_p2_body h a_steps r1.1 x_kind x_number x_v x_caught r1.2 l1 r3.1 r3.2.1 r3.2.2 (show fX9_turns 9 r1.1 x_number r1.2 l1 = some (r3.1, r3.2.1, r3.2.2) from hc4) H.size
      exact va_runU (As := [.int l1, .ref a_p2]) (rest := []) ⟨hx, hb, hml, hown, hts⟩ hM (va_cwO 2 hts gX7_lands_X9_turns_u45X9 rfl rfl rfl (b0 := cX7_turns) (m0 := 3) (r0 := (some .int)) (by decide +kernel) (by decide +kernel) ⟨Nat.le_of_ble_eq_true rfl, Nat.le_of_ble_eq_true rfl⟩) (cp_V hK hE hS hPc hDc hFc (va_recv hK hPc (ci := 9) (q0 := 1) rfl rfl)) rfl rfl hl.1 rfl (lv_room (Nat.le_of_ble_eq_true rfl)) dX7_lands_8 ⟨Nat.zero_le _, Nat.zero_le _⟩
    · have hM := c_X9_turns l G 10 (by decide) a_p2 a_p2_body h a_steps r1.1 x_kind x_number x_v x_caught r1.2 l1 r3.1 r3.2.1 r3.2.2 (show fX9_turns 10 r1.1 x_number r1.2 l1 = some (r3.1, r3.2.1, r3.2.2) from hc4) H.size
      exact va_runU (As := [.int l1, .ref a_p2]) (rest := []) ⟨hx, hb, hml, hown, hts⟩ hM (va_cwO 2 hts gX7_lands_X9_turns_u45X10 rfl rfl rfl (b0 := cX7_turns) (m0 := 3) (r0 := (some .int)) (by decide +kernel) (by decide +kernel) ⟨Nat.le_of_ble_eq_true rfl, Nat.le_of_ble_eq_true rfl⟩) (cp_V hK hE hS hPc hDc hFc (va_recv hK hPc (ci := 10) (q0 := 1) rfl rfl)) rfl rfl hl.1 rfl (lv_room (Nat.le_of_ble_eq_true rfl)) dX7_lands_8 ⟨Nat.zero_le _, Nat.zero_le _⟩
  refine cl_i (w1 := [o8 a_p2 a_p2_body r3.2.1, oT ct h x_kind x_number x_v x_caught a_steps, aI G a_p2_body 20 r3.2.2]) (ws' := [o8 a_p2 a_p2_body r3.2.1, oT ct h x_kind x_number x_v x_caught a_steps, aI G a_p2_body 20 r3.2.2]) hP hD hS hFc [0, 1, 2] rfl rfl rfl hrun (fun H locs hP hD hS => ?_)
  refine lv_aload_n hx hb dX7_lands_11 rfl (lv_at hl 0 rfl) ?_
  refine va_get (D := G.1) (ci := ct) (v := .int x_v) (C := tC ct) (T := TX7) (N := 5) hx hb hts hin_ct hown hK hP 1 rfl (tC_at hT_ct) 2 (by decide) lk_16 (fun _ h9 => h9) rfl dX7_lands_12 ?_
  refine lv_isub hx hb dX7_lands_15 ?_
  injection hF with hz
  injection hz with hq0 hz
  injection hz with hq1 hz
  subst hq0
  subst hq1
  subst hz
  exact cm_reti hx hb hr rfl hlk hK hP hD hS dX7_lands_16
/-! HeadsByHair$Caught.lands(ILHeadsByHair$Trace;)I -/
abbrev rm_X0_lands : Room := { frames := 5, cells := 0, slots := 0, locals := 109 }
set_option maxHeartbeats 4000000 in
set_option maxRecDepth 100000 in
theorem c_X0_lands (l : Launch) (G : GG) (ct : Nat) (hct : ct = 0 ∨ ct = 1) (a_p2 a_p2_body h a_steps : Nat) (x_p2_ran x_kind x_number x_v x_caught : Int32) (f_p2_body : Nat → Int32) (l1 : Int32) (z : Int32) (z_x_p2_ran : Int32) (z_f_p2_body : Nat → Int32) (hF : fX0_lands ct x_p2_ran x_number x_v f_p2_body l1 = some (z, z_x_p2_ran, z_f_p2_body)) : CMi l yX0_lands wsX0_lands rm_X0_lands G [o8 a_p2 a_p2_body x_p2_ran, oT ct h x_kind x_number x_v x_caught a_steps, aI G a_p2_body 20 f_p2_body] [o8 a_p2 a_p2_body z_x_p2_ran, oT ct h x_kind x_number x_v x_caught a_steps, aI G a_p2_body 20 z_f_p2_body] [.ref h, .int l1, .ref a_p2] z := by
  refine cm_start (cc := cX0_lands) (maxL := 3) (ret := (some .int)) (Qc := fun A => QI G [o8 a_p2 a_p2_body z_x_p2_ran, oT ct h x_kind x_number x_v x_caught a_steps, aI G a_p2_body 20 z_f_p2_body] z A) (by decide +kernel) rfl (Nat.le_of_ble_eq_true rfl) ?_
  intro p e s m args below meth c A hx hb hr hlk hml hown hnm hts hA H locs hP hK hD hE hS ls hl
  have hown : s.vm.findClass RX0 = some m.cls := hown
  have hl : lv_has ls 3 [(0, .ref h), (1, .int l1), (2, .ref a_p2)] := hl
  revert hF
  intro hF
  unfold fX0_lands at hF
  refine lv_aload_n hx hb dX0_lands_0 rfl (lv_at hl 2 rfl) ?_
  refine lv_bipush (v := 21) hx hb dX0_lands_1 (by decide) ?_
  obtain ⟨r1, hc2, hF⟩ := bd_some hF
  have hPc := hP.sub (ws' := [o8 a_p2 a_p2_body x_p2_ran, aI G a_p2_body 20 f_p2_body]) [0, 2] rfl
  have hDc := hD.sub (ws' := [o8 a_p2 a_p2_body x_p2_ran, aI G a_p2_body 20 f_p2_body]) [0, 2] (by decide) rfl
  have hFc := va_free (wc := [o8 a_p2 a_p2_body x_p2_ran, aI G a_p2_body 20 f_p2_body]) hD hS hA [0, 2] rfl
  have hM := c_X8_began l G a_p2 a_p2_body x_p2_ran f_p2_body (21 : Int32) r1.1 r1.2 hc2 H.size
  refine cl_v (w1 := [o8 a_p2 a_p2_body r1.1, aI G a_p2_body 20 r1.2]) (ws' := [o8 a_p2 a_p2_body r1.1, oT ct h x_kind x_number x_v x_caught a_steps, aI G a_p2_body 20 r1.2]) hP hD hS hFc [0, 2] rfl rfl rfl (va_runVN (As := [.int 21]) (rest := []) ⟨hx, hb, hml, hown, hts⟩ hM ⟨va_cnB 1 hts gX0_lands_X8_began_n28 rfl rfl rfl (hE.nw (.methodLinkNest RX0 28 yX8_began "HeadsByHair") (by decide +kernel)) (hts (.initialized RX8) (by decide +kernel)) (by decide +kernel) ⟨Nat.le_of_ble_eq_true rfl, Nat.le_of_ble_eq_true rfl⟩, hts (.instanceMethod yX8_began) (by decide +kernel), hts (.selects RX8 yX8_began yX8_began) (by decide +kernel)⟩ (cp_V hK hE hS hPc hDc hFc (va_recv hK hPc (ci := 8) (q0 := 0) rfl rfl)) rfl rfl hl.1 rfl (lv_room (Nat.le_of_ble_eq_true rfl)) dX0_lands_3 ⟨Nat.zero_le _, Nat.zero_le _⟩) (fun H locs hP hD hS => ?_)
  refine lv_aload_n hx hb dX0_lands_6 rfl (lv_at hl 0 rfl) ?_
  refine lv_iload_n hx hb dX0_lands_7 rfl (lv_at hl 1 rfl) ?_
  refine lv_aload_n hx hb dX0_lands_8 rfl (lv_at hl 2 rfl) ?_
  obtain ⟨r3, hc4, hF⟩ := bd_some hF
  have hPc := hP.sub (ws' := [o8 a_p2 a_p2_body r1.1, oT ct h x_kind x_number x_v x_caught a_steps, aI G a_p2_body 20 r1.2]) [0, 1, 2] rfl
  have hDc := hD.sub (ws' := [o8 a_p2 a_p2_body r1.1, oT ct h x_kind x_number x_v x_caught a_steps, aI G a_p2_body 20 r1.2]) [0, 1, 2] (by decide) rfl
  have hFc := va_free (wc := [o8 a_p2 a_p2_body r1.1, oT ct h x_kind x_number x_v x_caught a_steps, aI G a_p2_body 20 r1.2]) hD hS hA [0, 1, 2] rfl
  have hrun : va_Run p l e (rm_X0_lands) s m args below meth c H locs 0 0 0 0 (F0 m 9 ls [.ref a_p2, .int l1, .ref h]) [] (QI G [o8 a_p2 a_p2_body r3.2.1, oT ct h x_kind x_number x_v x_caught a_steps, aI G a_p2_body 20 r3.2.2] r3.1 (va_A [o8 a_p2 a_p2_body r1.1, oT ct h x_kind x_number x_v x_caught a_steps, aI G a_p2_body 20 r1.2] H.size) (Value.ref h :: [.int l1, .ref a_p2]).toArray) (va_A [o8 a_p2 a_p2_body r1.1, oT ct h x_kind x_number x_v x_caught a_steps, aI G a_p2_body 20 r1.2] H.size) := by
    rcases hct with rfl | rfl
    · have hM := c_X7_lands l G 0 (by decide) a_p2 a_p2_body h a_steps r1.1 x_kind x_number x_v x_caught r1.2 l1 r3.1 r3.2.1 r3.2.2 hc4 H.size
      exact va_runSU (As := [.int l1, .ref a_p2]) (rest := []) (hK.1 0 (RX0, TX0, 5) rfl).2 ⟨hx, hb, hml, hown, hts⟩ hM (va_cwSU 2 hts gX0_lands_X7_lands_s34 rfl rfl rfl (by decide +kernel) ⟨Nat.le_of_ble_eq_true rfl, Nat.le_of_ble_eq_true rfl⟩) (cp_V hK hE hS hPc hDc hFc (va_recv hK hPc (ci := 0) (q0 := 1) rfl rfl)) rfl rfl hl.1 rfl (lv_room (Nat.le_of_ble_eq_true rfl)) dX0_lands_9 ⟨Nat.zero_le _, Nat.zero_le _⟩
    · have hM := c_X7_lands l G 1 (by decide) a_p2 a_p2_body h a_steps r1.1 x_kind x_number x_v x_caught r1.2 l1 r3.1 r3.2.1 r3.2.2 hc4 H.size
      exact va_runSU (As := [.int l1, .ref a_p2]) (rest := []) (hK.1 1 (RX1, TX1, 5) rfl).2 ⟨hx, hb, hml, hown, hts⟩ hM (va_cwSU 2 hts gX0_lands_X7_lands_s34 rfl rfl rfl (by decide +kernel) ⟨Nat.le_of_ble_eq_true rfl, Nat.le_of_ble_eq_true rfl⟩) (cp_V hK hE hS hPc hDc hFc (va_recv hK hPc (ci := 1) (q0 := 1) rfl rfl)) rfl rfl hl.1 rfl (lv_room (Nat.le_of_ble_eq_true rfl)) dX0_lands_9 ⟨Nat.zero_le _, Nat.zero_le _⟩
  refine cl_i (w1 := [o8 a_p2 a_p2_body r3.2.1, oT ct h x_kind x_number x_v x_caught a_steps, aI G a_p2_body 20 r3.2.2]) (ws' := [o8 a_p2 a_p2_body r3.2.1, oT ct h x_kind x_number x_v x_caught a_steps, aI G a_p2_body 20 r3.2.2]) hP hD hS hFc [0, 1, 2] rfl rfl rfl hrun (fun H locs hP hD hS => ?_)
  refine lv_ineg hx hb dX0_lands_12 ?_
  injection hF with hz
  injection hz with hq0 hz
  injection hz with hq1 hz
  subst hq0
  subst hq1
  subst hz
  exact cm_reti hx hb hr rfl hlk hK hP hD hS dX0_lands_13
/-! HeadsByHair$Fallen.lands(ILHeadsByHair$Trace;)I -/
abbrev rm_X1_lands : Room := { frames := 6, cells := 0, slots := 0, locals := 131 }
set_option maxHeartbeats 4000000 in
set_option maxRecDepth 100000 in
theorem c_X1_lands (l : Launch) (G : GG) (a_p2 a_p2_body h a_steps : Nat) (x_p2_ran x_kind x_number x_v x_caught : Int32) (f_p2_body : Nat → Int32) (l1 : Int32) (z : Int32) (z_x_p2_ran : Int32) (z_f_p2_body : Nat → Int32) (hF : fX1_lands x_p2_ran x_number x_v f_p2_body l1 = some (z, z_x_p2_ran, z_f_p2_body)) : CMi l yX1_lands wsX1_lands rm_X1_lands G [o8 a_p2 a_p2_body x_p2_ran, oT 1 h x_kind x_number x_v x_caught a_steps, aI G a_p2_body 20 f_p2_body] [o8 a_p2 a_p2_body z_x_p2_ran, oT 1 h x_kind x_number x_v x_caught a_steps, aI G a_p2_body 20 z_f_p2_body] [.ref h, .int l1, .ref a_p2] z := by
  refine cm_start (cc := cX1_lands) (maxL := 3) (ret := (some .int)) (Qc := fun A => QI G [o8 a_p2 a_p2_body z_x_p2_ran, oT 1 h x_kind x_number x_v x_caught a_steps, aI G a_p2_body 20 z_f_p2_body] z A) (by decide +kernel) rfl (Nat.le_of_ble_eq_true rfl) ?_
  intro p e s m args below meth c A hx hb hr hlk hml hown hnm hts hA H locs hP hK hD hE hS ls hl
  have hown : s.vm.findClass RX1 = some m.cls := hown
  have hl : lv_has ls 3 [(0, .ref h), (1, .int l1), (2, .ref a_p2)] := hl
  have hin1 : ∀ w ∈ wsX10, w ∈ wsX1_lands := by decide +kernel
  have lk_17 := hts (.fieldLink RX1 17 "HeadsByHair$Fallen" "v" "I") (by decide +kernel)
  revert hF
  intro hF
  unfold fX1_lands at hF
  refine lv_aload_n hx hb dX1_lands_0 rfl (lv_at hl 2 rfl) ?_
  refine lv_bipush (v := 61) hx hb dX1_lands_1 (by decide) ?_
  obtain ⟨r1, hc2, hF⟩ := bd_some hF
  have hPc := hP.sub (ws' := [o8 a_p2 a_p2_body x_p2_ran, aI G a_p2_body 20 f_p2_body]) [0, 2] rfl
  have hDc := hD.sub (ws' := [o8 a_p2 a_p2_body x_p2_ran, aI G a_p2_body 20 f_p2_body]) [0, 2] (by decide) rfl
  have hFc := va_free (wc := [o8 a_p2 a_p2_body x_p2_ran, aI G a_p2_body 20 f_p2_body]) hD hS hA [0, 2] rfl
  have hM := c_X8_began l G a_p2 a_p2_body x_p2_ran f_p2_body (61 : Int32) r1.1 r1.2 hc2 H.size
  refine cl_v (w1 := [o8 a_p2 a_p2_body r1.1, aI G a_p2_body 20 r1.2]) (ws' := [o8 a_p2 a_p2_body r1.1, oT 1 h x_kind x_number x_v x_caught a_steps, aI G a_p2_body 20 r1.2]) hP hD hS hFc [0, 2] rfl rfl rfl (va_runVN (As := [.int 61]) (rest := []) ⟨hx, hb, hml, hown, hts⟩ hM ⟨va_cnB 1 hts gX1_lands_X8_began_n26 rfl rfl rfl (hE.nw (.methodLinkNest RX1 26 yX8_began "HeadsByHair") (by decide +kernel)) (hts (.initialized RX8) (by decide +kernel)) (by decide +kernel) ⟨Nat.le_of_ble_eq_true rfl, Nat.le_of_ble_eq_true rfl⟩, hts (.instanceMethod yX8_began) (by decide +kernel), hts (.selects RX8 yX8_began yX8_began) (by decide +kernel)⟩ (cp_V hK hE hS hPc hDc hFc (va_recv hK hPc (ci := 8) (q0 := 0) rfl rfl)) rfl rfl hl.1 rfl (lv_room (Nat.le_of_ble_eq_true rfl)) dX1_lands_3 ⟨Nat.zero_le _, Nat.zero_le _⟩) (fun H locs hP hD hS => ?_)
  refine lv_aload_n hx hb dX1_lands_6 rfl (lv_at hl 0 rfl) ?_
  refine lv_iload_n hx hb dX1_lands_7 rfl (lv_at hl 1 rfl) ?_
  refine lv_aload_n hx hb dX1_lands_8 rfl (lv_at hl 2 rfl) ?_
  obtain ⟨r3, hc4, hF⟩ := bd_some hF
  have hPc := hP.sub (ws' := [o8 a_p2 a_p2_body r1.1, oT 1 h x_kind x_number x_v x_caught a_steps, aI G a_p2_body 20 r1.2]) [0, 1, 2] rfl
  have hDc := hD.sub (ws' := [o8 a_p2 a_p2_body r1.1, oT 1 h x_kind x_number x_v x_caught a_steps, aI G a_p2_body 20 r1.2]) [0, 1, 2] (by decide) rfl
  have hFc := va_free (wc := [o8 a_p2 a_p2_body r1.1, oT 1 h x_kind x_number x_v x_caught a_steps, aI G a_p2_body 20 r1.2]) hD hS hA [0, 1, 2] rfl
  have hrun : va_Run p l e (rm_X1_lands) s m args below meth c H locs 0 0 0 0 (F0 m 9 ls [.ref a_p2, .int l1, .ref h]) [] (QI G [o8 a_p2 a_p2_body r3.2.1, oT 1 h x_kind x_number x_v x_caught a_steps, aI G a_p2_body 20 r3.2.2] r3.1 (va_A [o8 a_p2 a_p2_body r1.1, oT 1 h x_kind x_number x_v x_caught a_steps, aI G a_p2_body 20 r1.2] H.size) (Value.ref h :: [.int l1, .ref a_p2]).toArray) (va_A [o8 a_p2 a_p2_body r1.1, oT 1 h x_kind x_number x_v x_caught a_steps, aI G a_p2_body 20 r1.2] H.size) := by
    have hM := c_X0_lands l G 1 (by decide) a_p2 a_p2_body h a_steps r1.1 x_kind x_number x_v x_caught r1.2 l1 r3.1 r3.2.1 r3.2.2 hc4 H.size
    exact va_runSU (As := [.int l1, .ref a_p2]) (rest := []) (hK.1 1 (RX1, TX1, 5) rfl).2 ⟨hx, hb, hml, hown, hts⟩ hM (va_cwSU 2 hts gX1_lands_X0_lands_s32 rfl rfl rfl (by decide +kernel) ⟨Nat.le_of_ble_eq_true rfl, Nat.le_of_ble_eq_true rfl⟩) (cp_V hK hE hS hPc hDc hFc (va_recv hK hPc (ci := 1) (q0 := 1) rfl rfl)) rfl rfl hl.1 rfl (lv_room (Nat.le_of_ble_eq_true rfl)) dX1_lands_9 ⟨Nat.zero_le _, Nat.zero_le _⟩
  refine cl_i (w1 := [o8 a_p2 a_p2_body r3.2.1, oT 1 h x_kind x_number x_v x_caught a_steps, aI G a_p2_body 20 r3.2.2]) (ws' := [o8 a_p2 a_p2_body r3.2.1, oT 1 h x_kind x_number x_v x_caught a_steps, aI G a_p2_body 20 r3.2.2]) hP hD hS hFc [0, 1, 2] rfl rfl rfl hrun (fun H locs hP hD hS => ?_)
  refine lv_aload_n hx hb dX1_lands_12 rfl (lv_at hl 0 rfl) ?_
  refine va_get (D := G.1) (ci := 1) (v := .int x_v) (C := RX1) (T := TX1) (N := 5) hx hb hts hin1 hown hK hP 1 rfl rfl 2 (by decide) lk_17 (fun x9 h9 => u_same (hts (.sameField "HeadsByHair$Fallen" "HeadsByHair$Throw" "v" "I") (by decide +kernel)) x9 h9) rfl dX1_lands_13 ?_
  refine lv_iadd hx hb dX1_lands_16 ?_
  injection hF with hz
  injection hz with hq0 hz
  injection hz with hq1 hz
  subst hq0
  subst hq1
  subst hz
  exact cm_reti hx hb hr rfl hlk hK hP hD hS dX1_lands_17
/-! HeadsByHair$Throw.leans(ILHeadsByHair$Trace;)I -/
abbrev rm_X7_leans : Room := { frames := 7, cells := 0, slots := 0, locals := 153 }
set_option maxHeartbeats 4000000 in
set_option maxRecDepth 100000 in
theorem c_X7_leans (l : Launch) (G : GG) (ct : Nat) (hct : ct = 0 ∨ ct = 1 ∨ ct = 4 ∨ ct = 5 ∨ ct = 7 ∨ ct = 9 ∨ ct = 10) (a_p2 a_p2_body h a_steps : Nat) (x_p2_ran x_kind x_number x_v x_caught : Int32) (f_p2_body : Nat → Int32) (l1 : Int32) (z : Int32) (z_x_p2_ran : Int32) (z_f_p2_body : Nat → Int32) (hF : fX7_leans ct x_p2_ran x_number x_v f_p2_body l1 = some (z, z_x_p2_ran, z_f_p2_body)) : CMi l yX7_leans wsX7_leans rm_X7_leans G [o8 a_p2 a_p2_body x_p2_ran, oT ct h x_kind x_number x_v x_caught a_steps, aI G a_p2_body 20 f_p2_body] [o8 a_p2 a_p2_body z_x_p2_ran, oT ct h x_kind x_number x_v x_caught a_steps, aI G a_p2_body 20 z_f_p2_body] [.ref h, .int l1, .ref a_p2] z := by
  refine cm_start (cc := cX7_leans) (maxL := 3) (ret := (some .int)) (Qc := fun A => QI G [o8 a_p2 a_p2_body z_x_p2_ran, oT ct h x_kind x_number x_v x_caught a_steps, aI G a_p2_body 20 z_f_p2_body] z A) (by decide +kernel) rfl (Nat.le_of_ble_eq_true rfl) ?_
  intro p e s m args below meth c A hx hb hr hlk hml hown hnm hts hA H locs hP hK hD hE hS ls hl
  have hown : s.vm.findClass RX7 = some m.cls := hown
  have hl : lv_has ls 3 [(0, .ref h), (1, .int l1), (2, .ref a_p2)] := hl
  revert hF
  intro hF
  unfold fX7_leans at hF
  refine lv_aload_n hx hb dX7_leans_0 rfl (lv_at hl 2 rfl) ?_
  refine lv_iconst (v := 3) hx hb dX7_leans_1 (by decide) ?_
  obtain ⟨r1, hc2, hF⟩ := bd_some hF
  have hPc := hP.sub (ws' := [o8 a_p2 a_p2_body x_p2_ran, aI G a_p2_body 20 f_p2_body]) [0, 2] rfl
  have hDc := hD.sub (ws' := [o8 a_p2 a_p2_body x_p2_ran, aI G a_p2_body 20 f_p2_body]) [0, 2] (by decide) rfl
  have hFc := va_free (wc := [o8 a_p2 a_p2_body x_p2_ran, aI G a_p2_body 20 f_p2_body]) hD hS hA [0, 2] rfl
  have hM := c_X8_began l G a_p2 a_p2_body x_p2_ran f_p2_body (3 : Int32) r1.1 r1.2 hc2 H.size
  refine cl_v (w1 := [o8 a_p2 a_p2_body r1.1, aI G a_p2_body 20 r1.2]) (ws' := [o8 a_p2 a_p2_body r1.1, oT ct h x_kind x_number x_v x_caught a_steps, aI G a_p2_body 20 r1.2]) hP hD hS hFc [0, 2] rfl rfl rfl (va_runVN (As := [.int 3]) (rest := []) ⟨hx, hb, hml, hown, hts⟩ hM ⟨va_cnB 1 hts gX7_leans_X8_began_n39 rfl rfl rfl (hE.nw (.methodLinkNest RX7 39 yX8_began "HeadsByHair") (by decide +kernel)) (hts (.initialized RX8) (by decide +kernel)) (by decide +kernel) ⟨Nat.le_of_ble_eq_true rfl, Nat.le_of_ble_eq_true rfl⟩, hts (.instanceMethod yX8_began) (by decide +kernel), hts (.selects RX8 yX8_began yX8_began) (by decide +kernel)⟩ (cp_V hK hE hS hPc hDc hFc (va_recv hK hPc (ci := 8) (q0 := 0) rfl rfl)) rfl rfl hl.1 rfl (lv_room (Nat.le_of_ble_eq_true rfl)) dX7_leans_2 ⟨Nat.zero_le _, Nat.zero_le _⟩) (fun H locs hP hD hS => ?_)
  refine lv_aload_n hx hb dX7_leans_5 rfl (lv_at hl 0 rfl) ?_
  refine lv_iload_n hx hb dX7_leans_6 rfl (lv_at hl 1 rfl) ?_
  refine lv_aload_n hx hb dX7_leans_7 rfl (lv_at hl 2 rfl) ?_
  obtain ⟨r3, hc4, hF⟩ := bd_some hF
  have hPc := hP.sub (ws' := [o8 a_p2 a_p2_body r1.1, oT ct h x_kind x_number x_v x_caught a_steps, aI G a_p2_body 20 r1.2]) [0, 1, 2] rfl
  have hDc := hD.sub (ws' := [o8 a_p2 a_p2_body r1.1, oT ct h x_kind x_number x_v x_caught a_steps, aI G a_p2_body 20 r1.2]) [0, 1, 2] (by decide) rfl
  have hFc := va_free (wc := [o8 a_p2 a_p2_body r1.1, oT ct h x_kind x_number x_v x_caught a_steps, aI G a_p2_body 20 r1.2]) hD hS hA [0, 1, 2] rfl
  have hrun : va_Run p l e (rm_X7_leans) s m args below meth c H locs 0 0 0 0 (F0 m 8 ls [.ref a_p2, .int l1, .ref h]) [] (QI G [o8 a_p2 a_p2_body r3.2.1, oT ct h x_kind x_number x_v x_caught a_steps, aI G a_p2_body 20 r3.2.2] r3.1 (va_A [o8 a_p2 a_p2_body r1.1, oT ct h x_kind x_number x_v x_caught a_steps, aI G a_p2_body 20 r1.2] H.size) (Value.ref h :: [.int l1, .ref a_p2]).toArray) (va_A [o8 a_p2 a_p2_body r1.1, oT ct h x_kind x_number x_v x_caught a_steps, aI G a_p2_body 20 r1.2] H.size) := by
    rcases hct with rfl | rfl | rfl | rfl | rfl | rfl | rfl
    · have hM := c_X0_lands l G 0 (by decide) a_p2 a_p2_body h a_steps r1.1 x_kind x_number x_v x_caught r1.2 l1 r3.1 r3.2.1 r3.2.2 (show fX0_lands 0 r1.1 x_number x_v r1.2 l1 = some (r3.1, r3.2.1, r3.2.2) from hc4) H.size
      exact va_runU (As := [.int l1, .ref a_p2]) (rest := []) ⟨hx, hb, hml, hown, hts⟩ hM (va_cwO 2 hts gX7_leans_X0_lands_u49X0 rfl rfl rfl (b0 := cX7_lands) (m0 := 3) (r0 := (some .int)) (by decide +kernel) (by decide +kernel) ⟨Nat.le_of_ble_eq_true rfl, Nat.le_of_ble_eq_true rfl⟩) (cp_V hK hE hS hPc hDc hFc (va_recv hK hPc (ci := 0) (q0 := 1) rfl rfl)) rfl rfl hl.1 rfl (lv_room (Nat.le_of_ble_eq_true rfl)) dX7_leans_8 ⟨Nat.zero_le _, Nat.zero_le _⟩
    · have hM := c_X1_lands l G a_p2 a_p2_body h a_steps r1.1 x_kind x_number x_v x_caught r1.2 l1 r3.1 r3.2.1 r3.2.2 (show fX1_lands r1.1 x_number x_v r1.2 l1 = some (r3.1, r3.2.1, r3.2.2) from hc4) H.size
      exact va_runU (As := [.int l1, .ref a_p2]) (rest := []) ⟨hx, hb, hml, hown, hts⟩ hM (va_cwO 2 hts gX7_leans_X1_lands_u49X1 rfl rfl rfl (b0 := cX7_lands) (m0 := 3) (r0 := (some .int)) (by decide +kernel) (by decide +kernel) ⟨Nat.le_of_ble_eq_true rfl, Nat.le_of_ble_eq_true rfl⟩) (cp_V hK hE hS hPc hDc hFc (va_recv hK hPc (ci := 1) (q0 := 1) rfl rfl)) rfl rfl hl.1 rfl (lv_room (Nat.le_of_ble_eq_true rfl)) dX7_leans_8 ⟨Nat.zero_le _, Nat.zero_le _⟩
    · have hM := c_X7_lands l G 4 (by decide) a_p2 a_p2_body h a_steps r1.1 x_kind x_number x_v x_caught r1.2 l1 r3.1 r3.2.1 r3.2.2 (show fX7_lands 4 r1.1 x_number x_v r1.2 l1 = some (r3.1, r3.2.1, r3.2.2) from hc4) H.size
      exact va_runU (As := [.int l1, .ref a_p2]) (rest := []) ⟨hx, hb, hml, hown, hts⟩ hM (va_cwU 2 hts gX7_leans_X7_lands_u49X4 rfl rfl rfl rfl (by decide +kernel) ⟨Nat.le_of_ble_eq_true rfl, Nat.le_of_ble_eq_true rfl⟩) (cp_V hK hE hS hPc hDc hFc (va_recv hK hPc (ci := 4) (q0 := 1) rfl rfl)) rfl rfl hl.1 rfl (lv_room (Nat.le_of_ble_eq_true rfl)) dX7_leans_8 ⟨Nat.zero_le _, Nat.zero_le _⟩
    · have hM := c_X7_lands l G 5 (by decide) a_p2 a_p2_body h a_steps r1.1 x_kind x_number x_v x_caught r1.2 l1 r3.1 r3.2.1 r3.2.2 (show fX7_lands 5 r1.1 x_number x_v r1.2 l1 = some (r3.1, r3.2.1, r3.2.2) from hc4) H.size
      exact va_runU (As := [.int l1, .ref a_p2]) (rest := []) ⟨hx, hb, hml, hown, hts⟩ hM (va_cwU 2 hts gX7_leans_X7_lands_u49X5 rfl rfl rfl rfl (by decide +kernel) ⟨Nat.le_of_ble_eq_true rfl, Nat.le_of_ble_eq_true rfl⟩) (cp_V hK hE hS hPc hDc hFc (va_recv hK hPc (ci := 5) (q0 := 1) rfl rfl)) rfl rfl hl.1 rfl (lv_room (Nat.le_of_ble_eq_true rfl)) dX7_leans_8 ⟨Nat.zero_le _, Nat.zero_le _⟩
    · have hM := c_X7_lands l G 7 (by decide) a_p2 a_p2_body h a_steps r1.1 x_kind x_number x_v x_caught r1.2 l1 r3.1 r3.2.1 r3.2.2 (show fX7_lands 7 r1.1 x_number x_v r1.2 l1 = some (r3.1, r3.2.1, r3.2.2) from hc4) H.size
      exact va_runV (As := [.int l1, .ref a_p2]) (rest := []) ⟨hx, hb, hml, hown, hts⟩ hM (cwV 2 hts gX7_leans_X7_lands rfl rfl rfl (by decide +kernel) ⟨Nat.le_of_ble_eq_true rfl, Nat.le_of_ble_eq_true rfl⟩) (cp_V hK hE hS hPc hDc hFc (va_recv hK hPc (ci := 7) (q0 := 1) rfl rfl)) rfl rfl hl.1 rfl (lv_room (Nat.le_of_ble_eq_true rfl)) dX7_leans_8 ⟨Nat.zero_le _, Nat.zero_le _⟩
    · have hM := c_X7_lands l G 9 (by decide) a_p2 a_p2_body h a_steps r1.1 x_kind x_number x_v x_caught r1.2 l1 r3.1 r3.2.1 r3.2.2 (show fX7_lands 9 r1.1 x_number x_v r1.2 l1 = some (r3.1, r3.2.1, r3.2.2) from hc4) H.size
      exact va_runU (As := [.int l1, .ref a_p2]) (rest := []) ⟨hx, hb, hml, hown, hts⟩ hM (va_cwU 2 hts gX7_leans_X7_lands_u49X9 rfl rfl rfl rfl (by decide +kernel) ⟨Nat.le_of_ble_eq_true rfl, Nat.le_of_ble_eq_true rfl⟩) (cp_V hK hE hS hPc hDc hFc (va_recv hK hPc (ci := 9) (q0 := 1) rfl rfl)) rfl rfl hl.1 rfl (lv_room (Nat.le_of_ble_eq_true rfl)) dX7_leans_8 ⟨Nat.zero_le _, Nat.zero_le _⟩
    · have hM := c_X7_lands l G 10 (by decide) a_p2 a_p2_body h a_steps r1.1 x_kind x_number x_v x_caught r1.2 l1 r3.1 r3.2.1 r3.2.2 (show fX7_lands 10 r1.1 x_number x_v r1.2 l1 = some (r3.1, r3.2.1, r3.2.2) from hc4) H.size
      exact va_runU (As := [.int l1, .ref a_p2]) (rest := []) ⟨hx, hb, hml, hown, hts⟩ hM (va_cwU 2 hts gX7_leans_X7_lands_u49X10 rfl rfl rfl rfl (by decide +kernel) ⟨Nat.le_of_ble_eq_true rfl, Nat.le_of_ble_eq_true rfl⟩) (cp_V hK hE hS hPc hDc hFc (va_recv hK hPc (ci := 10) (q0 := 1) rfl rfl)) rfl rfl hl.1 rfl (lv_room (Nat.le_of_ble_eq_true rfl)) dX7_leans_8 ⟨Nat.zero_le _, Nat.zero_le _⟩
  refine cl_i (w1 := [o8 a_p2 a_p2_body r3.2.1, oT ct h x_kind x_number x_v x_caught a_steps, aI G a_p2_body 20 r3.2.2]) (ws' := [o8 a_p2 a_p2_body r3.2.1, oT ct h x_kind x_number x_v x_caught a_steps, aI G a_p2_body 20 r3.2.2]) hP hD hS hFc [0, 1, 2] rfl rfl rfl hrun (fun H locs hP hD hS => ?_)
  refine lv_iconst (v := 2) hx hb dX7_leans_11 (by decide) ?_
  refine lv_imul hx hb dX7_leans_12 ?_
  injection hF with hz
  injection hz with hq0 hz
  injection hz with hq1 hz
  subst hq0
  subst hq1
  subst hz
  exact cm_reti hx hb hr rfl hlk hK hP hD hS dX7_leans_13
/-! HeadsByHair$Wobbling.leans(ILHeadsByHair$Trace;)I -/
abbrev rm_X10_leans : Room := { frames := 8, cells := 0, slots := 0, locals := 175 }
set_option maxHeartbeats 4000000 in
set_option maxRecDepth 100000 in
theorem c_X10_leans (l : Launch) (G : GG) (ct : Nat) (hct : ct = 4 ∨ ct = 10) (a_p2 a_p2_body h a_steps : Nat) (x_p2_ran x_kind x_number x_v x_caught : Int32) (f_p2_body : Nat → Int32) (l1 : Int32) (z : Int32) (z_x_p2_ran : Int32) (z_f_p2_body : Nat → Int32) (hF : fX10_leans ct x_p2_ran x_number x_v f_p2_body l1 = some (z, z_x_p2_ran, z_f_p2_body)) : CMi l yX10_leans wsX10_leans rm_X10_leans G [o8 a_p2 a_p2_body x_p2_ran, oT ct h x_kind x_number x_v x_caught a_steps, aI G a_p2_body 20 f_p2_body] [o8 a_p2 a_p2_body z_x_p2_ran, oT ct h x_kind x_number x_v x_caught a_steps, aI G a_p2_body 20 z_f_p2_body] [.ref h, .int l1, .ref a_p2] z := by
  refine cm_start (cc := cX10_leans) (maxL := 3) (ret := (some .int)) (Qc := fun A => QI G [o8 a_p2 a_p2_body z_x_p2_ran, oT ct h x_kind x_number x_v x_caught a_steps, aI G a_p2_body 20 z_f_p2_body] z A) (by decide +kernel) rfl (Nat.le_of_ble_eq_true rfl) ?_
  intro p e s m args below meth c A hx hb hr hlk hml hown hnm hts hA H locs hP hK hD hE hS ls hl
  have hown : s.vm.findClass RX10 = some m.cls := hown
  have hl : lv_has ls 3 [(0, .ref h), (1, .int l1), (2, .ref a_p2)] := hl
  revert hF
  intro hF
  unfold fX10_leans at hF
  refine lv_aload_n hx hb dX10_leans_0 rfl (lv_at hl 2 rfl) ?_
  refine lv_bipush (v := 41) hx hb dX10_leans_1 (by decide) ?_
  obtain ⟨r1, hc2, hF⟩ := bd_some hF
  have hPc := hP.sub (ws' := [o8 a_p2 a_p2_body x_p2_ran, aI G a_p2_body 20 f_p2_body]) [0, 2] rfl
  have hDc := hD.sub (ws' := [o8 a_p2 a_p2_body x_p2_ran, aI G a_p2_body 20 f_p2_body]) [0, 2] (by decide) rfl
  have hFc := va_free (wc := [o8 a_p2 a_p2_body x_p2_ran, aI G a_p2_body 20 f_p2_body]) hD hS hA [0, 2] rfl
  have hM := c_X8_began l G a_p2 a_p2_body x_p2_ran f_p2_body (41 : Int32) r1.1 r1.2 hc2 H.size
  refine cl_v (w1 := [o8 a_p2 a_p2_body r1.1, aI G a_p2_body 20 r1.2]) (ws' := [o8 a_p2 a_p2_body r1.1, oT ct h x_kind x_number x_v x_caught a_steps, aI G a_p2_body 20 r1.2]) hP hD hS hFc [0, 2] rfl rfl rfl (va_runVN (As := [.int 41]) (rest := []) ⟨hx, hb, hml, hown, hts⟩ hM ⟨va_cnB 1 hts gX10_leans_X8_began_n24 rfl rfl rfl (hE.nw (.methodLinkNest RX10 24 yX8_began "HeadsByHair") (by decide +kernel)) (hts (.initialized RX8) (by decide +kernel)) (by decide +kernel) ⟨Nat.le_of_ble_eq_true rfl, Nat.le_of_ble_eq_true rfl⟩, hts (.instanceMethod yX8_began) (by decide +kernel), hts (.selects RX8 yX8_began yX8_began) (by decide +kernel)⟩ (cp_V hK hE hS hPc hDc hFc (va_recv hK hPc (ci := 8) (q0 := 0) rfl rfl)) rfl rfl hl.1 rfl (lv_room (Nat.le_of_ble_eq_true rfl)) dX10_leans_3 ⟨Nat.zero_le _, Nat.zero_le _⟩) (fun H locs hP hD hS => ?_)
  refine lv_aload_n hx hb dX10_leans_6 rfl (lv_at hl 0 rfl) ?_
  refine lv_iload_n hx hb dX10_leans_7 rfl (lv_at hl 1 rfl) ?_
  refine lv_iconst (v := 1) hx hb dX10_leans_8 (by decide) ?_
  refine lv_isub hx hb dX10_leans_9 ?_
  refine lv_aload_n hx hb dX10_leans_10 rfl (lv_at hl 2 rfl) ?_
  obtain ⟨r3, hc4, hF⟩ := bd_some hF
  have hPc := hP.sub (ws' := [o8 a_p2 a_p2_body r1.1, oT ct h x_kind x_number x_v x_caught a_steps, aI G a_p2_body 20 r1.2]) [0, 1, 2] rfl
  have hDc := hD.sub (ws' := [o8 a_p2 a_p2_body r1.1, oT ct h x_kind x_number x_v x_caught a_steps, aI G a_p2_body 20 r1.2]) [0, 1, 2] (by decide) rfl
  have hFc := va_free (wc := [o8 a_p2 a_p2_body r1.1, oT ct h x_kind x_number x_v x_caught a_steps, aI G a_p2_body 20 r1.2]) hD hS hA [0, 1, 2] rfl
  have hrun : va_Run p l e (rm_X10_leans) s m args below meth c H locs 0 0 0 0 (F0 m 11 ls [.ref a_p2, .int (l1 - 1), .ref h]) [] (QI G [o8 a_p2 a_p2_body r3.2.1, oT ct h x_kind x_number x_v x_caught a_steps, aI G a_p2_body 20 r3.2.2] r3.1 (va_A [o8 a_p2 a_p2_body r1.1, oT ct h x_kind x_number x_v x_caught a_steps, aI G a_p2_body 20 r1.2] H.size) (Value.ref h :: [.int (l1 - 1), .ref a_p2]).toArray) (va_A [o8 a_p2 a_p2_body r1.1, oT ct h x_kind x_number x_v x_caught a_steps, aI G a_p2_body 20 r1.2] H.size) := by
    rcases hct with rfl | rfl
    · have hM := c_X7_leans l G 4 (by decide) a_p2 a_p2_body h a_steps r1.1 x_kind x_number x_v x_caught r1.2 (l1 - 1) r3.1 r3.2.1 r3.2.2 hc4 H.size
      exact sq_runU (n := 2) (owner := RX7) (x := ⟨RX9, "leans", "(ILHeadsByHair$Trace;)I"⟩) (bytes := cX7_leans) (maxL := 3) (ret := (some .int)) (As := [.int (l1 - 1), .ref a_p2]) (rest := []) (hK.1 4 (RX4, TX4, 5) rfl).2 ⟨hx, hb, hml, hown, hts⟩ hM rfl rfl rfl ⟨Nat.le_of_ble_eq_true rfl, Nat.le_of_ble_eq_true rfl⟩ (ev_ws hE ev_X7_leans (by decide +kernel)) (by decide +kernel) (va_Nw.use rfl (hE.nw (.code yX7_leans cX7_leans 3 (some .int)) (ev_X7_leans _ (by decide +kernel)))) (va_Nw.use rfl (hE.nw (.methodLink RX10 30 ⟨RX9, "leans", "(ILHeadsByHair$Trace;)I"⟩) (nw_upin _ (by decide +kernel)))) (va_Nw.use rfl (hE.nw (.sameMethod RX9 RX7 "leans" "(ILHeadsByHair$Trace;)I") (nw_upin _ (by decide +kernel)))) (va_Nw.use rfl (hE.nw (.superclass RX10 RX9) (nw_upin _ (by decide +kernel)))) (va_Nw.use rfl (hE.nw (.superclass RX9 RX7) (nw_upin _ (by decide +kernel)))) (va_Nw.use rfl (hE.nw (.instanceMethod yX7_leans) (nw_upin _ (by decide +kernel)))) (va_Nw.use rfl (hE.nw (.initialized RX7) (nw_upin _ (by decide +kernel)))) (by decide +kernel) (cp_V hK hE hS hPc hDc hFc (va_recv hK hPc (ci := 4) (q0 := 1) rfl rfl)) rfl rfl hl.1 rfl (lv_room (Nat.le_of_ble_eq_true rfl)) dX10_leans_11 ⟨Nat.zero_le _, Nat.zero_le _⟩
    · have hM := c_X7_leans l G 10 (by decide) a_p2 a_p2_body h a_steps r1.1 x_kind x_number x_v x_caught r1.2 (l1 - 1) r3.1 r3.2.1 r3.2.2 hc4 H.size
      exact sq_runU (n := 2) (owner := RX7) (x := ⟨RX9, "leans", "(ILHeadsByHair$Trace;)I"⟩) (bytes := cX7_leans) (maxL := 3) (ret := (some .int)) (As := [.int (l1 - 1), .ref a_p2]) (rest := []) (hK.1 10 (RX10, TX10, 5) rfl).2 ⟨hx, hb, hml, hown, hts⟩ hM rfl rfl rfl ⟨Nat.le_of_ble_eq_true rfl, Nat.le_of_ble_eq_true rfl⟩ (ev_ws hE ev_X7_leans (by decide +kernel)) (by decide +kernel) (va_Nw.use rfl (hE.nw (.code yX7_leans cX7_leans 3 (some .int)) (ev_X7_leans _ (by decide +kernel)))) (va_Nw.use rfl (hE.nw (.methodLink RX10 30 ⟨RX9, "leans", "(ILHeadsByHair$Trace;)I"⟩) (nw_upin _ (by decide +kernel)))) (va_Nw.use rfl (hE.nw (.sameMethod RX9 RX7 "leans" "(ILHeadsByHair$Trace;)I") (nw_upin _ (by decide +kernel)))) (va_Nw.use rfl (hE.nw (.superclass RX10 RX9) (nw_upin _ (by decide +kernel)))) (va_Nw.use rfl (hE.nw (.superclass RX9 RX7) (nw_upin _ (by decide +kernel)))) (va_Nw.use rfl (hE.nw (.instanceMethod yX7_leans) (nw_upin _ (by decide +kernel)))) (va_Nw.use rfl (hE.nw (.initialized RX7) (nw_upin _ (by decide +kernel)))) (by decide +kernel) (cp_V hK hE hS hPc hDc hFc (va_recv hK hPc (ci := 10) (q0 := 1) rfl rfl)) rfl rfl hl.1 rfl (lv_room (Nat.le_of_ble_eq_true rfl)) dX10_leans_11 ⟨Nat.zero_le _, Nat.zero_le _⟩
  refine cl_i (w1 := [o8 a_p2 a_p2_body r3.2.1, oT ct h x_kind x_number x_v x_caught a_steps, aI G a_p2_body 20 r3.2.2]) (ws' := [o8 a_p2 a_p2_body r3.2.1, oT ct h x_kind x_number x_v x_caught a_steps, aI G a_p2_body 20 r3.2.2]) hP hD hS hFc [0, 1, 2] rfl rfl rfl hrun (fun H locs hP hD hS => ?_)
  refine lv_aload_n hx hb dX10_leans_14 rfl (lv_at hl 0 rfl) ?_
  refine lv_iconst (v := 2) hx hb dX10_leans_15 (by decide) ?_
  refine lv_aload_n hx hb dX10_leans_16 rfl (lv_at hl 2 rfl) ?_
  obtain ⟨r5, hc6, hF⟩ := bd_some hF
  have hPc := hP.sub (ws' := [o8 a_p2 a_p2_body r3.2.1, oT ct h x_kind x_number x_v x_caught a_steps, aI G a_p2_body 20 r3.2.2]) [0, 1, 2] rfl
  have hDc := hD.sub (ws' := [o8 a_p2 a_p2_body r3.2.1, oT ct h x_kind x_number x_v x_caught a_steps, aI G a_p2_body 20 r3.2.2]) [0, 1, 2] (by decide) rfl
  have hFc := va_free (wc := [o8 a_p2 a_p2_body r3.2.1, oT ct h x_kind x_number x_v x_caught a_steps, aI G a_p2_body 20 r3.2.2]) hD hS hA [0, 1, 2] rfl
  have hrun : va_Run p l e (rm_X10_leans) s m args below meth c H locs 0 0 0 0 (F0 m 17 ls [.ref a_p2, .int 2, .ref h, .int r3.1]) [.int r3.1] (QI G [o8 a_p2 a_p2_body r5.2.1, oT ct h x_kind x_number x_v x_caught a_steps, aI G a_p2_body 20 r5.2.2] r5.1 (va_A [o8 a_p2 a_p2_body r3.2.1, oT ct h x_kind x_number x_v x_caught a_steps, aI G a_p2_body 20 r3.2.2] H.size) (Value.ref h :: [.int 2, .ref a_p2]).toArray) (va_A [o8 a_p2 a_p2_body r3.2.1, oT ct h x_kind x_number x_v x_caught a_steps, aI G a_p2_body 20 r3.2.2] H.size) := by
    rcases hct with rfl | rfl
    · have hM := c_X4_turns l G a_p2 a_p2_body h a_steps r3.2.1 x_kind x_number x_v x_caught r3.2.2 (2 : Int32) r5.1 r5.2.1 r5.2.2 (show fX4_turns r3.2.1 x_number r3.2.2 (2 : Int32) = some (r5.1, r5.2.1, r5.2.2) from hc6) H.size
      exact va_runU (As := [.int 2, .ref a_p2]) (rest := [.int r3.1]) ⟨hx, hb, hml, hown, hts⟩ hM (va_cwO 2 hts gX10_leans_X4_turns_u34X4 rfl rfl rfl (b0 := cX9_turns) (m0 := 3) (r0 := (some .int)) (by decide +kernel) (by decide +kernel) ⟨Nat.le_of_ble_eq_true rfl, Nat.le_of_ble_eq_true rfl⟩) (cp_V hK hE hS hPc hDc hFc (va_recv hK hPc (ci := 4) (q0 := 1) rfl rfl)) rfl rfl hl.1 rfl (lv_room (Nat.le_of_ble_eq_true rfl)) dX10_leans_17 ⟨Nat.zero_le _, Nat.zero_le _⟩
    · have hM := c_X9_turns l G 10 (by decide) a_p2 a_p2_body h a_steps r3.2.1 x_kind x_number x_v x_caught r3.2.2 (2 : Int32) r5.1 r5.2.1 r5.2.2 (show fX9_turns 10 r3.2.1 x_number r3.2.2 (2 : Int32) = some (r5.1, r5.2.1, r5.2.2) from hc6) H.size
      exact va_runU (As := [.int 2, .ref a_p2]) (rest := [.int r3.1]) ⟨hx, hb, hml, hown, hts⟩ hM (va_cwU 2 hts gX10_leans_X9_turns_u34X10 rfl rfl rfl rfl (by decide +kernel) ⟨Nat.le_of_ble_eq_true rfl, Nat.le_of_ble_eq_true rfl⟩) (cp_V hK hE hS hPc hDc hFc (va_recv hK hPc (ci := 10) (q0 := 1) rfl rfl)) rfl rfl hl.1 rfl (lv_room (Nat.le_of_ble_eq_true rfl)) dX10_leans_17 ⟨Nat.zero_le _, Nat.zero_le _⟩
  refine cl_i (w1 := [o8 a_p2 a_p2_body r5.2.1, oT ct h x_kind x_number x_v x_caught a_steps, aI G a_p2_body 20 r5.2.2]) (ws' := [o8 a_p2 a_p2_body r5.2.1, oT ct h x_kind x_number x_v x_caught a_steps, aI G a_p2_body 20 r5.2.2]) hP hD hS hFc [0, 1, 2] rfl rfl rfl hrun (fun H locs hP hD hS => ?_)
  refine W.eq (g2 := F0 m 20 ls [.int r5.1, .int r3.1]) rfl ?_
  refine lv_iadd hx hb dX10_leans_20 ?_
  injection hF with hz
  injection hz with hq0 hz
  injection hz with hq1 hz
  subst hq0
  subst hq1
  subst hz
  exact cm_reti hx hb hr rfl hlk hK hP hD hS dX10_leans_21
/-! HeadsByHair$Spun.leans(ILHeadsByHair$Trace;)I -/
abbrev rm_X5_leans : Room := { frames := 8, cells := 0, slots := 0, locals := 175 }
set_option maxHeartbeats 4000000 in
set_option maxRecDepth 100000 in
theorem c_X5_leans (l : Launch) (G : GG) (a_p2 a_p2_body h a_steps : Nat) (x_p2_ran x_kind x_number x_v x_caught : Int32) (f_p2_body : Nat → Int32) (l1 : Int32) (z : Int32) (z_x_p2_ran : Int32) (z_f_p2_body : Nat → Int32) (hF : fX5_leans x_p2_ran x_number x_v f_p2_body l1 = some (z, z_x_p2_ran, z_f_p2_body)) : CMi l yX5_leans wsX5_leans rm_X5_leans G [o8 a_p2 a_p2_body x_p2_ran, oT 5 h x_kind x_number x_v x_caught a_steps, aI G a_p2_body 20 f_p2_body] [o8 a_p2 a_p2_body z_x_p2_ran, oT 5 h x_kind x_number x_v x_caught a_steps, aI G a_p2_body 20 z_f_p2_body] [.ref h, .int l1, .ref a_p2] z := by
  refine cm_start (cc := cX5_leans) (maxL := 3) (ret := (some .int)) (Qc := fun A => QI G [o8 a_p2 a_p2_body z_x_p2_ran, oT 5 h x_kind x_number x_v x_caught a_steps, aI G a_p2_body 20 z_f_p2_body] z A) (by decide +kernel) rfl (Nat.le_of_ble_eq_true rfl) ?_
  intro p e s m args below meth c A hx hb hr hlk hml hown hnm hts hA H locs hP hK hD hE hS ls hl
  have hown : s.vm.findClass RX5 = some m.cls := hown
  have hl : lv_has ls 3 [(0, .ref h), (1, .int l1), (2, .ref a_p2)] := hl
  revert hF
  intro hF
  unfold fX5_leans at hF
  refine lv_aload_n hx hb dX5_leans_0 rfl (lv_at hl 2 rfl) ?_
  refine lv_bipush (v := 31) hx hb dX5_leans_1 (by decide) ?_
  obtain ⟨r1, hc2, hF⟩ := bd_some hF
  have hPc := hP.sub (ws' := [o8 a_p2 a_p2_body x_p2_ran, aI G a_p2_body 20 f_p2_body]) [0, 2] rfl
  have hDc := hD.sub (ws' := [o8 a_p2 a_p2_body x_p2_ran, aI G a_p2_body 20 f_p2_body]) [0, 2] (by decide) rfl
  have hFc := va_free (wc := [o8 a_p2 a_p2_body x_p2_ran, aI G a_p2_body 20 f_p2_body]) hD hS hA [0, 2] rfl
  have hM := c_X8_began l G a_p2 a_p2_body x_p2_ran f_p2_body (31 : Int32) r1.1 r1.2 hc2 H.size
  refine cl_v (w1 := [o8 a_p2 a_p2_body r1.1, aI G a_p2_body 20 r1.2]) (ws' := [o8 a_p2 a_p2_body r1.1, oT 5 h x_kind x_number x_v x_caught a_steps, aI G a_p2_body 20 r1.2]) hP hD hS hFc [0, 2] rfl rfl rfl (va_runVN (As := [.int 31]) (rest := []) ⟨hx, hb, hml, hown, hts⟩ hM ⟨va_cnB 1 hts gX5_leans_X8_began_n20 rfl rfl rfl (hE.nw (.methodLinkNest RX5 20 yX8_began "HeadsByHair") (by decide +kernel)) (hts (.initialized RX8) (by decide +kernel)) (by decide +kernel) ⟨Nat.le_of_ble_eq_true rfl, Nat.le_of_ble_eq_true rfl⟩, hts (.instanceMethod yX8_began) (by decide +kernel), hts (.selects RX8 yX8_began yX8_began) (by decide +kernel)⟩ (cp_V hK hE hS hPc hDc hFc (va_recv hK hPc (ci := 8) (q0 := 0) rfl rfl)) rfl rfl hl.1 rfl (lv_room (Nat.le_of_ble_eq_true rfl)) dX5_leans_3 ⟨Nat.zero_le _, Nat.zero_le _⟩) (fun H locs hP hD hS => ?_)
  refine lv_aload_n hx hb dX5_leans_6 rfl (lv_at hl 0 rfl) ?_
  refine lv_iload_n hx hb dX5_leans_7 rfl (lv_at hl 1 rfl) ?_
  refine lv_aload_n hx hb dX5_leans_8 rfl (lv_at hl 2 rfl) ?_
  obtain ⟨r3, hc4, hF⟩ := bd_some hF
  have hPc := hP.sub (ws' := [o8 a_p2 a_p2_body r1.1, oT 5 h x_kind x_number x_v x_caught a_steps, aI G a_p2_body 20 r1.2]) [0, 1, 2] rfl
  have hDc := hD.sub (ws' := [o8 a_p2 a_p2_body r1.1, oT 5 h x_kind x_number x_v x_caught a_steps, aI G a_p2_body 20 r1.2]) [0, 1, 2] (by decide) rfl
  have hFc := va_free (wc := [o8 a_p2 a_p2_body r1.1, oT 5 h x_kind x_number x_v x_caught a_steps, aI G a_p2_body 20 r1.2]) hD hS hA [0, 1, 2] rfl
  have hrun : va_Run p l e (rm_X5_leans) s m args below meth c H locs 0 0 0 0 (F0 m 9 ls [.ref a_p2, .int l1, .ref h]) [] (QI G [o8 a_p2 a_p2_body r3.2.1, oT 5 h x_kind x_number x_v x_caught a_steps, aI G a_p2_body 20 r3.2.2] r3.1 (va_A [o8 a_p2 a_p2_body r1.1, oT 5 h x_kind x_number x_v x_caught a_steps, aI G a_p2_body 20 r1.2] H.size) (Value.ref h :: [.int l1, .ref a_p2]).toArray) (va_A [o8 a_p2 a_p2_body r1.1, oT 5 h x_kind x_number x_v x_caught a_steps, aI G a_p2_body 20 r1.2] H.size) := by
    have hM := c_X7_leans l G 5 (by decide) a_p2 a_p2_body h a_steps r1.1 x_kind x_number x_v x_caught r1.2 l1 r3.1 r3.2.1 r3.2.2 hc4 H.size
    exact va_runSU (As := [.int l1, .ref a_p2]) (rest := []) (hK.1 5 (RX5, TX5, 5) rfl).2 ⟨hx, hb, hml, hown, hts⟩ hM (va_cwSU 2 hts gX5_leans_X7_leans_s26 rfl rfl rfl (by decide +kernel) ⟨Nat.le_of_ble_eq_true rfl, Nat.le_of_ble_eq_true rfl⟩) (cp_V hK hE hS hPc hDc hFc (va_recv hK hPc (ci := 5) (q0 := 1) rfl rfl)) rfl rfl hl.1 rfl (lv_room (Nat.le_of_ble_eq_true rfl)) dX5_leans_9 ⟨Nat.zero_le _, Nat.zero_le _⟩
  refine cl_i (w1 := [o8 a_p2 a_p2_body r3.2.1, oT 5 h x_kind x_number x_v x_caught a_steps, aI G a_p2_body 20 r3.2.2]) (ws' := [o8 a_p2 a_p2_body r3.2.1, oT 5 h x_kind x_number x_v x_caught a_steps, aI G a_p2_body 20 r3.2.2]) hP hD hS hFc [0, 1, 2] rfl rfl rfl hrun (fun H locs hP hD hS => ?_)
  refine lv_bipush (v := 7) hx hb dX5_leans_12 (by decide) ?_
  refine lv_ixor hx hb dX5_leans_14 ?_
  injection hF with hz
  injection hz with hq0 hz
  injection hz with hq1 hz
  subst hq0
  subst hq1
  subst hz
  exact cm_reti hx hb hr rfl hlk hK hP hD hS dX5_leans_15