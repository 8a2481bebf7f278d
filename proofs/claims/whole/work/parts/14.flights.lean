/-! HeadsByHair.begin(LHeadsByHair$Throw;III)V -/
abbrev rm_X11_begin : Room := { frames := 0, cells := 0, slots := 0, locals := 0 }
set_option maxHeartbeats 4000000 in
set_option maxRecDepth 100000 in
theorem c_X11_begin (l : Launch) (G : GG) (c_p1 : Nat) (hc_p1 : c_p1 = 0 ∨ c_p1 = 1 ∨ c_p1 = 4 ∨ c_p1 = 5 ∨ c_p1 = 7 ∨ c_p1 = 9 ∨ c_p1 = 10) (a_p1 a_p1_steps h a_now a_kept a_reader a_flight a_latest a_now_edge a_now_bend a_now_rise a_now_wandering a_now_thrown a_now_alike a_now_law a_now_tape a_now_side : Nat) (x_p1_kind x_p1_number x_p1_v x_p1_caught x_isKept x_flight_hand x_flight_edge x_flight_bend x_flight_rise x_flight_last x_flight_tick x_flight_angle x_flight_lean x_now_coins x_now_hands x_now_laws x_now_bytes x_now_sides : Int32) (f_now_bend : Nat → Int32) (f_now_edge : Nat → Int32) (l2 : Int32) (l3 : Int32) (l4 : Int32) (z_x_flight_hand : Int32) (z_x_flight_edge : Int32) (z_x_flight_bend : Int32) (z_x_flight_rise : Int32) (z_x_flight_last : Int32) (z_x_flight_tick : Int32) (z_x_flight_angle : Int32) (z_x_flight_lean : Int32) (hF : fX11_begin c_p1 x_p1_caught x_flight_hand x_flight_edge x_flight_bend x_flight_rise x_flight_last x_flight_tick x_flight_angle x_flight_lean f_now_bend f_now_edge l2 l3 l4 = some (z_x_flight_hand, z_x_flight_edge, z_x_flight_bend, z_x_flight_rise, z_x_flight_last, z_x_flight_tick, z_x_flight_angle, z_x_flight_lean)) : CMv l yX11_begin wsX11_begin rm_X11_begin G [oT c_p1 a_p1 x_p1_kind x_p1_number x_p1_v x_p1_caught a_p1_steps, o11 h a_now a_kept x_isKept a_reader a_flight a_latest, o2 a_flight x_flight_hand x_flight_edge x_flight_bend x_flight_rise x_flight_last x_flight_tick x_flight_angle x_flight_lean, o6 a_now x_now_coins x_now_hands x_now_laws x_now_bytes x_now_sides a_now_edge a_now_bend a_now_rise a_now_wandering a_now_thrown a_now_alike a_now_law a_now_tape a_now_side, aI G a_now_bend 6 f_now_bend, aI G a_now_edge 6 f_now_edge] [oT c_p1 a_p1 x_p1_kind x_p1_number x_p1_v x_p1_caught a_p1_steps, o11 h a_now a_kept x_isKept a_reader a_flight a_latest, o2 a_flight z_x_flight_hand z_x_flight_edge z_x_flight_bend z_x_flight_rise z_x_flight_last z_x_flight_tick z_x_flight_angle z_x_flight_lean, o6 a_now x_now_coins x_now_hands x_now_laws x_now_bytes x_now_sides a_now_edge a_now_bend a_now_rise a_now_wandering a_now_thrown a_now_alike a_now_law a_now_tape a_now_side, aI G a_now_bend 6 f_now_bend, aI G a_now_edge 6 f_now_edge] [.ref h, .ref a_p1, .int l2, .int l3, .int l4] := by
  refine cm_start (cc := cX11_begin) (maxL := 5) (ret := none) (Qc := fun A => QV G [oT c_p1 a_p1 x_p1_kind x_p1_number x_p1_v x_p1_caught a_p1_steps, o11 h a_now a_kept x_isKept a_reader a_flight a_latest, o2 a_flight z_x_flight_hand z_x_flight_edge z_x_flight_bend z_x_flight_rise z_x_flight_last z_x_flight_tick z_x_flight_angle z_x_flight_lean, o6 a_now x_now_coins x_now_hands x_now_laws x_now_bytes x_now_sides a_now_edge a_now_bend a_now_rise a_now_wandering a_now_thrown a_now_alike a_now_law a_now_tape a_now_side, aI G a_now_bend 6 f_now_bend, aI G a_now_edge 6 f_now_edge] A) (by decide +kernel) rfl (Nat.le_of_ble_eq_true rfl) ?_
  intro p e s m args below meth c A hx hb hr hlk hml hown hnm hts hA H locs hP hK hD hE hS ls hl
  have hown : s.vm.findClass RX11 = some m.cls := hown
  have hl : lv_has ls 5 [(0, .ref h), (1, .ref a_p1), (2, .int l2), (3, .int l3), (4, .int l4)] := hl
  have hin11 : ∀ w ∈ wsX110, w ∈ wsX11_begin := by decide +kernel
  have hin2 : ∀ w ∈ wsX20, w ∈ wsX11_begin := by decide +kernel
  have hin6 : ∀ w ∈ wsX60, w ∈ wsX11_begin := by decide +kernel
  have hT_c_p1 : isT c_p1 := by unfold isT; omega
  have hin_c_p1 : ∀ w ∈ u_ws (tC c_p1) TX7 5, w ∈ wsX11_begin := by rcases hc_p1 with rfl | rfl | rfl | rfl | rfl | rfl | rfl <;> decide +kernel
  have lk_31 := hts (.fieldLink RX11 31 "HeadsByHair" "flight" "LHeadsByHair$Flight;") (by decide +kernel)
  have lk_269 := va_Nw.use (A := args) rfl (hE.nw (.fieldLinkNest "HeadsByHair" 269 "HeadsByHair$Flight" "hand" "I" "HeadsByHair") (by decide +kernel))
  have lk_12 := hts (.fieldLink RX11 12 "HeadsByHair" "now" "LHeadsByHair$Stock;") (by decide +kernel)
  have lk_50 := va_Nw.use (A := args) rfl (hE.nw (.fieldLinkNest "HeadsByHair" 50 "HeadsByHair$Stock" "edge" "[I" "HeadsByHair") (by decide +kernel))
  have lk_272 := va_Nw.use (A := args) rfl (hE.nw (.fieldLinkNest "HeadsByHair" 272 "HeadsByHair$Flight" "edge" "I" "HeadsByHair") (by decide +kernel))
  have lk_54 := va_Nw.use (A := args) rfl (hE.nw (.fieldLinkNest "HeadsByHair" 54 "HeadsByHair$Stock" "bend" "[I" "HeadsByHair") (by decide +kernel))
  have lk_274 := va_Nw.use (A := args) rfl (hE.nw (.fieldLinkNest "HeadsByHair" 274 "HeadsByHair$Flight" "bend" "I" "HeadsByHair") (by decide +kernel))
  have lk_276 := va_Nw.use (A := args) rfl (hE.nw (.fieldLinkNest "HeadsByHair" 276 "HeadsByHair$Flight" "rise" "I" "HeadsByHair") (by decide +kernel))
  have lk_125 := hts (.fieldLink RX11 125 "HeadsByHair$Throw" "caught" "I") (by decide +kernel)
  have lk_132 := va_Nw.use (A := args) rfl (hE.nw (.fieldLinkNest "HeadsByHair" 132 "HeadsByHair$Flight" "last" "I" "HeadsByHair") (by decide +kernel))
  have lk_278 := va_Nw.use (A := args) rfl (hE.nw (.fieldLinkNest "HeadsByHair" 278 "HeadsByHair$Flight" "tick" "I" "HeadsByHair") (by decide +kernel))
  have lk_146 := va_Nw.use (A := args) rfl (hE.nw (.fieldLinkNest "HeadsByHair" 146 "HeadsByHair$Flight" "angle" "I" "HeadsByHair") (by decide +kernel))
  have lk_281 := va_Nw.use (A := args) rfl (hE.nw (.fieldLinkNest "HeadsByHair" 281 "HeadsByHair$Flight" "lean" "I" "HeadsByHair") (by decide +kernel))
  revert hF
  intro hF
  unfold fX11_begin at hF
  refine lv_aload_n hx hb dX11_begin_0 rfl (lv_at hl 0 rfl) ?_
  refine va_get (D := G.1) (ci := 11) (v := .ref a_flight) (C := RX11) (T := TX11) (N := 6) hx hb hts hin11 hown hK hP 1 rfl rfl 4 (by decide) lk_31 (fun _ h9 => h9) rfl dX11_begin_1 ?_
  refine lv_iload_n hx hb dX11_begin_4 rfl (lv_at hl 2 rfl) ?_
  refine va_putN (D := G.1) (ci := 2) (v := .int l2) (ty := .int) (C := RX2) (T := TX2) (N := 8) hx hb hts hin2 tyX2 tyX2_ok nmX2 hown hK hP hD hS 2 rfl rfl 0 (by decide) lk_269 (fun _ h9 => h9) rfl (tyX2_ok 0 (by decide)) rfl rfl (Nat.le_of_ble_eq_true rfl) dX11_begin_5 (fun H locs hP hD hS => ?_)
  have hP : va_P G.1 vwCl [oT c_p1 a_p1 x_p1_kind x_p1_number x_p1_v x_p1_caught a_p1_steps, o11 h a_now a_kept x_isKept a_reader a_flight a_latest, o2 a_flight l2 x_flight_edge x_flight_bend x_flight_rise x_flight_last x_flight_tick x_flight_angle x_flight_lean, o6 a_now x_now_coins x_now_hands x_now_laws x_now_bytes x_now_sides a_now_edge a_now_bend a_now_rise a_now_wandering a_now_thrown a_now_alike a_now_law a_now_tape a_now_side, aI G a_now_bend 6 f_now_bend, aI G a_now_edge 6 f_now_edge] H := hP
  have hD : va_D A [oT c_p1 a_p1 x_p1_kind x_p1_number x_p1_v x_p1_caught a_p1_steps, o11 h a_now a_kept x_isKept a_reader a_flight a_latest, o2 a_flight l2 x_flight_edge x_flight_bend x_flight_rise x_flight_last x_flight_tick x_flight_angle x_flight_lean, o6 a_now x_now_coins x_now_hands x_now_laws x_now_bytes x_now_sides a_now_edge a_now_bend a_now_rise a_now_wandering a_now_thrown a_now_alike a_now_law a_now_tape a_now_side, aI G a_now_bend 6 f_now_bend, aI G a_now_edge 6 f_now_edge] := hD
  refine lv_aload_n hx hb dX11_begin_8 rfl (lv_at hl 0 rfl) ?_
  refine va_get (D := G.1) (ci := 11) (v := .ref a_flight) (C := RX11) (T := TX11) (N := 6) hx hb hts hin11 hown hK hP 1 rfl rfl 4 (by decide) lk_31 (fun _ h9 => h9) rfl dX11_begin_9 ?_
  refine lv_aload_n hx hb dX11_begin_12 rfl (lv_at hl 0 rfl) ?_
  refine va_get (D := G.1) (ci := 11) (v := .ref a_now) (C := RX11) (T := TX11) (N := 6) hx hb hts hin11 hown hK hP 1 rfl rfl 0 (by decide) lk_12 (fun _ h9 => h9) rfl dX11_begin_13 ?_
  refine va_getN (D := G.1) (ci := 6) (v := .ref a_now_edge) (C := RX6) (T := TX6) (N := 14) hx hb hts hin6 hown hK hP 3 rfl rfl 5 (by decide) lk_50 (fun _ h9 => h9) rfl dX11_begin_16 ?_
  refine lv_iload_n hx hb dX11_begin_19 rfl (lv_at hl 3 rfl) ?_
  obtain ⟨hi1, hF⟩ := ck_some hF
  refine va_iald (D := G.1) hx hb hK hP 5 0 rfl rfl hi1 dX11_begin_20 ?_
  refine va_putN (D := G.1) (ci := 2) (v := .int (f_now_edge l3.toNatClampNeg)) (ty := .int) (C := RX2) (T := TX2) (N := 8) hx hb hts hin2 tyX2 tyX2_ok nmX2 hown hK hP hD hS 2 rfl rfl 1 (by decide) lk_272 (fun _ h9 => h9) rfl (tyX2_ok 1 (by decide)) rfl rfl (Nat.le_of_ble_eq_true rfl) dX11_begin_21 (fun H locs hP hD hS => ?_)
  have hP : va_P G.1 vwCl [oT c_p1 a_p1 x_p1_kind x_p1_number x_p1_v x_p1_caught a_p1_steps, o11 h a_now a_kept x_isKept a_reader a_flight a_latest, o2 a_flight l2 (f_now_edge l3.toNatClampNeg) x_flight_bend x_flight_rise x_flight_last x_flight_tick x_flight_angle x_flight_lean, o6 a_now x_now_coins x_now_hands x_now_laws x_now_bytes x_now_sides a_now_edge a_now_bend a_now_rise a_now_wandering a_now_thrown a_now_alike a_now_law a_now_tape a_now_side, aI G a_now_bend 6 f_now_bend, aI G a_now_edge 6 f_now_edge] H := hP
  have hD : va_D A [oT c_p1 a_p1 x_p1_kind x_p1_number x_p1_v x_p1_caught a_p1_steps, o11 h a_now a_kept x_isKept a_reader a_flight a_latest, o2 a_flight l2 (f_now_edge l3.toNatClampNeg) x_flight_bend x_flight_rise x_flight_last x_flight_tick x_flight_angle x_flight_lean, o6 a_now x_now_coins x_now_hands x_now_laws x_now_bytes x_now_sides a_now_edge a_now_bend a_now_rise a_now_wandering a_now_thrown a_now_alike a_now_law a_now_tape a_now_side, aI G a_now_bend 6 f_now_bend, aI G a_now_edge 6 f_now_edge] := hD
  refine lv_aload_n hx hb dX11_begin_24 rfl (lv_at hl 0 rfl) ?_
  refine W.eq (g2 := F0 m 25 ls [.ref h]) rfl ?_
  refine va_get (D := G.1) (ci := 11) (v := .ref a_flight) (C := RX11) (T := TX11) (N := 6) hx hb hts hin11 hown hK hP 1 rfl rfl 4 (by decide) lk_31 (fun _ h9 => h9) rfl dX11_begin_25 ?_
  refine lv_aload_n hx hb dX11_begin_28 rfl (lv_at hl 0 rfl) ?_
  refine va_get (D := G.1) (ci := 11) (v := .ref a_now) (C := RX11) (T := TX11) (N := 6) hx hb hts hin11 hown hK hP 1 rfl rfl 0 (by decide) lk_12 (fun _ h9 => h9) rfl dX11_begin_29 ?_
  refine va_getN (D := G.1) (ci := 6) (v := .ref a_now_bend) (C := RX6) (T := TX6) (N := 14) hx hb hts hin6 hown hK hP 3 rfl rfl 6 (by decide) lk_54 (fun _ h9 => h9) rfl dX11_begin_32 ?_
  refine lv_iload_n hx hb dX11_begin_35 rfl (lv_at hl 3 rfl) ?_
  refine va_iald (D := G.1) hx hb hK hP 4 0 rfl rfl hi1 dX11_begin_36 ?_
  refine va_putN (D := G.1) (ci := 2) (v := .int (f_now_bend l3.toNatClampNeg)) (ty := .int) (C := RX2) (T := TX2) (N := 8) hx hb hts hin2 tyX2 tyX2_ok nmX2 hown hK hP hD hS 2 rfl rfl 2 (by decide) lk_274 (fun _ h9 => h9) rfl (tyX2_ok 2 (by decide)) rfl rfl (Nat.le_of_ble_eq_true rfl) dX11_begin_37 (fun H locs hP hD hS => ?_)
  have hP : va_P G.1 vwCl [oT c_p1 a_p1 x_p1_kind x_p1_number x_p1_v x_p1_caught a_p1_steps, o11 h a_now a_kept x_isKept a_reader a_flight a_latest, o2 a_flight l2 (f_now_edge l3.toNatClampNeg) (f_now_bend l3.toNatClampNeg) x_flight_rise x_flight_last x_flight_tick x_flight_angle x_flight_lean, o6 a_now x_now_coins x_now_hands x_now_laws x_now_bytes x_now_sides a_now_edge a_now_bend a_now_rise a_now_wandering a_now_thrown a_now_alike a_now_law a_now_tape a_now_side, aI G a_now_bend 6 f_now_bend, aI G a_now_edge 6 f_now_edge] H := hP
  have hD : va_D A [oT c_p1 a_p1 x_p1_kind x_p1_number x_p1_v x_p1_caught a_p1_steps, o11 h a_now a_kept x_isKept a_reader a_flight a_latest, o2 a_flight l2 (f_now_edge l3.toNatClampNeg) (f_now_bend l3.toNatClampNeg) x_flight_rise x_flight_last x_flight_tick x_flight_angle x_flight_lean, o6 a_now x_now_coins x_now_hands x_now_laws x_now_bytes x_now_sides a_now_edge a_now_bend a_now_rise a_now_wandering a_now_thrown a_now_alike a_now_law a_now_tape a_now_side, aI G a_now_bend 6 f_now_bend, aI G a_now_edge 6 f_now_edge] := hD
  refine lv_aload_n hx hb dX11_begin_40 rfl (lv_at hl 0 rfl) ?_
  refine va_get (D := G.1) (ci := 11) (v := .ref a_flight) (C := RX11) (T := TX11) (N := 6) hx hb hts hin11 hown hK hP 1 rfl rfl 4 (by decide) lk_31 (fun _ h9 => h9) rfl dX11_begin_41 ?_
  refine lv_iload hx hb dX11_begin_44 (lv_at hl 4 rfl) ?_
  refine va_putN (D := G.1) (ci := 2) (v := .int l4) (ty := .int) (C := RX2) (T := TX2) (N := 8) hx hb hts hin2 tyX2 tyX2_ok nmX2 hown hK hP hD hS 2 rfl rfl 3 (by decide) lk_276 (fun _ h9 => h9) rfl (tyX2_ok 3 (by decide)) rfl rfl (Nat.le_of_ble_eq_true rfl) dX11_begin_46 (fun H locs hP hD hS => ?_)
  have hP : va_P G.1 vwCl [oT c_p1 a_p1 x_p1_kind x_p1_number x_p1_v x_p1_caught a_p1_steps, o11 h a_now a_kept x_isKept a_reader a_flight a_latest, o2 a_flight l2 (f_now_edge l3.toNatClampNeg) (f_now_bend l3.toNatClampNeg) l4 x_flight_last x_flight_tick x_flight_angle x_flight_lean, o6 a_now x_now_coins x_now_hands x_now_laws x_now_bytes x_now_sides a_now_edge a_now_bend a_now_rise a_now_wandering a_now_thrown a_now_alike a_now_law a_now_tape a_now_side, aI G a_now_bend 6 f_now_bend, aI G a_now_edge 6 f_now_edge] H := hP
  have hD : va_D A [oT c_p1 a_p1 x_p1_kind x_p1_number x_p1_v x_p1_caught a_p1_steps, o11 h a_now a_kept x_isKept a_reader a_flight a_latest, o2 a_flight l2 (f_now_edge l3.toNatClampNeg) (f_now_bend l3.toNatClampNeg) l4 x_flight_last x_flight_tick x_flight_angle x_flight_lean, o6 a_now x_now_coins x_now_hands x_now_laws x_now_bytes x_now_sides a_now_edge a_now_bend a_now_rise a_now_wandering a_now_thrown a_now_alike a_now_law a_now_tape a_now_side, aI G a_now_bend 6 f_now_bend, aI G a_now_edge 6 f_now_edge] := hD
  refine lv_aload_n hx hb dX11_begin_49 rfl (lv_at hl 0 rfl) ?_
  refine va_get (D := G.1) (ci := 11) (v := .ref a_flight) (C := RX11) (T := TX11) (N := 6) hx hb hts hin11 hown hK hP 1 rfl rfl 4 (by decide) lk_31 (fun _ h9 => h9) rfl dX11_begin_50 ?_
  refine lv_iload hx hb dX11_begin_53 (lv_at hl 4 rfl) ?_
  refine W.eq (g2 := F0 m 55 ls [.int l4, .ref a_flight]) rfl ?_
  refine lv_aload_n hx hb dX11_begin_55 rfl (lv_at hl 1 rfl) ?_
  refine va_get (D := G.1) (ci := c_p1) (v := .int x_p1_caught) (C := tC c_p1) (T := TX7) (N := 5) hx hb hts hin_c_p1 hown hK hP 0 rfl (tC_at hT_c_p1) 3 (by decide) lk_125 (fun _ h9 => h9) rfl dX11_begin_56 ?_
  refine lv_iadd hx hb dX11_begin_59 ?_
  refine va_putN (D := G.1) (ci := 2) (v := .int (l4 + x_p1_caught)) (ty := .int) (C := RX2) (T := TX2) (N := 8) hx hb hts hin2 tyX2 tyX2_ok nmX2 hown hK hP hD hS 2 rfl rfl 4 (by decide) lk_132 (fun _ h9 => h9) rfl (tyX2_ok 4 (by decide)) rfl rfl (Nat.le_of_ble_eq_true rfl) dX11_begin_60 (fun H locs hP hD hS => ?_)
  have hP : va_P G.1 vwCl [oT c_p1 a_p1 x_p1_kind x_p1_number x_p1_v x_p1_caught a_p1_steps, o11 h a_now a_kept x_isKept a_reader a_flight a_latest, o2 a_flight l2 (f_now_edge l3.toNatClampNeg) (f_now_bend l3.toNatClampNeg) l4 (l4 + x_p1_caught) x_flight_tick x_flight_angle x_flight_lean, o6 a_now x_now_coins x_now_hands x_now_laws x_now_bytes x_now_sides a_now_edge a_now_bend a_now_rise a_now_wandering a_now_thrown a_now_alike a_now_law a_now_tape a_now_side, aI G a_now_bend 6 f_now_bend, aI G a_now_edge 6 f_now_edge] H := hP
  have hD : va_D A [oT c_p1 a_p1 x_p1_kind x_p1_number x_p1_v x_p1_caught a_p1_steps, o11 h a_now a_kept x_isKept a_reader a_flight a_latest, o2 a_flight l2 (f_now_edge l3.toNatClampNeg) (f_now_bend l3.toNatClampNeg) l4 (l4 + x_p1_caught) x_flight_tick x_flight_angle x_flight_lean, o6 a_now x_now_coins x_now_hands x_now_laws x_now_bytes x_now_sides a_now_edge a_now_bend a_now_rise a_now_wandering a_now_thrown a_now_alike a_now_law a_now_tape a_now_side, aI G a_now_bend 6 f_now_bend, aI G a_now_edge 6 f_now_edge] := hD
  refine lv_aload_n hx hb dX11_begin_63 rfl (lv_at hl 0 rfl) ?_
  refine va_get (D := G.1) (ci := 11) (v := .ref a_flight) (C := RX11) (T := TX11) (N := 6) hx hb hts hin11 hown hK hP 1 rfl rfl 4 (by decide) lk_31 (fun _ h9 => h9) rfl dX11_begin_64 ?_
  refine lv_iconst (v := 0) hx hb dX11_begin_67 (by decide) ?_
  refine va_putN (D := G.1) (ci := 2) (v := .int 0) (ty := .int) (C := RX2) (T := TX2) (N := 8) hx hb hts hin2 tyX2 tyX2_ok nmX2 hown hK hP hD hS 2 rfl rfl 5 (by decide) lk_278 (fun _ h9 => h9) rfl (tyX2_ok 5 (by decide)) rfl rfl (Nat.le_of_ble_eq_true rfl) dX11_begin_68 (fun H locs hP hD hS => ?_)
  have hP : va_P G.1 vwCl [oT c_p1 a_p1 x_p1_kind x_p1_number x_p1_v x_p1_caught a_p1_steps, o11 h a_now a_kept x_isKept a_reader a_flight a_latest, o2 a_flight l2 (f_now_edge l3.toNatClampNeg) (f_now_bend l3.toNatClampNeg) l4 (l4 + x_p1_caught) 0 x_flight_angle x_flight_lean, o6 a_now x_now_coins x_now_hands x_now_laws x_now_bytes x_now_sides a_now_edge a_now_bend a_now_rise a_now_wandering a_now_thrown a_now_alike a_now_law a_now_tape a_now_side, aI G a_now_bend 6 f_now_bend, aI G a_now_edge 6 f_now_edge] H := hP
  have hD : va_D A [oT c_p1 a_p1 x_p1_kind x_p1_number x_p1_v x_p1_caught a_p1_steps, o11 h a_now a_kept x_isKept a_reader a_flight a_latest, o2 a_flight l2 (f_now_edge l3.toNatClampNeg) (f_now_bend l3.toNatClampNeg) l4 (l4 + x_p1_caught) 0 x_flight_angle x_flight_lean, o6 a_now x_now_coins x_now_hands x_now_laws x_now_bytes x_now_sides a_now_edge a_now_bend a_now_rise a_now_wandering a_now_thrown a_now_alike a_now_law a_now_tape a_now_side, aI G a_now_bend 6 f_now_bend, aI G a_now_edge 6 f_now_edge] := hD
  refine lv_aload_n hx hb dX11_begin_71 rfl (lv_at hl 0 rfl) ?_
  refine va_get (D := G.1) (ci := 11) (v := .ref a_flight) (C := RX11) (T := TX11) (N := 6) hx hb hts hin11 hown hK hP 1 rfl rfl 4 (by decide) lk_31 (fun _ h9 => h9) rfl dX11_begin_72 ?_
  refine lv_iconst (v := 0) hx hb dX11_begin_75 (by decide) ?_
  refine va_putN (D := G.1) (ci := 2) (v := .int 0) (ty := .int) (C := RX2) (T := TX2) (N := 8) hx hb hts hin2 tyX2 tyX2_ok nmX2 hown hK hP hD hS 2 rfl rfl 6 (by decide) lk_146 (fun _ h9 => h9) rfl (tyX2_ok 6 (by decide)) rfl rfl (Nat.le_of_ble_eq_true rfl) dX11_begin_76 (fun H locs hP hD hS => ?_)
  have hP : va_P G.1 vwCl [oT c_p1 a_p1 x_p1_kind x_p1_number x_p1_v x_p1_caught a_p1_steps, o11 h a_now a_kept x_isKept a_reader a_flight a_latest, o2 a_flight l2 (f_now_edge l3.toNatClampNeg) (f_now_bend l3.toNatClampNeg) l4 (l4 + x_p1_caught) 0 0 x_flight_lean, o6 a_now x_now_coins x_now_hands x_now_laws x_now_bytes x_now_sides a_now_edge a_now_bend a_now_rise a_now_wandering a_now_thrown a_now_alike a_now_law a_now_tape a_now_side, aI G a_now_bend 6 f_now_bend, aI G a_now_edge 6 f_now_edge] H := hP
  have hD : va_D A [oT c_p1 a_p1 x_p1_kind x_p1_number x_p1_v x_p1_caught a_p1_steps, o11 h a_now a_kept x_isKept a_reader a_flight a_latest, o2 a_flight l2 (f_now_edge l3.toNatClampNeg) (f_now_bend l3.toNatClampNeg) l4 (l4 + x_p1_caught) 0 0 x_flight_lean, o6 a_now x_now_coins x_now_hands x_now_laws x_now_bytes x_now_sides a_now_edge a_now_bend a_now_rise a_now_wandering a_now_thrown a_now_alike a_now_law a_now_tape a_now_side, aI G a_now_bend 6 f_now_bend, aI G a_now_edge 6 f_now_edge] := hD
  refine lv_aload_n hx hb dX11_begin_79 rfl (lv_at hl 0 rfl) ?_
  refine va_get (D := G.1) (ci := 11) (v := .ref a_flight) (C := RX11) (T := TX11) (N := 6) hx hb hts hin11 hown hK hP 1 rfl rfl 4 (by decide) lk_31 (fun _ h9 => h9) rfl dX11_begin_80 ?_
  refine W.eq (g2 := F0 m 83 ls [.ref a_flight]) rfl ?_
  refine lv_iconst (v := 0) hx hb dX11_begin_83 (by decide) ?_
  refine va_putN (D := G.1) (ci := 2) (v := .int 0) (ty := .int) (C := RX2) (T := TX2) (N := 8) hx hb hts hin2 tyX2 tyX2_ok nmX2 hown hK hP hD hS 2 rfl rfl 7 (by decide) lk_281 (fun _ h9 => h9) rfl (tyX2_ok 7 (by decide)) rfl rfl (Nat.le_of_ble_eq_true rfl) dX11_begin_84 (fun H locs hP hD hS => ?_)
  have hP : va_P G.1 vwCl [oT c_p1 a_p1 x_p1_kind x_p1_number x_p1_v x_p1_caught a_p1_steps, o11 h a_now a_kept x_isKept a_reader a_flight a_latest, o2 a_flight l2 (f_now_edge l3.toNatClampNeg) (f_now_bend l3.toNatClampNeg) l4 (l4 + x_p1_caught) 0 0 0, o6 a_now x_now_coins x_now_hands x_now_laws x_now_bytes x_now_sides a_now_edge a_now_bend a_now_rise a_now_wandering a_now_thrown a_now_alike a_now_law a_now_tape a_now_side, aI G a_now_bend 6 f_now_bend, aI G a_now_edge 6 f_now_edge] H := hP
  have hD : va_D A [oT c_p1 a_p1 x_p1_kind x_p1_number x_p1_v x_p1_caught a_p1_steps, o11 h a_now a_kept x_isKept a_reader a_flight a_latest, o2 a_flight l2 (f_now_edge l3.toNatClampNeg) (f_now_bend l3.toNatClampNeg) l4 (l4 + x_p1_caught) 0 0 0, o6 a_now x_now_coins x_now_hands x_now_laws x_now_bytes x_now_sides a_now_edge a_now_bend a_now_rise a_now_wandering a_now_thrown a_now_alike a_now_law a_now_tape a_now_side, aI G a_now_bend 6 f_now_bend, aI G a_now_edge 6 f_now_edge] := hD
  injection hF with hz
  injection hz with hq0 hz
  injection hz with hq1 hz
  injection hz with hq2 hz
  injection hz with hq3 hz
  injection hz with hq4 hz
  injection hz with hq5 hz
  injection hz with hq6 hz
  subst hq0
  subst hq1
  subst hq2
  subst hq3
  subst hq4
  subst hq5
  subst hq6
  subst hz
  exact cm_retv hx hb hr hlk hK hP hD hS dX11_begin_87

/-! HeadsByHair.sideAt(LHeadsByHair$Throw;II)I -/
abbrev rm_X11_sideAt : Room := { frames := 3, cells := 0, slots := 0, locals := 76 }
set_option maxHeartbeats 4000000 in
set_option maxRecDepth 100000 in
theorem c_X11_sideAt (l : Launch) (G : GG) (c_p1 : Nat) (hc_p1 : c_p1 = 0 ∨ c_p1 = 1 ∨ c_p1 = 4 ∨ c_p1 = 5 ∨ c_p1 = 7 ∨ c_p1 = 9 ∨ c_p1 = 10) (a_p1 a_p1_steps h a_now a_kept a_reader a_flight a_latest : Nat) (x_p1_kind x_p1_number x_p1_v x_p1_caught x_isKept x_flight_hand x_flight_edge x_flight_bend x_flight_rise x_flight_last x_flight_tick x_flight_angle x_flight_lean : Int32) (f_p1_steps : Nat → Int32) (n_p1_steps : Nat) (l2 : Int32) (l3 : Int32) (z : Int32) (z_x_flight_tick : Int32) (z_x_flight_angle : Int32) (z_x_flight_lean : Int32) (hF : fX11_sideAt n_p1_steps c_p1 x_p1_v x_flight_hand x_flight_edge x_flight_bend x_flight_rise x_flight_last x_flight_tick x_flight_angle x_flight_lean f_p1_steps l2 l3 = some (z, z_x_flight_tick, z_x_flight_angle, z_x_flight_lean)) : CMi l yX11_sideAt wsX11_sideAt rm_X11_sideAt G [oT c_p1 a_p1 x_p1_kind x_p1_number x_p1_v x_p1_caught a_p1_steps, o11 h a_now a_kept x_isKept a_reader a_flight a_latest, o2 a_flight x_flight_hand x_flight_edge x_flight_bend x_flight_rise x_flight_last x_flight_tick x_flight_angle x_flight_lean, aI G a_p1_steps n_p1_steps f_p1_steps] [oT c_p1 a_p1 x_p1_kind x_p1_number x_p1_v x_p1_caught a_p1_steps, o11 h a_now a_kept x_isKept a_reader a_flight a_latest, o2 a_flight x_flight_hand x_flight_edge x_flight_bend x_flight_rise x_flight_last z_x_flight_tick z_x_flight_angle z_x_flight_lean, aI G a_p1_steps n_p1_steps f_p1_steps] [.ref h, .ref a_p1, .int l2, .int l3] z := by
  refine cm_start (cc := cX11_sideAt) (maxL := 5) (ret := (some .int)) (Qc := fun A => QI G [oT c_p1 a_p1 x_p1_kind x_p1_number x_p1_v x_p1_caught a_p1_steps, o11 h a_now a_kept x_isKept a_reader a_flight a_latest, o2 a_flight x_flight_hand x_flight_edge x_flight_bend x_flight_rise x_flight_last z_x_flight_tick z_x_flight_angle z_x_flight_lean, aI G a_p1_steps n_p1_steps f_p1_steps] z A) (by decide +kernel) rfl (Nat.le_of_ble_eq_true rfl) ?_
  intro p e s m args below meth c A hx hb hr hlk hml hown hnm hts hA H locs hP hK hD hE hS ls hl
  have hown : s.vm.findClass RX11 = some m.cls := hown
  have hl : lv_has ls 5 [(0, .ref h), (1, .ref a_p1), (2, .int l2), (3, .int l3)] := hl
  have hin11 : ∀ w ∈ wsX110, w ∈ wsX11_sideAt := by decide +kernel
  have hT_c_p1 : isT c_p1 := by unfold isT; omega
  have hin_c_p1 : ∀ w ∈ u_ws (tC c_p1) TX7 5, w ∈ wsX11_sideAt := by rcases hc_p1 with rfl | rfl | rfl | rfl | rfl | rfl | rfl <;> decide +kernel
  have lk_31 := hts (.fieldLink RX11 31 "HeadsByHair" "flight" "LHeadsByHair$Flight;") (by decide +kernel)
  have lk_135 := hts (.fieldLink RX11 135 "HeadsByHair$Throw" "steps" "[I") (by decide +kernel)
  revert hF
  have LP3 : ∀ (l2 : Int32) (l3 : Int32) (k26 : Int32 → Int32 → Int32 → Option (Int32 × Int32 × Int32 × Int32)) (hk26 : ∀ (x_flight_tick : Int32) (x_flight_angle : Int32) (x_flight_lean : Int32) (H : Heap) (locs : List Loc) (ls : Array Slot), va_P G.1 vwCl [oT c_p1 a_p1 x_p1_kind x_p1_number x_p1_v x_p1_caught a_p1_steps, o11 h a_now a_kept x_isKept a_reader a_flight a_latest, o2 a_flight x_flight_hand x_flight_edge x_flight_bend x_flight_rise x_flight_last x_flight_tick x_flight_angle x_flight_lean, aI G a_p1_steps n_p1_steps f_p1_steps] H → va_D A [oT c_p1 a_p1 x_p1_kind x_p1_number x_p1_v x_p1_caught a_p1_steps, o11 h a_now a_kept x_isKept a_reader a_flight a_latest, o2 a_flight x_flight_hand x_flight_edge x_flight_bend x_flight_rise x_flight_last x_flight_tick x_flight_angle x_flight_lean, aI G a_p1_steps n_p1_steps f_p1_steps] → va_S A s.heap H locs → lv_has ls 5 [(0, .ref h), (1, .ref a_p1), (3, .int l3)] → k26 x_flight_tick x_flight_angle x_flight_lean = some (z, z_x_flight_tick, z_x_flight_angle, z_x_flight_lean) → W p l e (rm_X11_sideAt) s m args below meth c H locs 0 0 (MQ below (QI G [oT c_p1 a_p1 x_p1_kind x_p1_number x_p1_v x_p1_caught a_p1_steps, o11 h a_now a_kept x_isKept a_reader a_flight a_latest, o2 a_flight x_flight_hand x_flight_edge x_flight_bend x_flight_rise x_flight_last z_x_flight_tick z_x_flight_angle z_x_flight_lean, aI G a_p1_steps n_p1_steps f_p1_steps] z A) args s 0 0 A) (F0 m 26 ls [])) (n : Nat) (x_flight_tick : Int32) (x_flight_angle : Int32) (x_flight_lean : Int32) (l4 : Int32) (H : Heap) (locs : List Loc) (ls : Array Slot), va_P G.1 vwCl [oT c_p1 a_p1 x_p1_kind x_p1_number x_p1_v x_p1_caught a_p1_steps, o11 h a_now a_kept x_isKept a_reader a_flight a_latest, o2 a_flight x_flight_hand x_flight_edge x_flight_bend x_flight_rise x_flight_last x_flight_tick x_flight_angle x_flight_lean, aI G a_p1_steps n_p1_steps f_p1_steps] H → va_D A [oT c_p1 a_p1 x_p1_kind x_p1_number x_p1_v x_p1_caught a_p1_steps, o11 h a_now a_kept x_isKept a_reader a_flight a_latest, o2 a_flight x_flight_hand x_flight_edge x_flight_bend x_flight_rise x_flight_last x_flight_tick x_flight_angle x_flight_lean, aI G a_p1_steps n_p1_steps f_p1_steps] → va_S A s.heap H locs → lv_has ls 5 [(0, .ref h), (1, .ref a_p1), (2, .int l2), (3, .int l3), (4, .int l4)] → fX11_sideAt_L3 k26 n_p1_steps c_p1 x_p1_v x_flight_hand x_flight_edge x_flight_bend x_flight_rise x_flight_last f_p1_steps l2 l3 n x_flight_tick x_flight_angle x_flight_lean l4 = some (z, z_x_flight_tick, z_x_flight_angle, z_x_flight_lean) → W p l e (rm_X11_sideAt) s m args below meth c H locs 0 0 (MQ below (QI G [oT c_p1 a_p1 x_p1_kind x_p1_number x_p1_v x_p1_caught a_p1_steps, o11 h a_now a_kept x_isKept a_reader a_flight a_latest, o2 a_flight x_flight_hand x_flight_edge x_flight_bend x_flight_rise x_flight_last z_x_flight_tick z_x_flight_angle z_x_flight_lean, aI G a_p1_steps n_p1_steps f_p1_steps] z A) args s 0 0 A) (F0 m 3 ls []) := by
    intro l2 l3 k26 hk26 n
    induction n with
    | zero =>
      intro x_flight_tick x_flight_angle x_flight_lean l4 H locs ls hP hD hS hl hF
      cases hF
    | succ n ih =>
      intro x_flight_tick x_flight_angle x_flight_lean l4 H locs ls hP hD hS hl hF
      rw [fX11_sideAt_L3] at hF
      refine lv_iload hx hb dX11_sideAt_3 (lv_at hl 4 rfl) ?_
      refine lv_iload_n hx hb dX11_sideAt_5 rfl (lv_at hl 2 rfl) ?_
      refine lv_icmp_ge (tgt := 26) hx hb dX11_sideAt_6 (by decide) (fun c1 => ?_) (fun c1 => ?_)
      · rw [if_pos c1] at hF
        exact hk26 _ _ _ H locs ls hP hD hS (lv_sub hl [0, 1, 3] rfl) hF
      rw [if_neg c1] at hF
      refine lv_aload_n hx hb dX11_sideAt_9 rfl (lv_at hl 0 rfl) ?_
      refine va_get (D := G.1) (ci := 11) (v := .ref a_flight) (C := RX11) (T := TX11) (N := 6) hx hb hts hin11 hown hK hP 1 rfl rfl 4 (by decide) lk_31 (fun _ h9 => h9) rfl dX11_sideAt_10 ?_
      refine lv_aload_n hx hb dX11_sideAt_13 rfl (lv_at hl 1 rfl) ?_
      refine va_get (D := G.1) (ci := c_p1) (v := .ref a_p1_steps) (C := tC c_p1) (T := TX7) (N := 5) hx hb hts hin_c_p1 hown hK hP 0 rfl (tC_at hT_c_p1) 4 (by decide) lk_135 (fun _ h9 => h9) rfl dX11_sideAt_14 ?_
      obtain ⟨r2, hc3, hF⟩ := bd_some hF
      have hPc := hP.sub (ws' := [o2 a_flight x_flight_hand x_flight_edge x_flight_bend x_flight_rise x_flight_last x_flight_tick x_flight_angle x_flight_lean, aI G a_p1_steps n_p1_steps f_p1_steps]) [2, 3] rfl
      have hDc := hD.sub (ws' := [o2 a_flight x_flight_hand x_flight_edge x_flight_bend x_flight_rise x_flight_last x_flight_tick x_flight_angle x_flight_lean, aI G a_p1_steps n_p1_steps f_p1_steps]) [2, 3] (by decide) rfl
      have hFc := va_free (wc := [o2 a_flight x_flight_hand x_flight_edge x_flight_bend x_flight_rise x_flight_last x_flight_tick x_flight_angle x_flight_lean, aI G a_p1_steps n_p1_steps f_p1_steps]) hD hS hA [2, 3] rfl
      have hM := c_X2_goOn l G a_flight a_p1_steps x_flight_hand x_flight_edge x_flight_bend x_flight_rise x_flight_last x_flight_tick x_flight_angle x_flight_lean f_p1_steps n_p1_steps r2.1 r2.2.1 r2.2.2 hc3 H.size
      refine cl_v (w1 := [o2 a_flight x_flight_hand x_flight_edge x_flight_bend x_flight_rise x_flight_last r2.1 r2.2.1 r2.2.2, aI G a_p1_steps n_p1_steps f_p1_steps]) (ws' := [oT c_p1 a_p1 x_p1_kind x_p1_number x_p1_v x_p1_caught a_p1_steps, o11 h a_now a_kept x_isKept a_reader a_flight a_latest, o2 a_flight x_flight_hand x_flight_edge x_flight_bend x_flight_rise x_flight_last r2.1 r2.2.1 r2.2.2, aI G a_p1_steps n_p1_steps f_p1_steps]) hP hD hS hFc [2, 3] rfl rfl rfl (va_runVN (As := [.ref a_p1_steps]) (rest := []) ⟨hx, hb, hml, hown, hts⟩ hM ⟨va_cnB 1 hts gX11_sideAt_X2_goOn_n138 rfl rfl rfl (hE.nw (.methodLinkNest RX11 138 yX2_goOn "HeadsByHair") (by decide +kernel)) (hts (.initialized RX2) (by decide +kernel)) (by decide +kernel) ⟨Nat.le_of_ble_eq_true rfl, Nat.le_of_ble_eq_true rfl⟩, hts (.instanceMethod yX2_goOn) (by decide +kernel), hts (.selects RX2 yX2_goOn yX2_goOn) (by decide +kernel)⟩ (cp_V hK hE hS hPc hDc hFc (va_recv hK hPc (ci := 2) (q0 := 0) rfl rfl)) rfl rfl hl.1 rfl (lv_room (Nat.le_of_ble_eq_true rfl)) dX11_sideAt_17 ⟨Nat.zero_le _, Nat.zero_le _⟩) (fun H locs hP hD hS => ?_)
      refine lv_iinc (v := l4 + 1) (lv' := [(4, .int (l4 + 1)), (0, .ref h), (1, .ref a_p1), (2, .int l2), (3, .int l3)]) hx hb dX11_sideAt_20 hl (k := 4) rfl rfl (by decide) rfl (fun ls hl => ?_)
      refine lv_goto (tgt := 3) hx hb dX11_sideAt_23 (by decide) ?_
      exact ih _ _ _ _ H locs ls hP hD hS (lv_sub hl [1, 2, 3, 4, 0] rfl) hF
  intro hF
  unfold fX11_sideAt at hF
  refine lv_iconst (v := 0) hx hb dX11_sideAt_0 (by decide) ?_
  refine lv_istore (lv' := [(4, .int 0), (0, .ref h), (1, .ref a_p1), (2, .int l2), (3, .int l3)]) hx hb dX11_sideAt_1 hl (by decide) rfl (fun ls hl => ?_)
  refine LP3 _ _ _ (fun x_flight_tick_4 x_flight_angle_5 x_flight_lean_6 H locs ls hP hD hS hl hF => ?_) _ _ _ _ _ H locs ls hP hD hS (lv_sub hl [1, 2, 3, 4, 0] rfl) hF
  refine lv_aload_n hx hb dX11_sideAt_26 rfl (lv_at hl 1 rfl) ?_
  refine lv_aload_n hx hb dX11_sideAt_27 rfl (lv_at hl 0 rfl) ?_
  refine va_get (D := G.1) (ci := 11) (v := .ref a_flight) (C := RX11) (T := TX11) (N := 6) hx hb hts hin11 hown hK hP 1 rfl rfl 4 (by decide) lk_31 (fun _ h9 => h9) rfl dX11_sideAt_28 ?_
  refine lv_iload_n hx hb dX11_sideAt_31 rfl (lv_at hl 2 rfl) ?_
  obtain ⟨r7, hc8, hF⟩ := bd_some hF
  have hPc := hP.sub (ws' := [o2 a_flight x_flight_hand x_flight_edge x_flight_bend x_flight_rise x_flight_last x_flight_tick_4 x_flight_angle_5 x_flight_lean_6, oT c_p1 a_p1 x_p1_kind x_p1_number x_p1_v x_p1_caught a_p1_steps]) [2, 0] rfl
  have hDc := hD.sub (ws' := [o2 a_flight x_flight_hand x_flight_edge x_flight_bend x_flight_rise x_flight_last x_flight_tick_4 x_flight_angle_5 x_flight_lean_6, oT c_p1 a_p1 x_p1_kind x_p1_number x_p1_v x_p1_caught a_p1_steps]) [2, 0] (by decide) rfl
  have hFc := va_free (wc := [o2 a_flight x_flight_hand x_flight_edge x_flight_bend x_flight_rise x_flight_last x_flight_tick_4 x_flight_angle_5 x_flight_lean_6, oT c_p1 a_p1 x_p1_kind x_p1_number x_p1_v x_p1_caught a_p1_steps]) hD hS hA [2, 0] rfl
  have hrun : va_Run p l e (rm_X11_sideAt) s m args below meth c H locs 0 0 0 0 (F0 m 32 ls [.int l3, .ref a_flight, .ref a_p1]) [] (QI G [o2 a_flight x_flight_hand x_flight_edge x_flight_bend x_flight_rise x_flight_last x_flight_tick_4 x_flight_angle_5 x_flight_lean_6, oT c_p1 a_p1 x_p1_kind x_p1_number x_p1_v x_p1_caught a_p1_steps] r7 (va_A [o2 a_flight x_flight_hand x_flight_edge x_flight_bend x_flight_rise x_flight_last x_flight_tick_4 x_flight_angle_5 x_flight_lean_6, oT c_p1 a_p1 x_p1_kind x_p1_number x_p1_v x_p1_caught a_p1_steps] H.size) (Value.ref a_p1 :: [.ref a_flight, .int l3]).toArray) (va_A [o2 a_flight x_flight_hand x_flight_edge x_flight_bend x_flight_rise x_flight_last x_flight_tick_4 x_flight_angle_5 x_flight_lean_6, oT c_p1 a_p1 x_p1_kind x_p1_number x_p1_v x_p1_caught a_p1_steps] H.size) := by
    rcases hc_p1 with rfl | rfl | rfl | rfl | rfl | rfl | rfl
    · have hM := c_X0_sideUp l G 0 (by decide) a_flight a_p1 a_p1_steps x_flight_hand x_flight_edge x_flight_bend x_flight_rise x_flight_last x_flight_tick_4 x_flight_angle_5 x_flight_lean_6 x_p1_kind x_p1_number x_p1_v x_p1_caught l3 r7 (show fX0_sideUp 0 x_flight_last x_flight_tick_4 x_flight_angle_5 x_p1_v l3 = some r7 from hc8) H.size
      exact va_runU (As := [.ref a_flight, .int l3]) (rest := []) ⟨hx, hb, hml, hown, hts⟩ hM (va_cwO 2 hts gX11_sideAt_X0_sideUp_u142X0 rfl rfl rfl (b0 := cX7_sideUp) (m0 := 3) (r0 := (some .int)) (by decide +kernel) (by decide +kernel) ⟨Nat.le_of_ble_eq_true rfl, Nat.le_of_ble_eq_true rfl⟩) (cp_V hK hE hS hPc hDc hFc (va_recv hK hPc (ci := 0) (q0 := 1) rfl rfl)) rfl rfl hl.1 rfl (lv_room (Nat.le_of_ble_eq_true rfl)) dX11_sideAt_32 ⟨Nat.zero_le _, Nat.zero_le _⟩
    · have hM := c_X1_sideUp l G a_flight a_p1 a_p1_steps x_flight_hand x_flight_edge x_flight_bend x_flight_rise x_flight_last x_flight_tick_4 x_flight_angle_5 x_flight_lean_6 x_p1_kind x_p1_number x_p1_v x_p1_caught l3 r7 (show fX1_sideUp x_flight_bend x_flight_last x_flight_tick_4 x_flight_angle_5 x_p1_v l3 = some r7 from hc8) H.size
      exact va_runU (As := [.ref a_flight, .int l3]) (rest := []) ⟨hx, hb, hml, hown, hts⟩ hM (va_cwO 2 hts gX11_sideAt_X1_sideUp_u142X1 rfl rfl rfl (b0 := cX7_sideUp) (m0 := 3) (r0 := (some .int)) (by decide +kernel) (by decide +kernel) ⟨Nat.le_of_ble_eq_true rfl, Nat.le_of_ble_eq_true rfl⟩) (cp_V hK hE hS hPc hDc hFc (va_recv hK hPc (ci := 1) (q0 := 1) rfl rfl)) rfl rfl hl.1 rfl (lv_room (Nat.le_of_ble_eq_true rfl)) dX11_sideAt_32 ⟨Nat.zero_le _, Nat.zero_le _⟩
    · have hM := c_X4_sideUp l G a_flight a_p1 a_p1_steps x_flight_hand x_flight_edge x_flight_bend x_flight_rise x_flight_last x_flight_tick_4 x_flight_angle_5 x_flight_lean_6 x_p1_kind x_p1_number x_p1_v x_p1_caught l3 r7 (show fX4_sideUp x_flight_angle_5 x_flight_lean_6 x_p1_v l3 = some r7 from hc8) H.size
      exact va_runU (As := [.ref a_flight, .int l3]) (rest := []) ⟨hx, hb, hml, hown, hts⟩ hM (va_cwO 2 hts gX11_sideAt_X4_sideUp_u142X4 rfl rfl rfl (b0 := cX7_sideUp) (m0 := 3) (r0 := (some .int)) (by decide +kernel) (by decide +kernel) ⟨Nat.le_of_ble_eq_true rfl, Nat.le_of_ble_eq_true rfl⟩) (cp_V hK hE hS hPc hDc hFc (va_recv hK hPc (ci := 4) (q0 := 1) rfl rfl)) rfl rfl hl.1 rfl (lv_room (Nat.le_of_ble_eq_true rfl)) dX11_sideAt_32 ⟨Nat.zero_le _, Nat.zero_le _⟩
    · have hM := c_X5_sideUp l G a_flight a_p1 a_p1_steps x_flight_hand x_flight_edge x_flight_bend x_flight_rise x_flight_last x_flight_tick_4 x_flight_angle_5 x_flight_lean_6 x_p1_kind x_p1_number x_p1_v x_p1_caught l3 r7 (show fX5_sideUp x_flight_edge x_p1_v l3 = some r7 from hc8) H.size
      exact va_runU (As := [.ref a_flight, .int l3]) (rest := []) ⟨hx, hb, hml, hown, hts⟩ hM (va_cwO 2 hts gX11_sideAt_X5_sideUp_u142X5 rfl rfl rfl (b0 := cX7_sideUp) (m0 := 3) (r0 := (some .int)) (by decide +kernel) (by decide +kernel) ⟨Nat.le_of_ble_eq_true rfl, Nat.le_of_ble_eq_true rfl⟩) (cp_V hK hE hS hPc hDc hFc (va_recv hK hPc (ci := 5) (q0 := 1) rfl rfl)) rfl rfl hl.1 rfl (lv_room (Nat.le_of_ble_eq_true rfl)) dX11_sideAt_32 ⟨Nat.zero_le _, Nat.zero_le _⟩
    · have hM := c_X7_sideUp l G 7 (by decide) a_flight a_p1 a_p1_steps x_flight_hand x_flight_edge x_flight_bend x_flight_rise x_flight_last x_flight_tick_4 x_flight_angle_5 x_flight_lean_6 x_p1_kind x_p1_number x_p1_v x_p1_caught l3 r7 (show fX7_sideUp 7 l3 = some r7 from hc8) H.size
      exact va_runV (As := [.ref a_flight, .int l3]) (rest := []) ⟨hx, hb, hml, hown, hts⟩ hM (cwV 2 hts gX11_sideAt_X7_sideUp rfl rfl rfl (by decide +kernel) ⟨Nat.le_of_ble_eq_true rfl, Nat.le_of_ble_eq_true rfl⟩) (cp_V hK hE hS hPc hDc hFc (va_recv hK hPc (ci := 7) (q0 := 1) rfl rfl)) rfl rfl hl.1 rfl (lv_room (Nat.le_of_ble_eq_true rfl)) dX11_sideAt_32 ⟨Nat.zero_le _, Nat.zero_le _⟩
    · have hM := c_X9_sideUp l G 9 (by decide) a_flight a_p1 a_p1_steps x_flight_hand x_flight_edge x_flight_bend x_flight_rise x_flight_last x_flight_tick_4 x_flight_angle_5 x_flight_lean_6 x_p1_kind x_p1_number x_p1_v x_p1_caught l3 r7 (show fX9_sideUp 9 x_flight_angle_5 l3 = some r7 from hc8) H.size
      exact va_runU (As := [.ref a_flight, .int l3]) (rest := []) ⟨hx, hb, hml, hown, hts⟩ hM (va_cwO 2 hts gX11_sideAt_X9_sideUp_u142X9 rfl rfl rfl (b0 := cX7_sideUp) (m0 := 3) (r0 := (some .int)) (by decide +kernel) (by decide +kernel) ⟨Nat.le_of_ble_eq_true rfl, Nat.le_of_ble_eq_true rfl⟩) (cp_V hK hE hS hPc hDc hFc (va_recv hK hPc (ci := 9) (q0 := 1) rfl rfl)) rfl rfl hl.1 rfl (lv_room (Nat.le_of_ble_eq_true rfl)) dX11_sideAt_32 ⟨Nat.zero_le _, Nat.zero_le _⟩
    · have hM := c_X10_sideUp l G 10 (by decide) a_flight a_p1 a_p1_steps x_flight_hand x_flight_edge x_flight_bend x_flight_rise x_flight_last x_flight_tick_4 x_flight_angle_5 x_flight_lean_6 x_p1_kind x_p1_number x_p1_v x_p1_caught l3 r7 (show fX10_sideUp 10 x_flight_angle_5 x_flight_lean_6 l3 = some r7 from hc8) H.size
      exact va_runU (As := [.ref a_flight, .int l3]) (rest := []) ⟨hx, hb, hml, hown, hts⟩ hM (va_cwO 2 hts gX11_sideAt_X10_sideUp_u142X10 rfl rfl rfl (b0 := cX7_sideUp) (m0 := 3) (r0 := (some .int)) (by decide +kernel) (by decide +kernel) ⟨Nat.le_of_ble_eq_true rfl, Nat.le_of_ble_eq_true rfl⟩) (cp_V hK hE hS hPc hDc hFc (va_recv hK hPc (ci := 10) (q0 := 1) rfl rfl)) rfl rfl hl.1 rfl (lv_room (Nat.le_of_ble_eq_true rfl)) dX11_sideAt_32 ⟨Nat.zero_le _, Nat.zero_le _⟩
  refine cl_i (w1 := [o2 a_flight x_flight_hand x_flight_edge x_flight_bend x_flight_rise x_flight_last x_flight_tick_4 x_flight_angle_5 x_flight_lean_6, oT c_p1 a_p1 x_p1_kind x_p1_number x_p1_v x_p1_caught a_p1_steps]) (ws' := [oT c_p1 a_p1 x_p1_kind x_p1_number x_p1_v x_p1_caught a_p1_steps, o11 h a_now a_kept x_isKept a_reader a_flight a_latest, o2 a_flight x_flight_hand x_flight_edge x_flight_bend x_flight_rise x_flight_last x_flight_tick_4 x_flight_angle_5 x_flight_lean_6, aI G a_p1_steps n_p1_steps f_p1_steps]) hP hD hS hFc [2, 0] rfl rfl rfl hrun (fun H locs hP hD hS => ?_)
  injection hF with hz
  injection hz with hq0 hz
  injection hz with hq1 hz
  injection hz with hq2 hz
  subst hq0
  subst hq1
  subst hq2
  subst hz
  exact cm_reti hx hb hr rfl hlk hK hP hD hS dX11_sideAt_35

/-! HeadsByHair.comes(LHeadsByHair$Throw;IIII)I -/
abbrev rm_X11_comes : Room := { frames := 4, cells := 0, slots := 0, locals := 100 }
set_option maxHeartbeats 4000000 in
set_option maxRecDepth 100000 in
theorem c_X11_comes (l : Launch) (G : GG) (c_p1 : Nat) (hc_p1 : c_p1 = 0 ∨ c_p1 = 1 ∨ c_p1 = 4 ∨ c_p1 = 5 ∨ c_p1 = 7 ∨ c_p1 = 9 ∨ c_p1 = 10) (a_p1 a_p1_steps h a_now a_kept a_reader a_flight a_latest a_now_edge a_now_bend a_now_rise a_now_wandering a_now_thrown a_now_alike a_now_law a_now_tape a_now_side : Nat) (x_p1_kind x_p1_number x_p1_v x_p1_caught x_isKept x_flight_hand x_flight_edge x_flight_bend x_flight_rise x_flight_last x_flight_tick x_flight_angle x_flight_lean x_now_coins x_now_hands x_now_laws x_now_bytes x_now_sides : Int32) (f_p1_steps : Nat → Int32) (f_now_bend : Nat → Int32) (f_now_edge : Nat → Int32) (n_p1_steps : Nat) (l2 : Int32) (l3 : Int32) (l4 : Int32) (l5 : Int32) (z : Int32) (z_x_flight_hand : Int32) (z_x_flight_edge : Int32) (z_x_flight_bend : Int32) (z_x_flight_rise : Int32) (z_x_flight_last : Int32) (z_x_flight_tick : Int32) (z_x_flight_angle : Int32) (z_x_flight_lean : Int32) (hF : fX11_comes n_p1_steps c_p1 x_p1_v x_p1_caught x_flight_hand x_flight_edge x_flight_bend x_flight_rise x_flight_last x_flight_tick x_flight_angle x_flight_lean f_p1_steps f_now_bend f_now_edge l2 l3 l4 l5 = some (z, z_x_flight_hand, z_x_flight_edge, z_x_flight_bend, z_x_flight_rise, z_x_flight_last, z_x_flight_tick, z_x_flight_angle, z_x_flight_lean)) : CMi l yX11_comes wsX11_comes rm_X11_comes G [oT c_p1 a_p1 x_p1_kind x_p1_number x_p1_v x_p1_caught a_p1_steps, o11 h a_now a_kept x_isKept a_reader a_flight a_latest, o2 a_flight x_flight_hand x_flight_edge x_flight_bend x_flight_rise x_flight_last x_flight_tick x_flight_angle x_flight_lean, o6 a_now x_now_coins x_now_hands x_now_laws x_now_bytes x_now_sides a_now_edge a_now_bend a_now_rise a_now_wandering a_now_thrown a_now_alike a_now_law a_now_tape a_now_side, aI G a_p1_steps n_p1_steps f_p1_steps, aI G a_now_bend 6 f_now_bend, aI G a_now_edge 6 f_now_edge] [oT c_p1 a_p1 x_p1_kind x_p1_number x_p1_v x_p1_caught a_p1_steps, o11 h a_now a_kept x_isKept a_reader a_flight a_latest, o2 a_flight z_x_flight_hand z_x_flight_edge z_x_flight_bend z_x_flight_rise z_x_flight_last z_x_flight_tick z_x_flight_angle z_x_flight_lean, o6 a_now x_now_coins x_now_hands x_now_laws x_now_bytes x_now_sides a_now_edge a_now_bend a_now_rise a_now_wandering a_now_thrown a_now_alike a_now_law a_now_tape a_now_side, aI G a_p1_steps n_p1_steps f_p1_steps, aI G a_now_bend 6 f_now_bend, aI G a_now_edge 6 f_now_edge] [.ref h, .ref a_p1, .int l2, .int l3, .int l4, .int l5] z := by
  refine cm_start (cc := cX11_comes) (maxL := 6) (ret := (some .int)) (Qc := fun A => QI G [oT c_p1 a_p1 x_p1_kind x_p1_number x_p1_v x_p1_caught a_p1_steps, o11 h a_now a_kept x_isKept a_reader a_flight a_latest, o2 a_flight z_x_flight_hand z_x_flight_edge z_x_flight_bend z_x_flight_rise z_x_flight_last z_x_flight_tick z_x_flight_angle z_x_flight_lean, o6 a_now x_now_coins x_now_hands x_now_laws x_now_bytes x_now_sides a_now_edge a_now_bend a_now_rise a_now_wandering a_now_thrown a_now_alike a_now_law a_now_tape a_now_side, aI G a_p1_steps n_p1_steps f_p1_steps, aI G a_now_bend 6 f_now_bend, aI G a_now_edge 6 f_now_edge] z A) (by decide +kernel) rfl (Nat.le_of_ble_eq_true rfl) ?_
  intro p e s m args below meth c A hx hb hr hlk hml hown hnm hts hA H locs hP hK hD hE hS ls hl
  have hown : s.vm.findClass RX11 = some m.cls := hown
  have hl : lv_has ls 6 [(0, .ref h), (1, .ref a_p1), (2, .int l2), (3, .int l3), (4, .int l4), (5, .int l5)] := hl
  have hin11 : ∀ w ∈ wsX110, w ∈ wsX11_comes := by decide +kernel
  have hin2 : ∀ w ∈ wsX20, w ∈ wsX11_comes := by decide +kernel
  have lk_31 := hts (.fieldLink RX11 31 "HeadsByHair" "flight" "LHeadsByHair$Flight;") (by decide +kernel)
  have lk_132 := va_Nw.use (A := args) rfl (hE.nw (.fieldLinkNest "HeadsByHair" 132 "HeadsByHair$Flight" "last" "I" "HeadsByHair") (by decide +kernel))
  revert hF
  intro hF
  unfold fX11_comes at hF
  refine lv_aload_n hx hb dX11_comes_0 rfl (lv_at hl 0 rfl) ?_
  refine lv_aload_n hx hb dX11_comes_1 rfl (lv_at hl 1 rfl) ?_
  refine lv_iload_n hx hb dX11_comes_2 rfl (lv_at hl 2 rfl) ?_
  refine lv_iload_n hx hb dX11_comes_3 rfl (lv_at hl 3 rfl) ?_
  refine lv_iload hx hb dX11_comes_4 (lv_at hl 4 rfl) ?_
  obtain ⟨r1, hc2, hF⟩ := bd_some hF
  have hPc := hP.sub (ws' := [oT c_p1 a_p1 x_p1_kind x_p1_number x_p1_v x_p1_caught a_p1_steps, o11 h a_now a_kept x_isKept a_reader a_flight a_latest, o2 a_flight x_flight_hand x_flight_edge x_flight_bend x_flight_rise x_flight_last x_flight_tick x_flight_angle x_flight_lean, o6 a_now x_now_coins x_now_hands x_now_laws x_now_bytes x_now_sides a_now_edge a_now_bend a_now_rise a_now_wandering a_now_thrown a_now_alike a_now_law a_now_tape a_now_side, aI G a_now_bend 6 f_now_bend, aI G a_now_edge 6 f_now_edge]) [0, 1, 2, 3, 5, 6] rfl
  have hDc := hD.sub (ws' := [oT c_p1 a_p1 x_p1_kind x_p1_number x_p1_v x_p1_caught a_p1_steps, o11 h a_now a_kept x_isKept a_reader a_flight a_latest, o2 a_flight x_flight_hand x_flight_edge x_flight_bend x_flight_rise x_flight_last x_flight_tick x_flight_angle x_flight_lean, o6 a_now x_now_coins x_now_hands x_now_laws x_now_bytes x_now_sides a_now_edge a_now_bend a_now_rise a_now_wandering a_now_thrown a_now_alike a_now_law a_now_tape a_now_side, aI G a_now_bend 6 f_now_bend, aI G a_now_edge 6 f_now_edge]) [0, 1, 2, 3, 5, 6] (by decide) rfl
  have hFc := va_free (wc := [oT c_p1 a_p1 x_p1_kind x_p1_number x_p1_v x_p1_caught a_p1_steps, o11 h a_now a_kept x_isKept a_reader a_flight a_latest, o2 a_flight x_flight_hand x_flight_edge x_flight_bend x_flight_rise x_flight_last x_flight_tick x_flight_angle x_flight_lean, o6 a_now x_now_coins x_now_hands x_now_laws x_now_bytes x_now_sides a_now_edge a_now_bend a_now_rise a_now_wandering a_now_thrown a_now_alike a_now_law a_now_tape a_now_side, aI G a_now_bend 6 f_now_bend, aI G a_now_edge 6 f_now_edge]) hD hS hA [0, 1, 2, 3, 5, 6] rfl
  have hM := c_X11_begin l G c_p1 (by omega) a_p1 a_p1_steps h a_now a_kept a_reader a_flight a_latest a_now_edge a_now_bend a_now_rise a_now_wandering a_now_thrown a_now_alike a_now_law a_now_tape a_now_side x_p1_kind x_p1_number x_p1_v x_p1_caught x_isKept x_flight_hand x_flight_edge x_flight_bend x_flight_rise x_flight_last x_flight_tick x_flight_angle x_flight_lean x_now_coins x_now_hands x_now_laws x_now_bytes x_now_sides f_now_bend f_now_edge l2 l3 l4 r1.1 r1.2.1 r1.2.2.1 r1.2.2.2.1 r1.2.2.2.2.1 r1.2.2.2.2.2.1 r1.2.2.2.2.2.2.1 r1.2.2.2.2.2.2.2 hc2 H.size
  refine cl_v (w1 := [oT c_p1 a_p1 x_p1_kind x_p1_number x_p1_v x_p1_caught a_p1_steps, o11 h a_now a_kept x_isKept a_reader a_flight a_latest, o2 a_flight r1.1 r1.2.1 r1.2.2.1 r1.2.2.2.1 r1.2.2.2.2.1 r1.2.2.2.2.2.1 r1.2.2.2.2.2.2.1 r1.2.2.2.2.2.2.2, o6 a_now x_now_coins x_now_hands x_now_laws x_now_bytes x_now_sides a_now_edge a_now_bend a_now_rise a_now_wandering a_now_thrown a_now_alike a_now_law a_now_tape a_now_side, aI G a_now_bend 6 f_now_bend, aI G a_now_edge 6 f_now_edge]) (ws' := [oT c_p1 a_p1 x_p1_kind x_p1_number x_p1_v x_p1_caught a_p1_steps, o11 h a_now a_kept x_isKept a_reader a_flight a_latest, o2 a_flight r1.1 r1.2.1 r1.2.2.1 r1.2.2.2.1 r1.2.2.2.2.1 r1.2.2.2.2.2.1 r1.2.2.2.2.2.2.1 r1.2.2.2.2.2.2.2, o6 a_now x_now_coins x_now_hands x_now_laws x_now_bytes x_now_sides a_now_edge a_now_bend a_now_rise a_now_wandering a_now_thrown a_now_alike a_now_law a_now_tape a_now_side, aI G a_p1_steps n_p1_steps f_p1_steps, aI G a_now_bend 6 f_now_bend, aI G a_now_edge 6 f_now_edge]) hP hD hS hFc [0, 1, 2, 3, 5, 6] rfl rfl rfl (va_runV (As := [.ref a_p1, .int l2, .int l3, .int l4]) (rest := []) ⟨hx, hb, hml, hown, hts⟩ hM (cwV 4 hts gX11_comes_X11_begin rfl rfl rfl (by decide +kernel) ⟨Nat.le_of_ble_eq_true rfl, Nat.le_of_ble_eq_true rfl⟩) (cp_V hK hE hS hPc hDc hFc (va_recv hK hPc (ci := 11) (q0 := 1) rfl rfl)) rfl rfl hl.1 rfl (lv_room (Nat.le_of_ble_eq_true rfl)) dX11_comes_6 ⟨Nat.zero_le _, Nat.zero_le _⟩) (fun H locs hP hD hS => ?_)
  refine lv_aload_n hx hb dX11_comes_9 rfl (lv_at hl 0 rfl) ?_
  refine lv_aload_n hx hb dX11_comes_10 rfl (lv_at hl 1 rfl) ?_
  refine lv_aload_n hx hb dX11_comes_11 rfl (lv_at hl 0 rfl) ?_
  refine va_get (D := G.1) (ci := 11) (v := .ref a_flight) (C := RX11) (T := TX11) (N := 6) hx hb hts hin11 hown hK hP 1 rfl rfl 4 (by decide) lk_31 (fun _ h9 => h9) rfl dX11_comes_12 ?_
  refine va_getN (D := G.1) (ci := 2) (v := .int r1.2.2.2.2.1) (C := RX2) (T := TX2) (N := 8) hx hb hts hin2 hown hK hP 2 rfl rfl 4 (by decide) lk_132 (fun _ h9 => h9) rfl dX11_comes_15 ?_
  refine lv_iload hx hb dX11_comes_18 (lv_at hl 5 rfl) ?_
  obtain ⟨r3, hc4, hF⟩ := bd_some hF
  have hPc := hP.sub (ws' := [oT c_p1 a_p1 x_p1_kind x_p1_number x_p1_v x_p1_caught a_p1_steps, o11 h a_now a_kept x_isKept a_reader a_flight a_latest, o2 a_flight r1.1 r1.2.1 r1.2.2.1 r1.2.2.2.1 r1.2.2.2.2.1 r1.2.2.2.2.2.1 r1.2.2.2.2.2.2.1 r1.2.2.2.2.2.2.2, aI G a_p1_steps n_p1_steps f_p1_steps]) [0, 1, 2, 4] rfl
  have hDc := hD.sub (ws' := [oT c_p1 a_p1 x_p1_kind x_p1_number x_p1_v x_p1_caught a_p1_steps, o11 h a_now a_kept x_isKept a_reader a_flight a_latest, o2 a_flight r1.1 r1.2.1 r1.2.2.1 r1.2.2.2.1 r1.2.2.2.2.1 r1.2.2.2.2.2.1 r1.2.2.2.2.2.2.1 r1.2.2.2.2.2.2.2, aI G a_p1_steps n_p1_steps f_p1_steps]) [0, 1, 2, 4] (by decide) rfl
  have hFc := va_free (wc := [oT c_p1 a_p1 x_p1_kind x_p1_number x_p1_v x_p1_caught a_p1_steps, o11 h a_now a_kept x_isKept a_reader a_flight a_latest, o2 a_flight r1.1 r1.2.1 r1.2.2.1 r1.2.2.2.1 r1.2.2.2.2.1 r1.2.2.2.2.2.1 r1.2.2.2.2.2.2.1 r1.2.2.2.2.2.2.2, aI G a_p1_steps n_p1_steps f_p1_steps]) hD hS hA [0, 1, 2, 4] rfl
  have hM := c_X11_sideAt l G c_p1 (by omega) a_p1 a_p1_steps h a_now a_kept a_reader a_flight a_latest x_p1_kind x_p1_number x_p1_v x_p1_caught x_isKept r1.1 r1.2.1 r1.2.2.1 r1.2.2.2.1 r1.2.2.2.2.1 r1.2.2.2.2.2.1 r1.2.2.2.2.2.2.1 r1.2.2.2.2.2.2.2 f_p1_steps n_p1_steps r1.2.2.2.2.1 l5 r3.1 r3.2.1 r3.2.2.1 r3.2.2.2 hc4 H.size
  refine cl_i (w1 := [oT c_p1 a_p1 x_p1_kind x_p1_number x_p1_v x_p1_caught a_p1_steps, o11 h a_now a_kept x_isKept a_reader a_flight a_latest, o2 a_flight r1.1 r1.2.1 r1.2.2.1 r1.2.2.2.1 r1.2.2.2.2.1 r3.2.1 r3.2.2.1 r3.2.2.2, aI G a_p1_steps n_p1_steps f_p1_steps]) (ws' := [oT c_p1 a_p1 x_p1_kind x_p1_number x_p1_v x_p1_caught a_p1_steps, o11 h a_now a_kept x_isKept a_reader a_flight a_latest, o2 a_flight r1.1 r1.2.1 r1.2.2.1 r1.2.2.2.1 r1.2.2.2.2.1 r3.2.1 r3.2.2.1 r3.2.2.2, o6 a_now x_now_coins x_now_hands x_now_laws x_now_bytes x_now_sides a_now_edge a_now_bend a_now_rise a_now_wandering a_now_thrown a_now_alike a_now_law a_now_tape a_now_side, aI G a_p1_steps n_p1_steps f_p1_steps, aI G a_now_bend 6 f_now_bend, aI G a_now_edge 6 f_now_edge]) hP hD hS hFc [0, 1, 2, 4] rfl rfl rfl (va_runV (As := [.ref a_p1, .int r1.2.2.2.2.1, .int l5]) (rest := []) ⟨hx, hb, hml, hown, hts⟩ hM (cwV 3 hts gX11_comes_X11_sideAt rfl rfl rfl (by decide +kernel) ⟨Nat.le_of_ble_eq_true rfl, Nat.le_of_ble_eq_true rfl⟩) (cp_V hK hE hS hPc hDc hFc (va_recv hK hPc (ci := 11) (q0 := 1) rfl rfl)) rfl rfl hl.1 rfl (lv_room (Nat.le_of_ble_eq_true rfl)) dX11_comes_20 ⟨Nat.zero_le _, Nat.zero_le _⟩) (fun H locs hP hD hS => ?_)
  refine W.eq (g2 := F0 m 23 ls [.int r3.1]) rfl ?_
  injection hF with hz
  injection hz with hq0 hz
  injection hz with hq1 hz
  injection hz with hq2 hz
  injection hz with hq3 hz
  injection hz with hq4 hz
  injection hz with hq5 hz
  injection hz with hq6 hz
  injection hz with hq7 hz
  subst hq0
  subst hq1
  subst hq2
  subst hq3
  subst hq4
  subst hq5
  subst hq6
  subst hq7
  subst hz
  exact cm_reti hx hb hr rfl hlk hK hP hD hS dX11_comes_23

/-! HeadsByHair.timesHeads(LHeadsByHair$Throw;III)I -/
abbrev rm_X11_timesHeads : Room := { frames := 5, cells := 0, slots := 0, locals := 125 }
set_option maxHeartbeats 4000000 in
set_option maxRecDepth 100000 in
theorem c_X11_timesHeads (l : Launch) (G : GG) (c_p1 : Nat) (hc_p1 : c_p1 = 0 ∨ c_p1 = 1 ∨ c_p1 = 4 ∨ c_p1 = 5 ∨ c_p1 = 7 ∨ c_p1 = 9 ∨ c_p1 = 10) (a_p1 a_p1_steps h a_now a_kept a_reader a_flight a_latest a_now_edge a_now_bend a_now_rise a_now_wandering a_now_thrown a_now_alike a_now_law a_now_tape a_now_side : Nat) (x_p1_kind x_p1_number x_p1_v x_p1_caught x_isKept x_flight_hand x_flight_edge x_flight_bend x_flight_rise x_flight_last x_flight_tick x_flight_angle x_flight_lean x_now_coins x_now_hands x_now_laws x_now_bytes x_now_sides : Int32) (f_p1_steps : Nat → Int32) (f_now_bend : Nat → Int32) (f_now_edge : Nat → Int32) (f_now_rise : Nat → Int32) (f_now_wandering : Nat → Int32) (n_p1_steps : Nat) (l2 : Int32) (l3 : Int32) (l4 : Int32) (z : Int32) (z_x_flight_hand : Int32) (z_x_flight_edge : Int32) (z_x_flight_bend : Int32) (z_x_flight_rise : Int32) (z_x_flight_last : Int32) (z_x_flight_tick : Int32) (z_x_flight_angle : Int32) (z_x_flight_lean : Int32) (hF : fX11_timesHeads n_p1_steps c_p1 x_p1_v x_p1_caught x_flight_hand x_flight_edge x_flight_bend x_flight_rise x_flight_last x_flight_tick x_flight_angle x_flight_lean f_p1_steps f_now_bend f_now_edge f_now_rise f_now_wandering l2 l3 l4 = some (z, z_x_flight_hand, z_x_flight_edge, z_x_flight_bend, z_x_flight_rise, z_x_flight_last, z_x_flight_tick, z_x_flight_angle, z_x_flight_lean)) : CMi l yX11_timesHeads wsX11_timesHeads rm_X11_timesHeads G [oT c_p1 a_p1 x_p1_kind x_p1_number x_p1_v x_p1_caught a_p1_steps, o11 h a_now a_kept x_isKept a_reader a_flight a_latest, o2 a_flight x_flight_hand x_flight_edge x_flight_bend x_flight_rise x_flight_last x_flight_tick x_flight_angle x_flight_lean, o6 a_now x_now_coins x_now_hands x_now_laws x_now_bytes x_now_sides a_now_edge a_now_bend a_now_rise a_now_wandering a_now_thrown a_now_alike a_now_law a_now_tape a_now_side, aI G a_p1_steps n_p1_steps f_p1_steps, aI G a_now_bend 6 f_now_bend, aI G a_now_edge 6 f_now_edge, aI G a_now_rise 6 f_now_rise, aI G a_now_wandering 6 f_now_wandering] [oT c_p1 a_p1 x_p1_kind x_p1_number x_p1_v x_p1_caught a_p1_steps, o11 h a_now a_kept x_isKept a_reader a_flight a_latest, o2 a_flight z_x_flight_hand z_x_flight_edge z_x_flight_bend z_x_flight_rise z_x_flight_last z_x_flight_tick z_x_flight_angle z_x_flight_lean, o6 a_now x_now_coins x_now_hands x_now_laws x_now_bytes x_now_sides a_now_edge a_now_bend a_now_rise a_now_wandering a_now_thrown a_now_alike a_now_law a_now_tape a_now_side, aI G a_p1_steps n_p1_steps f_p1_steps, aI G a_now_bend 6 f_now_bend, aI G a_now_edge 6 f_now_edge, aI G a_now_rise 6 f_now_rise, aI G a_now_wandering 6 f_now_wandering] [.ref h, .ref a_p1, .int l2, .int l3, .int l4] z := by
  refine cm_start (cc := cX11_timesHeads) (maxL := 9) (ret := (some .int)) (Qc := fun A => QI G [oT c_p1 a_p1 x_p1_kind x_p1_number x_p1_v x_p1_caught a_p1_steps, o11 h a_now a_kept x_isKept a_reader a_flight a_latest, o2 a_flight z_x_flight_hand z_x_flight_edge z_x_flight_bend z_x_flight_rise z_x_flight_last z_x_flight_tick z_x_flight_angle z_x_flight_lean, o6 a_now x_now_coins x_now_hands x_now_laws x_now_bytes x_now_sides a_now_edge a_now_bend a_now_rise a_now_wandering a_now_thrown a_now_alike a_now_law a_now_tape a_now_side, aI G a_p1_steps n_p1_steps f_p1_steps, aI G a_now_bend 6 f_now_bend, aI G a_now_edge 6 f_now_edge, aI G a_now_rise 6 f_now_rise, aI G a_now_wandering 6 f_now_wandering] z A) (by decide +kernel) rfl (Nat.le_of_ble_eq_true rfl) ?_
  intro p e s m args below meth c A hx hb hr hlk hml hown hnm hts hA H locs hP hK hD hE hS ls hl
  have hown : s.vm.findClass RX11 = some m.cls := hown
  have hl : lv_has ls 9 [(0, .ref h), (1, .ref a_p1), (2, .int l2), (3, .int l3), (4, .int l4)] := hl
  have hin11 : ∀ w ∈ wsX110, w ∈ wsX11_timesHeads := by decide +kernel
  have hin6 : ∀ w ∈ wsX60, w ∈ wsX11_timesHeads := by decide +kernel
  have lk_12 := hts (.fieldLink RX11 12 "HeadsByHair" "now" "LHeadsByHair$Stock;") (by decide +kernel)
  have lk_60 := va_Nw.use (A := args) rfl (hE.nw (.fieldLinkNest "HeadsByHair" 60 "HeadsByHair$Stock" "rise" "[I" "HeadsByHair") (by decide +kernel))
  have lk_63 := va_Nw.use (A := args) rfl (hE.nw (.fieldLinkNest "HeadsByHair" 63 "HeadsByHair$Stock" "wandering" "[I" "HeadsByHair") (by decide +kernel))
  have lm_184 := hts (.methodLink RX11 184 Lib.Math.max.name) (by decide +kernel)
  have ms_max := hts (.static Lib.Math.max.name) (by decide +kernel)
  have mi := hts (.initialized "java/lang/Math") (by decide +kernel)
  have mc_max := hts (.code Lib.Math.max.name Lib.Math.max.code 2 (some .int)) (by decide +kernel)
  revert hF
  have LP30 : ∀ (l2 : Int32) (l3 : Int32) (l4 : Int32) (l5 : Int32) (l6 : Int32) (n : Nat) (x_flight_hand : Int32) (x_flight_edge : Int32) (x_flight_bend : Int32) (x_flight_rise : Int32) (x_flight_last : Int32) (x_flight_tick : Int32) (x_flight_angle : Int32) (x_flight_lean : Int32) (l7 : Int32) (l8 : Int32) (H : Heap) (locs : List Loc) (ls : Array Slot), va_P G.1 vwCl [oT c_p1 a_p1 x_p1_kind x_p1_number x_p1_v x_p1_caught a_p1_steps, o11 h a_now a_kept x_isKept a_reader a_flight a_latest, o2 a_flight x_flight_hand x_flight_edge x_flight_bend x_flight_rise x_flight_last x_flight_tick x_flight_angle x_flight_lean, o6 a_now x_now_coins x_now_hands x_now_laws x_now_bytes x_now_sides a_now_edge a_now_bend a_now_rise a_now_wandering a_now_thrown a_now_alike a_now_law a_now_tape a_now_side, aI G a_p1_steps n_p1_steps f_p1_steps, aI G a_now_bend 6 f_now_bend, aI G a_now_edge 6 f_now_edge, aI G a_now_rise 6 f_now_rise, aI G a_now_wandering 6 f_now_wandering] H → va_D A [oT c_p1 a_p1 x_p1_kind x_p1_number x_p1_v x_p1_caught a_p1_steps, o11 h a_now a_kept x_isKept a_reader a_flight a_latest, o2 a_flight x_flight_hand x_flight_edge x_flight_bend x_flight_rise x_flight_last x_flight_tick x_flight_angle x_flight_lean, o6 a_now x_now_coins x_now_hands x_now_laws x_now_bytes x_now_sides a_now_edge a_now_bend a_now_rise a_now_wandering a_now_thrown a_now_alike a_now_law a_now_tape a_now_side, aI G a_p1_steps n_p1_steps f_p1_steps, aI G a_now_bend 6 f_now_bend, aI G a_now_edge 6 f_now_edge, aI G a_now_rise 6 f_now_rise, aI G a_now_wandering 6 f_now_wandering] → va_S A s.heap H locs → lv_has ls 9 [(0, .ref h), (1, .ref a_p1), (2, .int l2), (3, .int l3), (4, .int l4), (5, .int l5), (6, .int l6), (7, .int l7), (8, .int l8)] → fX11_timesHeads_L30 n_p1_steps c_p1 x_p1_v x_p1_caught f_p1_steps f_now_bend f_now_edge f_now_rise f_now_wandering l2 l3 l4 l5 l6 n x_flight_hand x_flight_edge x_flight_bend x_flight_rise x_flight_last x_flight_tick x_flight_angle x_flight_lean l7 l8 = some (z, z_x_flight_hand, z_x_flight_edge, z_x_flight_bend, z_x_flight_rise, z_x_flight_last, z_x_flight_tick, z_x_flight_angle, z_x_flight_lean) → W p l e (rm_X11_timesHeads) s m args below meth c H locs 0 0 (MQ below (QI G [oT c_p1 a_p1 x_p1_kind x_p1_number x_p1_v x_p1_caught a_p1_steps, o11 h a_now a_kept x_isKept a_reader a_flight a_latest, o2 a_flight z_x_flight_hand z_x_flight_edge z_x_flight_bend z_x_flight_rise z_x_flight_last z_x_flight_tick z_x_flight_angle z_x_flight_lean, o6 a_now x_now_coins x_now_hands x_now_laws x_now_bytes x_now_sides a_now_edge a_now_bend a_now_rise a_now_wandering a_now_thrown a_now_alike a_now_law a_now_tape a_now_side, aI G a_p1_steps n_p1_steps f_p1_steps, aI G a_now_bend 6 f_now_bend, aI G a_now_edge 6 f_now_edge, aI G a_now_rise 6 f_now_rise, aI G a_now_wandering 6 f_now_wandering] z A) args s 0 0 A) (F0 m 30 ls []) := by
    intro l2 l3 l4 l5 l6 n
    induction n with
    | zero =>
      intro x_flight_hand x_flight_edge x_flight_bend x_flight_rise x_flight_last x_flight_tick x_flight_angle x_flight_lean l7 l8 H locs ls hP hD hS hl hF
      cases hF
    | succ n ih =>
      intro x_flight_hand x_flight_edge x_flight_bend x_flight_rise x_flight_last x_flight_tick x_flight_angle x_flight_lean l7 l8 H locs ls hP hD hS hl hF
      rw [fX11_timesHeads_L30] at hF
      refine lv_iload hx hb dX11_timesHeads_30 (lv_at hl 8 rfl) ?_
      refine lv_iload hx hb dX11_timesHeads_32 (lv_at hl 6 rfl) ?_
      refine lv_icmp_gt (tgt := 68) hx hb dX11_timesHeads_34 (by decide) (fun c2 => ?_) (fun c2 => ?_)
      · rw [if_pos c2] at hF
        refine lv_iload hx hb dX11_timesHeads_68 (lv_at hl 7 rfl) ?_
        injection hF with hz
        injection hz with hq0 hz
        injection hz with hq1 hz
        injection hz with hq2 hz
        injection hz with hq3 hz
        injection hz with hq4 hz
        injection hz with hq5 hz
        injection hz with hq6 hz
        injection hz with hq7 hz
        subst hq0
        subst hq1
        subst hq2
        subst hq3
        subst hq4
        subst hq5
        subst hq6
        subst hq7
        subst hz
        exact cm_reti hx hb hr rfl hlk hK hP hD hS dX11_timesHeads_70
      rw [if_neg c2] at hF
      refine lv_aload_n hx hb dX11_timesHeads_37 rfl (lv_at hl 0 rfl) ?_
      refine lv_aload_n hx hb dX11_timesHeads_38 rfl (lv_at hl 1 rfl) ?_
      refine lv_iload_n hx hb dX11_timesHeads_39 rfl (lv_at hl 2 rfl) ?_
      refine lv_iload_n hx hb dX11_timesHeads_40 rfl (lv_at hl 3 rfl) ?_
      refine lv_iconst (v := 1) hx hb dX11_timesHeads_41 (by decide) ?_
      refine lv_iload hx hb dX11_timesHeads_42 (lv_at hl 5 rfl) ?_
      refine lv_iload hx hb dX11_timesHeads_44 (lv_at hl 8 rfl) ?_
      refine lv_iadd hx hb dX11_timesHeads_46 ?_
      refine va_mmax hx hb (hml.trans hl.1.symm) hown lm_184 ms_max mi mc_max (Nat.le_of_ble_eq_true rfl) (Nat.le_of_ble_eq_true rfl) (Nat.zero_le _) (Nat.zero_le _) dX11_timesHeads_47 ?_
      refine lv_iload hx hb dX11_timesHeads_50 (lv_at hl 4 rfl) ?_
      refine W.eq (g2 := F0 m 52 ls [.int l4, .int (if 1 < (l5 + l8) then (l5 + l8) else 1), .int l3, .int l2, .ref a_p1, .ref h]) rfl ?_
      obtain ⟨r3, hc4, hF⟩ := bd_some hF
      have hPc := hP.sub (ws' := [oT c_p1 a_p1 x_p1_kind x_p1_number x_p1_v x_p1_caught a_p1_steps, o11 h a_now a_kept x_isKept a_reader a_flight a_latest, o2 a_flight x_flight_hand x_flight_edge x_flight_bend x_flight_rise x_flight_last x_flight_tick x_flight_angle x_flight_lean, o6 a_now x_now_coins x_now_hands x_now_laws x_now_bytes x_now_sides a_now_edge a_now_bend a_now_rise a_now_wandering a_now_thrown a_now_alike a_now_law a_now_tape a_now_side, aI G a_p1_steps n_p1_steps f_p1_steps, aI G a_now_bend 6 f_now_bend, aI G a_now_edge 6 f_now_edge]) [0, 1, 2, 3, 4, 5, 6] rfl
      have hDc := hD.sub (ws' := [oT c_p1 a_p1 x_p1_kind x_p1_number x_p1_v x_p1_caught a_p1_steps, o11 h a_now a_kept x_isKept a_reader a_flight a_latest, o2 a_flight x_flight_hand x_flight_edge x_flight_bend x_flight_rise x_flight_last x_flight_tick x_flight_angle x_flight_lean, o6 a_now x_now_coins x_now_hands x_now_laws x_now_bytes x_now_sides a_now_edge a_now_bend a_now_rise a_now_wandering a_now_thrown a_now_alike a_now_law a_now_tape a_now_side, aI G a_p1_steps n_p1_steps f_p1_steps, aI G a_now_bend 6 f_now_bend, aI G a_now_edge 6 f_now_edge]) [0, 1, 2, 3, 4, 5, 6] (by decide) rfl
      have hFc := va_free (wc := [oT c_p1 a_p1 x_p1_kind x_p1_number x_p1_v x_p1_caught a_p1_steps, o11 h a_now a_kept x_isKept a_reader a_flight a_latest, o2 a_flight x_flight_hand x_flight_edge x_flight_bend x_flight_rise x_flight_last x_flight_tick x_flight_angle x_flight_lean, o6 a_now x_now_coins x_now_hands x_now_laws x_now_bytes x_now_sides a_now_edge a_now_bend a_now_rise a_now_wandering a_now_thrown a_now_alike a_now_law a_now_tape a_now_side, aI G a_p1_steps n_p1_steps f_p1_steps, aI G a_now_bend 6 f_now_bend, aI G a_now_edge 6 f_now_edge]) hD hS hA [0, 1, 2, 3, 4, 5, 6] rfl
      have hM := c_X11_comes l G c_p1 (by omega) a_p1 a_p1_steps h a_now a_kept a_reader a_flight a_latest a_now_edge a_now_bend a_now_rise a_now_wandering a_now_thrown a_now_alike a_now_law a_now_tape a_now_side x_p1_kind x_p1_number x_p1_v x_p1_caught x_isKept x_flight_hand x_flight_edge x_flight_bend x_flight_rise x_flight_last x_flight_tick x_flight_angle x_flight_lean x_now_coins x_now_hands x_now_laws x_now_bytes x_now_sides f_p1_steps f_now_bend f_now_edge n_p1_steps l2 l3 (if 1 < (l5 + l8) then (l5 + l8) else 1) l4 r3.1 r3.2.1 r3.2.2.1 r3.2.2.2.1 r3.2.2.2.2.1 r3.2.2.2.2.2.1 r3.2.2.2.2.2.2.1 r3.2.2.2.2.2.2.2.1 r3.2.2.2.2.2.2.2.2 hc4 H.size
      refine cl_i (w1 := [oT c_p1 a_p1 x_p1_kind x_p1_number x_p1_v x_p1_caught a_p1_steps, o11 h a_now a_kept x_isKept a_reader a_flight a_latest, o2 a_flight r3.2.1 r3.2.2.1 r3.2.2.2.1 r3.2.2.2.2.1 r3.2.2.2.2.2.1 r3.2.2.2.2.2.2.1 r3.2.2.2.2.2.2.2.1 r3.2.2.2.2.2.2.2.2, o6 a_now x_now_coins x_now_hands x_now_laws x_now_bytes x_now_sides a_now_edge a_now_bend a_now_rise a_now_wandering a_now_thrown a_now_alike a_now_law a_now_tape a_now_side, aI G a_p1_steps n_p1_steps f_p1_steps, aI G a_now_bend 6 f_now_bend, aI G a_now_edge 6 f_now_edge]) (ws' := [oT c_p1 a_p1 x_p1_kind x_p1_number x_p1_v x_p1_caught a_p1_steps, o11 h a_now a_kept x_isKept a_reader a_flight a_latest, o2 a_flight r3.2.1 r3.2.2.1 r3.2.2.2.1 r3.2.2.2.2.1 r3.2.2.2.2.2.1 r3.2.2.2.2.2.2.1 r3.2.2.2.2.2.2.2.1 r3.2.2.2.2.2.2.2.2, o6 a_now x_now_coins x_now_hands x_now_laws x_now_bytes x_now_sides a_now_edge a_now_bend a_now_rise a_now_wandering a_now_thrown a_now_alike a_now_law a_now_tape a_now_side, aI G a_p1_steps n_p1_steps f_p1_steps, aI G a_now_bend 6 f_now_bend, aI G a_now_edge 6 f_now_edge, aI G a_now_rise 6 f_now_rise, aI G a_now_wandering 6 f_now_wandering]) hP hD hS hFc [0, 1, 2, 3, 4, 5, 6] rfl rfl rfl (va_runV (As := [.ref a_p1, .int l2, .int l3, .int (if 1 < (l5 + l8) then (l5 + l8) else 1), .int l4]) (rest := []) ⟨hx, hb, hml, hown, hts⟩ hM (cwV 5 hts gX11_timesHeads_X11_comes rfl rfl rfl (by decide +kernel) ⟨Nat.le_of_ble_eq_true rfl, Nat.le_of_ble_eq_true rfl⟩) (cp_V hK hE hS hPc hDc hFc (va_recv hK hPc (ci := 11) (q0 := 1) rfl rfl)) rfl rfl hl.1 rfl (lv_room (Nat.le_of_ble_eq_true rfl)) dX11_timesHeads_52 ⟨Nat.zero_le _, Nat.zero_le _⟩) (fun H locs hP hD hS => ?_)
      refine lv_iconst (v := 1) hx hb dX11_timesHeads_55 (by decide) ?_
      refine lv_icmp_ne (tgt := 62) hx hb dX11_timesHeads_56 (by decide) (fun c5 => ?_) (fun c5 => ?_)
      · rw [if_neg c5] at hF
        refine lv_iinc (v := l8 + 1) (lv' := [(8, .int (l8 + 1)), (0, .ref h), (1, .ref a_p1), (2, .int l2), (3, .int l3), (4, .int l4), (5, .int l5), (6, .int l6), (7, .int l7)]) hx hb dX11_timesHeads_62 hl (k := 8) rfl rfl (by decide) rfl (fun ls hl => ?_)
        refine lv_goto (tgt := 30) hx hb dX11_timesHeads_65 (by decide) ?_
        exact ih _ _ _ _ _ _ _ _ _ _ H locs ls hP hD hS (lv_sub hl [1, 2, 3, 4, 5, 6, 7, 8, 0] rfl) hF
      rw [if_pos c5] at hF
      refine lv_iinc (v := l7 + 1) (lv' := [(7, .int (l7 + 1)), (0, .ref h), (1, .ref a_p1), (2, .int l2), (3, .int l3), (4, .int l4), (5, .int l5), (6, .int l6), (8, .int l8)]) hx hb dX11_timesHeads_59 hl (k := 7) rfl rfl (by decide) rfl (fun ls hl => ?_)
      refine lv_iinc (v := l8 + 1) (lv' := [(8, .int (l8 + 1)), (7, .int (l7 + 1)), (0, .ref h), (1, .ref a_p1), (2, .int l2), (3, .int l3), (4, .int l4), (5, .int l5), (6, .int l6)]) hx hb dX11_timesHeads_62 hl (k := 8) rfl rfl (by decide) rfl (fun ls hl => ?_)
      refine lv_goto (tgt := 30) hx hb dX11_timesHeads_65 (by decide) ?_
      exact ih _ _ _ _ _ _ _ _ _ _ H locs ls hP hD hS (lv_sub hl [2, 3, 4, 5, 6, 7, 8, 1, 0] rfl) hF
  intro hF
  unfold fX11_timesHeads at hF
  refine lv_aload_n hx hb dX11_timesHeads_0 rfl (lv_at hl 0 rfl) ?_
  refine va_get (D := G.1) (ci := 11) (v := .ref a_now) (C := RX11) (T := TX11) (N := 6) hx hb hts hin11 hown hK hP 1 rfl rfl 0 (by decide) lk_12 (fun _ h9 => h9) rfl dX11_timesHeads_1 ?_
  refine va_getN (D := G.1) (ci := 6) (v := .ref a_now_rise) (C := RX6) (T := TX6) (N := 14) hx hb hts hin6 hown hK hP 3 rfl rfl 7 (by decide) lk_60 (fun _ h9 => h9) rfl dX11_timesHeads_4 ?_
  refine lv_iload_n hx hb dX11_timesHeads_7 rfl (lv_at hl 2 rfl) ?_
  obtain ⟨hi1, hF⟩ := ck_some hF
  refine va_iald (D := G.1) hx hb hK hP 7 0 rfl rfl hi1 dX11_timesHeads_8 ?_
  refine lv_istore (lv' := [(5, .int (f_now_rise l2.toNatClampNeg)), (0, .ref h), (1, .ref a_p1), (2, .int l2), (3, .int l3), (4, .int l4)]) hx hb dX11_timesHeads_9 hl (by decide) rfl (fun ls hl => ?_)
  refine lv_aload_n hx hb dX11_timesHeads_11 rfl (lv_at hl 1 rfl) ?_
  refine va_get (D := G.1) (ci := 11) (v := .ref a_now) (C := RX11) (T := TX11) (N := 6) hx hb hts hin11 hown hK hP 1 rfl rfl 0 (by decide) lk_12 (fun _ h9 => h9) rfl dX11_timesHeads_12 ?_
  refine va_getN (D := G.1) (ci := 6) (v := .ref a_now_wandering) (C := RX6) (T := TX6) (N := 14) hx hb hts hin6 hown hK hP 3 rfl rfl 8 (by decide) lk_63 (fun _ h9 => h9) rfl dX11_timesHeads_15 ?_
  refine lv_iload_n hx hb dX11_timesHeads_18 rfl (lv_at hl 3 rfl) ?_
  refine va_iald (D := G.1) hx hb hK hP 8 0 rfl rfl hi1 dX11_timesHeads_19 ?_
  refine lv_istore (lv' := [(6, .int (f_now_wandering l2.toNatClampNeg)), (5, .int (f_now_rise l2.toNatClampNeg)), (0, .ref h), (1, .ref a_p1), (2, .int l2), (3, .int l3), (4, .int l4)]) hx hb dX11_timesHeads_20 hl (by decide) rfl (fun ls hl => ?_)
  refine lv_iconst (v := 0) hx hb dX11_timesHeads_22 (by decide) ?_
  refine W.eq (g2 := F0 m 23 ls [.int 0]) rfl ?_
  refine lv_istore (lv' := [(7, .int 0), (6, .int (f_now_wandering l2.toNatClampNeg)), (5, .int (f_now_rise l2.toNatClampNeg)), (0, .ref h), (1, .ref a_p1), (2, .int l2), (3, .int l3), (4, .int l4)]) hx hb dX11_timesHeads_23 hl (by decide) rfl (fun ls hl => ?_)
  refine lv_iload hx hb dX11_timesHeads_25 (lv_at hl 1 rfl) ?_
  refine lv_ineg hx hb dX11_timesHeads_27 ?_
  refine lv_istore (lv' := [(8, .int (-(f_now_wandering l2.toNatClampNeg))), (7, .int 0), (6, .int (f_now_wandering l2.toNatClampNeg)), (5, .int (f_now_rise l2.toNatClampNeg)), (0, .ref h), (1, .ref a_p1), (2, .int l2), (3, .int l3), (4, .int l4)]) hx hb dX11_timesHeads_28 hl (by decide) rfl (fun ls hl => ?_)
  refine LP30 _ _ _ _ _ _ _ _ _ _ _ _ _ _ _ _ H locs ls hP hD hS (lv_sub hl [4, 5, 6, 7, 8, 3, 2, 1, 0] rfl) hF
