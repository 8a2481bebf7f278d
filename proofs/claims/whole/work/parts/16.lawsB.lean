/-! HeadsByHair.told(II)I, n -/
abbrev rm_X11_told_n : Room := { frames := 2, cells := 0, slots := 0, locals := 43 }
set_option maxHeartbeats 4000000 in
set_option maxRecDepth 100000 in
theorem c_X11_told_n (l : Launch) (G : GG) (h a_now a_kept a_reader a_flight a_latest a_now_edge a_now_bend a_now_rise a_now_wandering a_now_thrown a_now_alike a_now_law a_now_tape a_now_side : Nat) (x_isKept x_now_coins x_now_hands x_now_laws x_now_bytes x_now_sides : Int32) (f_now_law : Nat → Option Nat) (l1 : Int32) (l2 : Int32) (z : Int32) (hlaw : fX11_lawOf x_now_laws f_now_law l1 = some none) (hF : fX11_told_n x_now_laws f_now_law l1 l2 = some (z)) : CMi l yX11_told wsX11_told rm_X11_told_n G [o11 h a_now a_kept x_isKept a_reader a_flight a_latest, o6 a_now x_now_coins x_now_hands x_now_laws x_now_bytes x_now_sides a_now_edge a_now_bend a_now_rise a_now_wandering a_now_thrown a_now_alike a_now_law a_now_tape a_now_side, aT G a_now_law 8 f_now_law] [o11 h a_now a_kept x_isKept a_reader a_flight a_latest, o6 a_now x_now_coins x_now_hands x_now_laws x_now_bytes x_now_sides a_now_edge a_now_bend a_now_rise a_now_wandering a_now_thrown a_now_alike a_now_law a_now_tape a_now_side, aT G a_now_law 8 f_now_law] [.ref h, .int l1, .int l2] z := by
  refine cm_start (cc := cX11_told) (maxL := 4) (ret := (some .int)) (Qc := fun A => QI G [o11 h a_now a_kept x_isKept a_reader a_flight a_latest, o6 a_now x_now_coins x_now_hands x_now_laws x_now_bytes x_now_sides a_now_edge a_now_bend a_now_rise a_now_wandering a_now_thrown a_now_alike a_now_law a_now_tape a_now_side, aT G a_now_law 8 f_now_law] z A) (by decide +kernel) rfl (Nat.le_of_ble_eq_true rfl) ?_
  intro p e s m args below meth c A hx hb hr hlk hml hown hnm hts hA H locs hP hK hD hE hS ls hl
  have hown : s.vm.findClass RX11 = some m.cls := hown
  have hl : lv_has ls 4 [(0, .ref h), (1, .int l1), (2, .int l2)] := hl
  revert hF
  intro hF
  unfold fX11_told_n at hF
  refine lv_aload_n hx hb dX11_told_0 rfl (lv_at hl 0 rfl) ?_
  refine lv_iload_n hx hb dX11_told_1 rfl (lv_at hl 1 rfl) ?_
  have hPc := hP.sub (ws' := [o11 h a_now a_kept x_isKept a_reader a_flight a_latest, o6 a_now x_now_coins x_now_hands x_now_laws x_now_bytes x_now_sides a_now_edge a_now_bend a_now_rise a_now_wandering a_now_thrown a_now_alike a_now_law a_now_tape a_now_side, aT G a_now_law 8 f_now_law]) [0, 1, 2] rfl
  have hDc := hD.sub (ws' := [o11 h a_now a_kept x_isKept a_reader a_flight a_latest, o6 a_now x_now_coins x_now_hands x_now_laws x_now_bytes x_now_sides a_now_edge a_now_bend a_now_rise a_now_wandering a_now_thrown a_now_alike a_now_law a_now_tape a_now_side, aT G a_now_law 8 f_now_law]) [0, 1, 2] (by decide) rfl
  have hFc := va_free (wc := [o11 h a_now a_kept x_isKept a_reader a_flight a_latest, o6 a_now x_now_coins x_now_hands x_now_laws x_now_bytes x_now_sides a_now_edge a_now_bend a_now_rise a_now_wandering a_now_thrown a_now_alike a_now_law a_now_tape a_now_side, aT G a_now_law 8 f_now_law]) hD hS hA [0, 1, 2] rfl
  have hM := c_X11_lawOf l G h a_now a_kept a_reader a_flight a_latest a_now_edge a_now_bend a_now_rise a_now_wandering a_now_thrown a_now_alike a_now_law a_now_tape a_now_side x_isKept x_now_coins x_now_hands x_now_laws x_now_bytes x_now_sides f_now_law l1 none hlaw H.size
  refine cl_r (z := none) (w1 := [o11 h a_now a_kept x_isKept a_reader a_flight a_latest, o6 a_now x_now_coins x_now_hands x_now_laws x_now_bytes x_now_sides a_now_edge a_now_bend a_now_rise a_now_wandering a_now_thrown a_now_alike a_now_law a_now_tape a_now_side, aT G a_now_law 8 f_now_law]) (ws' := [o11 h a_now a_kept x_isKept a_reader a_flight a_latest, o6 a_now x_now_coins x_now_hands x_now_laws x_now_bytes x_now_sides a_now_edge a_now_bend a_now_rise a_now_wandering a_now_thrown a_now_alike a_now_law a_now_tape a_now_side, aT G a_now_law 8 f_now_law]) hP hD hS hFc [0, 1, 2] rfl rfl rfl (va_runV (As := [.int l1]) (rest := []) ⟨hx, hb, hml, hown, hts⟩ hM (cwV 1 hts gX11_told_X11_lawOf rfl rfl rfl (by decide +kernel) ⟨Nat.le_of_ble_eq_true rfl, Nat.le_of_ble_eq_true rfl⟩) (cp_V hK hE hS hPc hDc hFc (va_recv hK hPc (ci := 11) (q0 := 0) rfl rfl)) rfl rfl hl.1 rfl (lv_room (Nat.le_of_ble_eq_true rfl)) dX11_told_2 ⟨Nat.zero_le _, Nat.zero_le _⟩) (fun H locs hP hD hS => ?_)
  refine W.eq (g2 := F0 m 5 ls [.null]) rfl ?_
  refine lv_astore_nN (lv' := [(3, .null), (0, .ref h), (1, .int l1), (2, .int l2)]) hx hb dX11_told_5 rfl hl (by decide) rfl (fun ls hl => ?_)
  refine lv_aload_nN hx hb dX11_told_6 rfl (lv_at hl 0 rfl) ?_
  refine lv_ifnonnullN hx hb dX11_told_7 ?_
  refine lv_iconst (v := (-1)) hx hb dX11_told_10 (by decide) ?_
  injection hF with hz
  subst hz
  exact cm_reti hx hb hr rfl hlk hK hP hD hS dX11_told_11

/-! HeadsByHair.told(II)I, s -/
abbrev rm_X11_told_s : Room := { frames := 2, cells := 0, slots := 0, locals := 43 }
set_option maxHeartbeats 4000000 in
set_option maxRecDepth 100000 in
theorem c_X11_told_s (l : Launch) (G : GG) (c_q : Nat) (hc_q : c_q = 0 ∨ c_q = 1 ∨ c_q = 4 ∨ c_q = 5 ∨ c_q = 7 ∨ c_q = 9 ∨ c_q = 10) (a_q a_q_steps h a_now a_kept a_reader a_flight a_latest a_now_edge a_now_bend a_now_rise a_now_wandering a_now_thrown a_now_alike a_now_law a_now_tape a_now_side : Nat) (x_q_kind x_q_number x_q_v x_q_caught x_isKept x_now_coins x_now_hands x_now_laws x_now_bytes x_now_sides : Int32) (f_now_law : Nat → Option Nat) (l1 : Int32) (l2 : Int32) (z : Int32) (hlaw : fX11_lawOf x_now_laws f_now_law l1 = some (some a_q)) (hF : fX11_told_s c_q x_q_kind x_q_v x_q_caught x_now_laws f_now_law l1 l2 = some (z)) : CMi l yX11_told wsX11_told rm_X11_told_s G [oT c_q a_q x_q_kind x_q_number x_q_v x_q_caught a_q_steps, o11 h a_now a_kept x_isKept a_reader a_flight a_latest, o6 a_now x_now_coins x_now_hands x_now_laws x_now_bytes x_now_sides a_now_edge a_now_bend a_now_rise a_now_wandering a_now_thrown a_now_alike a_now_law a_now_tape a_now_side, aT G a_now_law 8 f_now_law] [oT c_q a_q x_q_kind x_q_number x_q_v x_q_caught a_q_steps, o11 h a_now a_kept x_isKept a_reader a_flight a_latest, o6 a_now x_now_coins x_now_hands x_now_laws x_now_bytes x_now_sides a_now_edge a_now_bend a_now_rise a_now_wandering a_now_thrown a_now_alike a_now_law a_now_tape a_now_side, aT G a_now_law 8 f_now_law] [.ref h, .int l1, .int l2] z := by
  refine cm_start (cc := cX11_told) (maxL := 4) (ret := (some .int)) (Qc := fun A => QI G [oT c_q a_q x_q_kind x_q_number x_q_v x_q_caught a_q_steps, o11 h a_now a_kept x_isKept a_reader a_flight a_latest, o6 a_now x_now_coins x_now_hands x_now_laws x_now_bytes x_now_sides a_now_edge a_now_bend a_now_rise a_now_wandering a_now_thrown a_now_alike a_now_law a_now_tape a_now_side, aT G a_now_law 8 f_now_law] z A) (by decide +kernel) rfl (Nat.le_of_ble_eq_true rfl) ?_
  intro p e s m args below meth c A hx hb hr hlk hml hown hnm hts hA H locs hP hK hD hE hS ls hl
  have hown : s.vm.findClass RX11 = some m.cls := hown
  have hl : lv_has ls 4 [(0, .ref h), (1, .int l1), (2, .int l2)] := hl
  have hT_c_q : isT c_q := by unfold isT; omega
  have hin_c_q : ∀ w ∈ u_ws (tC c_q) TX7 5, w ∈ wsX11_told := by rcases hc_q with rfl | rfl | rfl | rfl | rfl | rfl | rfl <;> decide +kernel
  have lk_117 := hts (.fieldLink RX11 117 "HeadsByHair$Throw" "kind" "I") (by decide +kernel)
  have lk_122 := hts (.fieldLink RX11 122 "HeadsByHair$Throw" "v" "I") (by decide +kernel)
  have lk_125 := hts (.fieldLink RX11 125 "HeadsByHair$Throw" "caught" "I") (by decide +kernel)
  revert hF
  intro hF
  unfold fX11_told_s at hF
  refine lv_aload_n hx hb dX11_told_0 rfl (lv_at hl 0 rfl) ?_
  refine lv_iload_n hx hb dX11_told_1 rfl (lv_at hl 1 rfl) ?_
  have hPc := hP.sub (ws' := [o11 h a_now a_kept x_isKept a_reader a_flight a_latest, o6 a_now x_now_coins x_now_hands x_now_laws x_now_bytes x_now_sides a_now_edge a_now_bend a_now_rise a_now_wandering a_now_thrown a_now_alike a_now_law a_now_tape a_now_side, aT G a_now_law 8 f_now_law]) [1, 2, 3] rfl
  have hDc := hD.sub (ws' := [o11 h a_now a_kept x_isKept a_reader a_flight a_latest, o6 a_now x_now_coins x_now_hands x_now_laws x_now_bytes x_now_sides a_now_edge a_now_bend a_now_rise a_now_wandering a_now_thrown a_now_alike a_now_law a_now_tape a_now_side, aT G a_now_law 8 f_now_law]) [1, 2, 3] (by decide) rfl
  have hFc := va_free (wc := [o11 h a_now a_kept x_isKept a_reader a_flight a_latest, o6 a_now x_now_coins x_now_hands x_now_laws x_now_bytes x_now_sides a_now_edge a_now_bend a_now_rise a_now_wandering a_now_thrown a_now_alike a_now_law a_now_tape a_now_side, aT G a_now_law 8 f_now_law]) hD hS hA [1, 2, 3] rfl
  have hM := c_X11_lawOf l G h a_now a_kept a_reader a_flight a_latest a_now_edge a_now_bend a_now_rise a_now_wandering a_now_thrown a_now_alike a_now_law a_now_tape a_now_side x_isKept x_now_coins x_now_hands x_now_laws x_now_bytes x_now_sides f_now_law l1 (some a_q) hlaw H.size
  refine cl_r (z := (some a_q)) (w1 := [o11 h a_now a_kept x_isKept a_reader a_flight a_latest, o6 a_now x_now_coins x_now_hands x_now_laws x_now_bytes x_now_sides a_now_edge a_now_bend a_now_rise a_now_wandering a_now_thrown a_now_alike a_now_law a_now_tape a_now_side, aT G a_now_law 8 f_now_law]) (ws' := [oT c_q a_q x_q_kind x_q_number x_q_v x_q_caught a_q_steps, o11 h a_now a_kept x_isKept a_reader a_flight a_latest, o6 a_now x_now_coins x_now_hands x_now_laws x_now_bytes x_now_sides a_now_edge a_now_bend a_now_rise a_now_wandering a_now_thrown a_now_alike a_now_law a_now_tape a_now_side, aT G a_now_law 8 f_now_law]) hP hD hS hFc [1, 2, 3] rfl rfl rfl (va_runV (As := [.int l1]) (rest := []) ⟨hx, hb, hml, hown, hts⟩ hM (cwV 1 hts gX11_told_X11_lawOf rfl rfl rfl (by decide +kernel) ⟨Nat.le_of_ble_eq_true rfl, Nat.le_of_ble_eq_true rfl⟩) (cp_V hK hE hS hPc hDc hFc (va_recv hK hPc (ci := 11) (q0 := 0) rfl rfl)) rfl rfl hl.1 rfl (lv_room (Nat.le_of_ble_eq_true rfl)) dX11_told_2 ⟨Nat.zero_le _, Nat.zero_le _⟩) (fun H locs hP hD hS => ?_)
  refine W.eq (g2 := F0 m 5 ls [.ref a_q]) rfl ?_
  refine lv_astore_n (lv' := [(3, .ref a_q), (0, .ref h), (1, .int l1), (2, .int l2)]) hx hb dX11_told_5 rfl hl (by decide) rfl (fun ls hl => ?_)
  refine lv_aload_n hx hb dX11_told_6 rfl (lv_at hl 0 rfl) ?_
  refine lv_ifnonnull (tgt := 12) hx hb dX11_told_7 (by decide) ?_
  refine lv_iload_n hx hb dX11_told_12 rfl (lv_at hl 3 rfl) ?_
  by_cases c1 : l2 = 0
  · rw [if_pos c1] at hF
    refine lv_eqi c1 ?_
    refine lv_tableIn (tgt := 40) (off := 27) hx hb dX11_told_13 (by decide) (by decide) (by decide) (by decide) ?_
    refine lv_aload_n hx hb dX11_told_40 rfl (lv_at hl 0 rfl) ?_
    refine va_get (D := G.1) (ci := c_q) (v := .int x_q_kind) (C := tC c_q) (T := TX7) (N := 5) hx hb hts hin_c_q hown hK hP 0 rfl (tC_at hT_c_q) 0 (by decide) lk_117 (fun _ h9 => h9) rfl dX11_told_41 ?_
    injection hF with hz
    subst hz
    exact cm_reti hx hb hr rfl hlk hK hP hD hS dX11_told_44
  rw [if_neg c1] at hF
  by_cases c2 : l2 = 1
  · rw [if_pos c2] at hF
    refine lv_eqi c2 ?_
    refine lv_tableIn (tgt := 45) (off := 32) hx hb dX11_told_13 (by decide) (by decide) (by decide) (by decide) ?_
    refine lv_aload_n hx hb dX11_told_45 rfl (lv_at hl 0 rfl) ?_
    refine va_get (D := G.1) (ci := c_q) (v := .int x_q_v) (C := tC c_q) (T := TX7) (N := 5) hx hb hts hin_c_q hown hK hP 0 rfl (tC_at hT_c_q) 2 (by decide) lk_122 (fun _ h9 => h9) rfl dX11_told_46 ?_
    injection hF with hz
    subst hz
    exact cm_reti hx hb hr rfl hlk hK hP hD hS dX11_told_49
  rw [if_neg c2] at hF
  by_cases c3 : l2 = 2
  · rw [if_pos c3] at hF
    refine lv_eqi c3 ?_
    refine lv_tableIn (tgt := 50) (off := 37) hx hb dX11_told_13 (by decide) (by decide) (by decide) (by decide) ?_
    refine lv_aload_n hx hb dX11_told_50 rfl (lv_at hl 0 rfl) ?_
    refine va_get (D := G.1) (ci := c_q) (v := .int x_q_caught) (C := tC c_q) (T := TX7) (N := 5) hx hb hts hin_c_q hown hK hP 0 rfl (tC_at hT_c_q) 3 (by decide) lk_125 (fun _ h9 => h9) rfl dX11_told_51 ?_
    injection hF with hz
    subst hz
    exact cm_reti hx hb hr rfl hlk hK hP hD hS dX11_told_54
  rw [if_neg c3] at hF
  refine lv_tableOut (tgt := 55) hx hb dX11_told_13 (by have a0 := lv_neT (k := 0) (a := 0) c1 (by decide); have a1 := lv_neT (k := 1) (a := 1) c2 (by decide); have a2 := lv_neT (k := 2) (a := 2) c3 (by decide); omega) (by decide) ?_
  refine lv_iconst (v := (-1)) hx hb dX11_told_55 (by decide) ?_
  injection hF with hz
  subst hz
  exact cm_reti hx hb hr rfl hlk hK hP hD hS dX11_told_56

/-! HeadsByHair.toss(IIIII)I, n -/
abbrev rm_X11_toss_n : Room := { frames := 2, cells := 0, slots := 0, locals := 43 }
set_option maxHeartbeats 4000000 in
set_option maxRecDepth 100000 in
theorem c_X11_toss_n (l : Launch) (G : GG) (h a_now a_kept a_reader a_flight a_latest a_now_edge a_now_bend a_now_rise a_now_wandering a_now_thrown a_now_alike a_now_law a_now_tape a_now_side : Nat) (x_isKept x_now_coins x_now_hands x_now_laws x_now_bytes x_now_sides : Int32) (f_now_law : Nat → Option Nat) (l1 : Int32) (l2 : Int32) (l3 : Int32) (l4 : Int32) (l5 : Int32) (z : Int32) (hlaw : fX11_lawOf x_now_laws f_now_law l1 = some none) (hF : fX11_toss_n x_now_laws f_now_law l1 l2 l3 l4 l5 = some (z)) : CMi l yX11_toss wsX11_toss rm_X11_toss_n G [o11 h a_now a_kept x_isKept a_reader a_flight a_latest, o6 a_now x_now_coins x_now_hands x_now_laws x_now_bytes x_now_sides a_now_edge a_now_bend a_now_rise a_now_wandering a_now_thrown a_now_alike a_now_law a_now_tape a_now_side, aT G a_now_law 8 f_now_law] [o11 h a_now a_kept x_isKept a_reader a_flight a_latest, o6 a_now x_now_coins x_now_hands x_now_laws x_now_bytes x_now_sides a_now_edge a_now_bend a_now_rise a_now_wandering a_now_thrown a_now_alike a_now_law a_now_tape a_now_side, aT G a_now_law 8 f_now_law] [.ref h, .int l1, .int l2, .int l3, .int l4, .int l5] z := by
  refine cm_start (cc := cX11_toss) (maxL := 9) (ret := (some .int)) (Qc := fun A => QI G [o11 h a_now a_kept x_isKept a_reader a_flight a_latest, o6 a_now x_now_coins x_now_hands x_now_laws x_now_bytes x_now_sides a_now_edge a_now_bend a_now_rise a_now_wandering a_now_thrown a_now_alike a_now_law a_now_tape a_now_side, aT G a_now_law 8 f_now_law] z A) (by decide +kernel) rfl (Nat.le_of_ble_eq_true rfl) ?_
  intro p e s m args below meth c A hx hb hr hlk hml hown hnm hts hA H locs hP hK hD hE hS ls hl
  have hown : s.vm.findClass RX11 = some m.cls := hown
  have hl : lv_has ls 9 [(0, .ref h), (1, .int l1), (2, .int l2), (3, .int l3), (4, .int l4), (5, .int l5)] := hl
  revert hF
  intro hF
  unfold fX11_toss_n at hF
  refine lv_aload_n hx hb dX11_toss_0 rfl (lv_at hl 0 rfl) ?_
  refine lv_iload_n hx hb dX11_toss_1 rfl (lv_at hl 1 rfl) ?_
  have hPc := hP.sub (ws' := [o11 h a_now a_kept x_isKept a_reader a_flight a_latest, o6 a_now x_now_coins x_now_hands x_now_laws x_now_bytes x_now_sides a_now_edge a_now_bend a_now_rise a_now_wandering a_now_thrown a_now_alike a_now_law a_now_tape a_now_side, aT G a_now_law 8 f_now_law]) [0, 1, 2] rfl
  have hDc := hD.sub (ws' := [o11 h a_now a_kept x_isKept a_reader a_flight a_latest, o6 a_now x_now_coins x_now_hands x_now_laws x_now_bytes x_now_sides a_now_edge a_now_bend a_now_rise a_now_wandering a_now_thrown a_now_alike a_now_law a_now_tape a_now_side, aT G a_now_law 8 f_now_law]) [0, 1, 2] (by decide) rfl
  have hFc := va_free (wc := [o11 h a_now a_kept x_isKept a_reader a_flight a_latest, o6 a_now x_now_coins x_now_hands x_now_laws x_now_bytes x_now_sides a_now_edge a_now_bend a_now_rise a_now_wandering a_now_thrown a_now_alike a_now_law a_now_tape a_now_side, aT G a_now_law 8 f_now_law]) hD hS hA [0, 1, 2] rfl
  have hM := c_X11_lawOf l G h a_now a_kept a_reader a_flight a_latest a_now_edge a_now_bend a_now_rise a_now_wandering a_now_thrown a_now_alike a_now_law a_now_tape a_now_side x_isKept x_now_coins x_now_hands x_now_laws x_now_bytes x_now_sides f_now_law l1 none hlaw H.size
  refine cl_r (z := none) (w1 := [o11 h a_now a_kept x_isKept a_reader a_flight a_latest, o6 a_now x_now_coins x_now_hands x_now_laws x_now_bytes x_now_sides a_now_edge a_now_bend a_now_rise a_now_wandering a_now_thrown a_now_alike a_now_law a_now_tape a_now_side, aT G a_now_law 8 f_now_law]) (ws' := [o11 h a_now a_kept x_isKept a_reader a_flight a_latest, o6 a_now x_now_coins x_now_hands x_now_laws x_now_bytes x_now_sides a_now_edge a_now_bend a_now_rise a_now_wandering a_now_thrown a_now_alike a_now_law a_now_tape a_now_side, aT G a_now_law 8 f_now_law]) hP hD hS hFc [0, 1, 2] rfl rfl rfl (va_runV (As := [.int l1]) (rest := []) ⟨hx, hb, hml, hown, hts⟩ hM (cwV 1 hts gX11_toss_X11_lawOf rfl rfl rfl (by decide +kernel) ⟨Nat.le_of_ble_eq_true rfl, Nat.le_of_ble_eq_true rfl⟩) (cp_V hK hE hS hPc hDc hFc (va_recv hK hPc (ci := 11) (q0 := 0) rfl rfl)) rfl rfl hl.1 rfl (lv_room (Nat.le_of_ble_eq_true rfl)) dX11_toss_2 ⟨Nat.zero_le _, Nat.zero_le _⟩) (fun H locs hP hD hS => ?_)
  refine W.eq (g2 := F0 m 5 ls [.null]) rfl ?_
  refine lv_astoreN (lv' := [(6, .null), (0, .ref h), (1, .int l1), (2, .int l2), (3, .int l3), (4, .int l4), (5, .int l5)]) hx hb dX11_toss_5 hl (by decide) rfl (fun ls hl => ?_)
  refine lv_aloadN hx hb dX11_toss_7 (lv_at hl 0 rfl) ?_
  refine lv_ifnullN (tgt := 38) hx hb dX11_toss_9 (by decide) ?_
  refine lv_iconst (v := (-1)) hx hb dX11_toss_38 (by decide) ?_
  injection hF with hz
  subst hz
  exact cm_reti hx hb hr rfl hlk hK hP hD hS dX11_toss_39

/-! HeadsByHair.toss(IIIII)I, s -/
abbrev rm_X11_toss_s : Room := { frames := 3, cells := 0, slots := 0, locals := 76 }
set_option maxHeartbeats 4000000 in
set_option maxRecDepth 100000 in
theorem c_X11_toss_s (l : Launch) (G : GG) (c_q : Nat) (hc_q : c_q = 0 ∨ c_q = 1 ∨ c_q = 4 ∨ c_q = 5 ∨ c_q = 7 ∨ c_q = 9 ∨ c_q = 10) (a_q a_q_steps h a_now a_kept a_reader a_flight a_latest a_now_edge a_now_bend a_now_rise a_now_wandering a_now_thrown a_now_alike a_now_law a_now_tape a_now_side : Nat) (x_q_kind x_q_number x_q_v x_q_caught x_isKept x_flight_hand x_flight_edge x_flight_bend x_flight_rise x_flight_last x_flight_tick x_flight_angle x_flight_lean x_now_coins x_now_hands x_now_laws x_now_bytes x_now_sides : Int32) (f_q_steps : Nat → Int32) (f_now_bend : Nat → Int32) (f_now_edge : Nat → Int32) (f_now_law : Nat → Option Nat) (n_q_steps : Nat) (l1 : Int32) (l2 : Int32) (l3 : Int32) (l4 : Int32) (l5 : Int32) (z : Int32) (z_x_flight_hand : Int32) (z_x_flight_edge : Int32) (z_x_flight_bend : Int32) (z_x_flight_rise : Int32) (z_x_flight_last : Int32) (z_x_flight_tick : Int32) (z_x_flight_angle : Int32) (z_x_flight_lean : Int32) (hlaw : fX11_lawOf x_now_laws f_now_law l1 = some (some a_q)) (hF : fX11_toss_s n_q_steps c_q x_q_v x_q_caught x_flight_hand x_flight_edge x_flight_bend x_flight_rise x_flight_last x_flight_tick x_flight_angle x_flight_lean x_now_coins x_now_hands x_now_laws f_q_steps f_now_bend f_now_edge f_now_law l1 l2 l3 l4 l5 = some (z, z_x_flight_hand, z_x_flight_edge, z_x_flight_bend, z_x_flight_rise, z_x_flight_last, z_x_flight_tick, z_x_flight_angle, z_x_flight_lean)) : CMi l yX11_toss wsX11_toss rm_X11_toss_s G [oT c_q a_q x_q_kind x_q_number x_q_v x_q_caught a_q_steps, o11 h a_now a_kept x_isKept a_reader a_flight a_latest, o2 a_flight x_flight_hand x_flight_edge x_flight_bend x_flight_rise x_flight_last x_flight_tick x_flight_angle x_flight_lean, o6 a_now x_now_coins x_now_hands x_now_laws x_now_bytes x_now_sides a_now_edge a_now_bend a_now_rise a_now_wandering a_now_thrown a_now_alike a_now_law a_now_tape a_now_side, aI G a_q_steps n_q_steps f_q_steps, aI G a_now_bend 6 f_now_bend, aI G a_now_edge 6 f_now_edge, aT G a_now_law 8 f_now_law] [oT c_q a_q x_q_kind x_q_number x_q_v x_q_caught a_q_steps, o11 h a_now a_kept x_isKept a_reader a_flight a_latest, o2 a_flight z_x_flight_hand z_x_flight_edge z_x_flight_bend z_x_flight_rise z_x_flight_last z_x_flight_tick z_x_flight_angle z_x_flight_lean, o6 a_now x_now_coins x_now_hands x_now_laws x_now_bytes x_now_sides a_now_edge a_now_bend a_now_rise a_now_wandering a_now_thrown a_now_alike a_now_law a_now_tape a_now_side, aI G a_q_steps n_q_steps f_q_steps, aI G a_now_bend 6 f_now_bend, aI G a_now_edge 6 f_now_edge, aT G a_now_law 8 f_now_law] [.ref h, .int l1, .int l2, .int l3, .int l4, .int l5] z := by
  refine cm_start (cc := cX11_toss) (maxL := 9) (ret := (some .int)) (Qc := fun A => QI G [oT c_q a_q x_q_kind x_q_number x_q_v x_q_caught a_q_steps, o11 h a_now a_kept x_isKept a_reader a_flight a_latest, o2 a_flight z_x_flight_hand z_x_flight_edge z_x_flight_bend z_x_flight_rise z_x_flight_last z_x_flight_tick z_x_flight_angle z_x_flight_lean, o6 a_now x_now_coins x_now_hands x_now_laws x_now_bytes x_now_sides a_now_edge a_now_bend a_now_rise a_now_wandering a_now_thrown a_now_alike a_now_law a_now_tape a_now_side, aI G a_q_steps n_q_steps f_q_steps, aI G a_now_bend 6 f_now_bend, aI G a_now_edge 6 f_now_edge, aT G a_now_law 8 f_now_law] z A) (by decide +kernel) rfl (Nat.le_of_ble_eq_true rfl) ?_
  intro p e s m args below meth c A hx hb hr hlk hml hown hnm hts hA H locs hP hK hD hE hS ls hl
  have hown : s.vm.findClass RX11 = some m.cls := hown
  have hl : lv_has ls 9 [(0, .ref h), (1, .int l1), (2, .int l2), (3, .int l3), (4, .int l4), (5, .int l5)] := hl
  have hin11 : ∀ w ∈ wsX110, w ∈ wsX11_toss := by decide +kernel
  have hin2 : ∀ w ∈ wsX20, w ∈ wsX11_toss := by decide +kernel
  have hT_c_q : isT c_q := by unfold isT; omega
  have hin_c_q : ∀ w ∈ u_ws (tC c_q) TX7 5, w ∈ wsX11_toss := by rcases hc_q with rfl | rfl | rfl | rfl | rfl | rfl | rfl <;> decide +kernel
  have lk_31 := hts (.fieldLink RX11 31 "HeadsByHair" "flight" "LHeadsByHair$Flight;") (by decide +kernel)
  have lk_132 := va_Nw.use (A := args) rfl (hE.nw (.fieldLinkNest "HeadsByHair" 132 "HeadsByHair$Flight" "last" "I" "HeadsByHair") (by decide +kernel))
  have lk_135 := hts (.fieldLink RX11 135 "HeadsByHair$Throw" "steps" "[I") (by decide +kernel)
  have lk_146 := va_Nw.use (A := args) rfl (hE.nw (.fieldLinkNest "HeadsByHair" 146 "HeadsByHair$Flight" "angle" "I" "HeadsByHair") (by decide +kernel))
  revert hF
  have LP70 : ∀ (x_flight_hand : Int32) (x_flight_edge : Int32) (x_flight_bend : Int32) (x_flight_rise : Int32) (x_flight_last : Int32) (l5 : Int32) (k117 : Int32 → Int32 → Int32 → Int32 → Option (Int32 × Int32 × Int32 × Int32 × Int32 × Int32 × Int32 × Int32 × Int32)) (hk117 : ∀ (x_flight_tick : Int32) (x_flight_angle : Int32) (x_flight_lean : Int32) (l7 : Int32) (H : Heap) (locs : List Loc) (ls : Array Slot), va_P G.1 vwCl [oT c_q a_q x_q_kind x_q_number x_q_v x_q_caught a_q_steps, o11 h a_now a_kept x_isKept a_reader a_flight a_latest, o2 a_flight x_flight_hand x_flight_edge x_flight_bend x_flight_rise x_flight_last x_flight_tick x_flight_angle x_flight_lean, o6 a_now x_now_coins x_now_hands x_now_laws x_now_bytes x_now_sides a_now_edge a_now_bend a_now_rise a_now_wandering a_now_thrown a_now_alike a_now_law a_now_tape a_now_side, aI G a_q_steps n_q_steps f_q_steps, aI G a_now_bend 6 f_now_bend, aI G a_now_edge 6 f_now_edge, aT G a_now_law 8 f_now_law] H → va_D A [oT c_q a_q x_q_kind x_q_number x_q_v x_q_caught a_q_steps, o11 h a_now a_kept x_isKept a_reader a_flight a_latest, o2 a_flight x_flight_hand x_flight_edge x_flight_bend x_flight_rise x_flight_last x_flight_tick x_flight_angle x_flight_lean, o6 a_now x_now_coins x_now_hands x_now_laws x_now_bytes x_now_sides a_now_edge a_now_bend a_now_rise a_now_wandering a_now_thrown a_now_alike a_now_law a_now_tape a_now_side, aI G a_q_steps n_q_steps f_q_steps, aI G a_now_bend 6 f_now_bend, aI G a_now_edge 6 f_now_edge, aT G a_now_law 8 f_now_law] → va_S A s.heap H locs → lv_has ls 9 [(0, .ref h), (5, .int l5), (6, .ref a_q), (7, .int l7)] → k117 x_flight_tick x_flight_angle x_flight_lean l7 = some (z, z_x_flight_hand, z_x_flight_edge, z_x_flight_bend, z_x_flight_rise, z_x_flight_last, z_x_flight_tick, z_x_flight_angle, z_x_flight_lean) → W p l e (rm_X11_toss_s) s m args below meth c H locs 0 0 (MQ below (QI G [oT c_q a_q x_q_kind x_q_number x_q_v x_q_caught a_q_steps, o11 h a_now a_kept x_isKept a_reader a_flight a_latest, o2 a_flight z_x_flight_hand z_x_flight_edge z_x_flight_bend z_x_flight_rise z_x_flight_last z_x_flight_tick z_x_flight_angle z_x_flight_lean, o6 a_now x_now_coins x_now_hands x_now_laws x_now_bytes x_now_sides a_now_edge a_now_bend a_now_rise a_now_wandering a_now_thrown a_now_alike a_now_law a_now_tape a_now_side, aI G a_q_steps n_q_steps f_q_steps, aI G a_now_bend 6 f_now_bend, aI G a_now_edge 6 f_now_edge, aT G a_now_law 8 f_now_law] z A) args s 0 0 A) (F0 m 117 ls [])) (n : Nat) (x_flight_tick : Int32) (x_flight_angle : Int32) (x_flight_lean : Int32) (l7 : Int32) (l8 : Int32) (H : Heap) (locs : List Loc) (ls : Array Slot), va_P G.1 vwCl [oT c_q a_q x_q_kind x_q_number x_q_v x_q_caught a_q_steps, o11 h a_now a_kept x_isKept a_reader a_flight a_latest, o2 a_flight x_flight_hand x_flight_edge x_flight_bend x_flight_rise x_flight_last x_flight_tick x_flight_angle x_flight_lean, o6 a_now x_now_coins x_now_hands x_now_laws x_now_bytes x_now_sides a_now_edge a_now_bend a_now_rise a_now_wandering a_now_thrown a_now_alike a_now_law a_now_tape a_now_side, aI G a_q_steps n_q_steps f_q_steps, aI G a_now_bend 6 f_now_bend, aI G a_now_edge 6 f_now_edge, aT G a_now_law 8 f_now_law] H → va_D A [oT c_q a_q x_q_kind x_q_number x_q_v x_q_caught a_q_steps, o11 h a_now a_kept x_isKept a_reader a_flight a_latest, o2 a_flight x_flight_hand x_flight_edge x_flight_bend x_flight_rise x_flight_last x_flight_tick x_flight_angle x_flight_lean, o6 a_now x_now_coins x_now_hands x_now_laws x_now_bytes x_now_sides a_now_edge a_now_bend a_now_rise a_now_wandering a_now_thrown a_now_alike a_now_law a_now_tape a_now_side, aI G a_q_steps n_q_steps f_q_steps, aI G a_now_bend 6 f_now_bend, aI G a_now_edge 6 f_now_edge, aT G a_now_law 8 f_now_law] → va_S A s.heap H locs → lv_has ls 9 [(0, .ref h), (5, .int l5), (6, .ref a_q), (7, .int l7), (8, .int l8)] → fX11_toss_s_L70 k117 n_q_steps c_q x_q_v x_q_caught x_flight_hand x_flight_edge x_flight_bend x_flight_rise x_flight_last x_now_coins x_now_hands x_now_laws f_q_steps f_now_bend f_now_edge f_now_law l5 n x_flight_tick x_flight_angle x_flight_lean l7 l8 = some (z, z_x_flight_hand, z_x_flight_edge, z_x_flight_bend, z_x_flight_rise, z_x_flight_last, z_x_flight_tick, z_x_flight_angle, z_x_flight_lean) → W p l e (rm_X11_toss_s) s m args below meth c H locs 0 0 (MQ below (QI G [oT c_q a_q x_q_kind x_q_number x_q_v x_q_caught a_q_steps, o11 h a_now a_kept x_isKept a_reader a_flight a_latest, o2 a_flight z_x_flight_hand z_x_flight_edge z_x_flight_bend z_x_flight_rise z_x_flight_last z_x_flight_tick z_x_flight_angle z_x_flight_lean, o6 a_now x_now_coins x_now_hands x_now_laws x_now_bytes x_now_sides a_now_edge a_now_bend a_now_rise a_now_wandering a_now_thrown a_now_alike a_now_law a_now_tape a_now_side, aI G a_q_steps n_q_steps f_q_steps, aI G a_now_bend 6 f_now_bend, aI G a_now_edge 6 f_now_edge, aT G a_now_law 8 f_now_law] z A) args s 0 0 A) (F0 m 70 ls []) := by
    intro x_flight_hand x_flight_edge x_flight_bend x_flight_rise x_flight_last l5 k117 hk117 n
    induction n with
    | zero =>
      intro x_flight_tick x_flight_angle x_flight_lean l7 l8 H locs ls hP hD hS hl hF
      cases hF
    | succ n ih =>
      intro x_flight_tick x_flight_angle x_flight_lean l7 l8 H locs ls hP hD hS hl hF
      rw [fX11_toss_s_L70] at hF
      refine lv_iload hx hb dX11_toss_70 (lv_at hl 4 rfl) ?_
      refine lv_aload_n hx hb dX11_toss_72 rfl (lv_at hl 0 rfl) ?_
      refine va_get (D := G.1) (ci := 11) (v := .ref a_flight) (C := RX11) (T := TX11) (N := 6) hx hb hts hin11 hown hK hP 1 rfl rfl 4 (by decide) lk_31 (fun _ h9 => h9) rfl dX11_toss_73 ?_
      refine va_getN (D := G.1) (ci := 2) (v := .int x_flight_last) (C := RX2) (T := TX2) (N := 8) hx hb hts hin2 hown hK hP 2 rfl rfl 4 (by decide) lk_132 (fun _ h9 => h9) rfl dX11_toss_76 ?_
      refine lv_icmp_gt (tgt := 117) hx hb dX11_toss_79 (by decide) (fun c15 => ?_) (fun c15 => ?_)
      · rw [if_pos c15] at hF
        exact hk117 _ _ _ _ H locs ls hP hD hS (lv_sub hl [0, 1, 2, 3] rfl) hF
      rw [if_neg c15] at hF
      refine lv_aload_n hx hb dX11_toss_82 rfl (lv_at hl 0 rfl) ?_
      refine va_get (D := G.1) (ci := 11) (v := .ref a_flight) (C := RX11) (T := TX11) (N := 6) hx hb hts hin11 hown hK hP 1 rfl rfl 4 (by decide) lk_31 (fun _ h9 => h9) rfl dX11_toss_83 ?_
      refine lv_aload hx hb dX11_toss_86 (lv_at hl 2 rfl) ?_
      refine va_get (D := G.1) (ci := c_q) (v := .ref a_q_steps) (C := tC c_q) (T := TX7) (N := 5) hx hb hts hin_c_q hown hK hP 0 rfl (tC_at hT_c_q) 4 (by decide) lk_135 (fun _ h9 => h9) rfl dX11_toss_88 ?_
      obtain ⟨r16, hc17, hF⟩ := bd_some hF
      have hPc := hP.sub (ws' := [o2 a_flight x_flight_hand x_flight_edge x_flight_bend x_flight_rise x_flight_last x_flight_tick x_flight_angle x_flight_lean, aI G a_q_steps n_q_steps f_q_steps]) [2, 4] rfl
      have hDc := hD.sub (ws' := [o2 a_flight x_flight_hand x_flight_edge x_flight_bend x_flight_rise x_flight_last x_flight_tick x_flight_angle x_flight_lean, aI G a_q_steps n_q_steps f_q_steps]) [2, 4] (by decide) rfl
      have hFc := va_free (wc := [o2 a_flight x_flight_hand x_flight_edge x_flight_bend x_flight_rise x_flight_last x_flight_tick x_flight_angle x_flight_lean, aI G a_q_steps n_q_steps f_q_steps]) hD hS hA [2, 4] rfl
      have hM := c_X2_goOn l G a_flight a_q_steps x_flight_hand x_flight_edge x_flight_bend x_flight_rise x_flight_last x_flight_tick x_flight_angle x_flight_lean f_q_steps n_q_steps r16.1 r16.2.1 r16.2.2 hc17 H.size
      refine cl_v (w1 := [o2 a_flight x_flight_hand x_flight_edge x_flight_bend x_flight_rise x_flight_last r16.1 r16.2.1 r16.2.2, aI G a_q_steps n_q_steps f_q_steps]) (ws' := [oT c_q a_q x_q_kind x_q_number x_q_v x_q_caught a_q_steps, o11 h a_now a_kept x_isKept a_reader a_flight a_latest, o2 a_flight x_flight_hand x_flight_edge x_flight_bend x_flight_rise x_flight_last r16.1 r16.2.1 r16.2.2, o6 a_now x_now_coins x_now_hands x_now_laws x_now_bytes x_now_sides a_now_edge a_now_bend a_now_rise a_now_wandering a_now_thrown a_now_alike a_now_law a_now_tape a_now_side, aI G a_q_steps n_q_steps f_q_steps, aI G a_now_bend 6 f_now_bend, aI G a_now_edge 6 f_now_edge, aT G a_now_law 8 f_now_law]) hP hD hS hFc [2, 4] rfl rfl rfl (va_runVN (As := [.ref a_q_steps]) (rest := []) ⟨hx, hb, hml, hown, hts⟩ hM ⟨va_cnB 1 hts gX11_toss_X2_goOn_n138 rfl rfl rfl (hE.nw (.methodLinkNest RX11 138 yX2_goOn "HeadsByHair") (by decide +kernel)) (hts (.initialized RX2) (by decide +kernel)) (by decide +kernel) ⟨Nat.le_of_ble_eq_true rfl, Nat.le_of_ble_eq_true rfl⟩, hts (.instanceMethod yX2_goOn) (by decide +kernel), hts (.selects RX2 yX2_goOn yX2_goOn) (by decide +kernel)⟩ (cp_V hK hE hS hPc hDc hFc (va_recv hK hPc (ci := 2) (q0 := 0) rfl rfl)) rfl rfl hl.1 rfl (lv_room (Nat.le_of_ble_eq_true rfl)) dX11_toss_91 ⟨Nat.zero_le _, Nat.zero_le _⟩) (fun H locs hP hD hS => ?_)
      refine lv_aload hx hb dX11_toss_94 (lv_at hl 2 rfl) ?_
      refine lv_aload_n hx hb dX11_toss_96 rfl (lv_at hl 0 rfl) ?_
      refine va_get (D := G.1) (ci := 11) (v := .ref a_flight) (C := RX11) (T := TX11) (N := 6) hx hb hts hin11 hown hK hP 1 rfl rfl 4 (by decide) lk_31 (fun _ h9 => h9) rfl dX11_toss_97 ?_
      refine W.eq (g2 := F0 m 100 ls [.ref a_flight, .ref a_q]) rfl ?_
      refine lv_iconst (v := 1) hx hb dX11_toss_100 (by decide) ?_
      obtain ⟨r18, hc19, hF⟩ := bd_some hF
      have hPc := hP.sub (ws' := [o2 a_flight x_flight_hand x_flight_edge x_flight_bend x_flight_rise x_flight_last r16.1 r16.2.1 r16.2.2, oT c_q a_q x_q_kind x_q_number x_q_v x_q_caught a_q_steps]) [2, 0] rfl
      have hDc := hD.sub (ws' := [o2 a_flight x_flight_hand x_flight_edge x_flight_bend x_flight_rise x_flight_last r16.1 r16.2.1 r16.2.2, oT c_q a_q x_q_kind x_q_number x_q_v x_q_caught a_q_steps]) [2, 0] (by decide) rfl
      have hFc := va_free (wc := [o2 a_flight x_flight_hand x_flight_edge x_flight_bend x_flight_rise x_flight_last r16.1 r16.2.1 r16.2.2, oT c_q a_q x_q_kind x_q_number x_q_v x_q_caught a_q_steps]) hD hS hA [2, 0] rfl
      have hrun : va_Run p l e (rm_X11_toss_s) s m args below meth c H locs 0 0 0 0 (F0 m 101 ls [.int 1, .ref a_flight, .ref a_q]) [] (QI G [o2 a_flight x_flight_hand x_flight_edge x_flight_bend x_flight_rise x_flight_last r16.1 r16.2.1 r16.2.2, oT c_q a_q x_q_kind x_q_number x_q_v x_q_caught a_q_steps] r18 (va_A [o2 a_flight x_flight_hand x_flight_edge x_flight_bend x_flight_rise x_flight_last r16.1 r16.2.1 r16.2.2, oT c_q a_q x_q_kind x_q_number x_q_v x_q_caught a_q_steps] H.size) (Value.ref a_q :: [.ref a_flight, .int 1]).toArray) (va_A [o2 a_flight x_flight_hand x_flight_edge x_flight_bend x_flight_rise x_flight_last r16.1 r16.2.1 r16.2.2, oT c_q a_q x_q_kind x_q_number x_q_v x_q_caught a_q_steps] H.size) := by
        rcases hc_q with rfl | rfl | rfl | rfl | rfl | rfl | rfl
        · have hM := c_X0_sideUp l G 0 (by decide) a_flight a_q a_q_steps x_flight_hand x_flight_edge x_flight_bend x_flight_rise x_flight_last r16.1 r16.2.1 r16.2.2 x_q_kind x_q_number x_q_v x_q_caught (1 : Int32) r18 (show fX0_sideUp 0 x_flight_last r16.1 r16.2.1 x_q_v (1 : Int32) = some r18 from hc19) H.size
          exact va_runU (As := [.ref a_flight, .int 1]) (rest := []) ⟨hx, hb, hml, hown, hts⟩ hM (va_cwO 2 hts gX11_toss_X0_sideUp_u142X0 rfl rfl rfl (b0 := cX7_sideUp) (m0 := 3) (r0 := (some .int)) (by decide +kernel) (by decide +kernel) ⟨Nat.le_of_ble_eq_true rfl, Nat.le_of_ble_eq_true rfl⟩) (cp_V hK hE hS hPc hDc hFc (va_recv hK hPc (ci := 0) (q0 := 1) rfl rfl)) rfl rfl hl.1 rfl (lv_room (Nat.le_of_ble_eq_true rfl)) dX11_toss_101 ⟨Nat.zero_le _, Nat.zero_le _⟩
        · have hM := c_X1_sideUp l G a_flight a_q a_q_steps x_flight_hand x_flight_edge x_flight_bend x_flight_rise x_flight_last r16.1 r16.2.1 r16.2.2 x_q_kind x_q_number x_q_v x_q_caught (1 : Int32) r18 (show fX1_sideUp x_flight_bend x_flight_last r16.1 r16.2.1 x_q_v (1 : Int32) = some r18 from hc19) H.size
          exact va_runU (As := [.ref a_flight, .int 1]) (rest := []) ⟨hx, hb, hml, hown, hts⟩ hM (va_cwO 2 hts gX11_toss_X1_sideUp_u142X1 rfl rfl rfl (b0 := cX7_sideUp) (m0 := 3) (r0 := (some .int)) (by decide +kernel) (by decide +kernel) ⟨Nat.le_of_ble_eq_true rfl, Nat.le_of_ble_eq_true rfl⟩) (cp_V hK hE hS hPc hDc hFc (va_recv hK hPc (ci := 1) (q0 := 1) rfl rfl)) rfl rfl hl.1 rfl (lv_room (Nat.le_of_ble_eq_true rfl)) dX11_toss_101 ⟨Nat.zero_le _, Nat.zero_le _⟩
        · have hM := c_X4_sideUp l G a_flight a_q a_q_steps x_flight_hand x_flight_edge x_flight_bend x_flight_rise x_flight_last r16.1 r16.2.1 r16.2.2 x_q_kind x_q_number x_q_v x_q_caught (1 : Int32) r18 (show fX4_sideUp r16.2.1 r16.2.2 x_q_v (1 : Int32) = some r18 from hc19) H.size
          exact va_runU (As := [.ref a_flight, .int 1]) (rest := []) ⟨hx, hb, hml, hown, hts⟩ hM (va_cwO 2 hts gX11_toss_X4_sideUp_u142X4 rfl rfl rfl (b0 := cX7_sideUp) (m0 := 3) (r0 := (some .int)) (by decide +kernel) (by decide +kernel) ⟨Nat.le_of_ble_eq_true rfl, Nat.le_of_ble_eq_true rfl⟩) (cp_V hK hE hS hPc hDc hFc (va_recv hK hPc (ci := 4) (q0 := 1) rfl rfl)) rfl rfl hl.1 rfl (lv_room (Nat.le_of_ble_eq_true rfl)) dX11_toss_101 ⟨Nat.zero_le _, Nat.zero_le _⟩
        · have hM := c_X5_sideUp l G a_flight a_q a_q_steps x_flight_hand x_flight_edge x_flight_bend x_flight_rise x_flight_last r16.1 r16.2.1 r16.2.2 x_q_kind x_q_number x_q_v x_q_caught (1 : Int32) r18 (show fX5_sideUp x_flight_edge x_q_v (1 : Int32) = some r18 from hc19) H.size
          exact va_runU (As := [.ref a_flight, .int 1]) (rest := []) ⟨hx, hb, hml, hown, hts⟩ hM (va_cwO 2 hts gX11_toss_X5_sideUp_u142X5 rfl rfl rfl (b0 := cX7_sideUp) (m0 := 3) (r0 := (some .int)) (by decide +kernel) (by decide +kernel) ⟨Nat.le_of_ble_eq_true rfl, Nat.le_of_ble_eq_true rfl⟩) (cp_V hK hE hS hPc hDc hFc (va_recv hK hPc (ci := 5) (q0 := 1) rfl rfl)) rfl rfl hl.1 rfl (lv_room (Nat.le_of_ble_eq_true rfl)) dX11_toss_101 ⟨Nat.zero_le _, Nat.zero_le _⟩
        · have hM := c_X7_sideUp l G 7 (by decide) a_flight a_q a_q_steps x_flight_hand x_flight_edge x_flight_bend x_flight_rise x_flight_last r16.1 r16.2.1 r16.2.2 x_q_kind x_q_number x_q_v x_q_caught (1 : Int32) r18 (show fX7_sideUp 7 (1 : Int32) = some r18 from hc19) H.size
          exact va_runV (As := [.ref a_flight, .int 1]) (rest := []) ⟨hx, hb, hml, hown, hts⟩ hM (cwV 2 hts gX11_toss_X7_sideUp rfl rfl rfl (by decide +kernel) ⟨Nat.le_of_ble_eq_true rfl, Nat.le_of_ble_eq_true rfl⟩) (cp_V hK hE hS hPc hDc hFc (va_recv hK hPc (ci := 7) (q0 := 1) rfl rfl)) rfl rfl hl.1 rfl (lv_room (Nat.le_of_ble_eq_true rfl)) dX11_toss_101 ⟨Nat.zero_le _, Nat.zero_le _⟩
        · have hM := c_X9_sideUp l G 9 (by decide) a_flight a_q a_q_steps x_flight_hand x_flight_edge x_flight_bend x_flight_rise x_flight_last r16.1 r16.2.1 r16.2.2 x_q_kind x_q_number x_q_v x_q_caught (1 : Int32) r18 (show fX9_sideUp 9 r16.2.1 (1 : Int32) = some r18 from hc19) H.size
          exact va_runU (As := [.ref a_flight, .int 1]) (rest := []) ⟨hx, hb, hml, hown, hts⟩ hM (va_cwO 2 hts gX11_toss_X9_sideUp_u142X9 rfl rfl rfl (b0 := cX7_sideUp) (m0 := 3) (r0 := (some .int)) (by decide +kernel) (by decide +kernel) ⟨Nat.le_of_ble_eq_true rfl, Nat.le_of_ble_eq_true rfl⟩) (cp_V hK hE hS hPc hDc hFc (va_recv hK hPc (ci := 9) (q0 := 1) rfl rfl)) rfl rfl hl.1 rfl (lv_room (Nat.le_of_ble_eq_true rfl)) dX11_toss_101 ⟨Nat.zero_le _, Nat.zero_le _⟩
        · have hM := c_X10_sideUp l G 10 (by decide) a_flight a_q a_q_steps x_flight_hand x_flight_edge x_flight_bend x_flight_rise x_flight_last r16.1 r16.2.1 r16.2.2 x_q_kind x_q_number x_q_v x_q_caught (1 : Int32) r18 (show fX10_sideUp 10 r16.2.1 r16.2.2 (1 : Int32) = some r18 from hc19) H.size
          exact va_runU (As := [.ref a_flight, .int 1]) (rest := []) ⟨hx, hb, hml, hown, hts⟩ hM (va_cwO 2 hts gX11_toss_X10_sideUp_u142X10 rfl rfl rfl (b0 := cX7_sideUp) (m0 := 3) (r0 := (some .int)) (by decide +kernel) (by decide +kernel) ⟨Nat.le_of_ble_eq_true rfl, Nat.le_of_ble_eq_true rfl⟩) (cp_V hK hE hS hPc hDc hFc (va_recv hK hPc (ci := 10) (q0 := 1) rfl rfl)) rfl rfl hl.1 rfl (lv_room (Nat.le_of_ble_eq_true rfl)) dX11_toss_101 ⟨Nat.zero_le _, Nat.zero_le _⟩
      refine cl_i (w1 := [o2 a_flight x_flight_hand x_flight_edge x_flight_bend x_flight_rise x_flight_last r16.1 r16.2.1 r16.2.2, oT c_q a_q x_q_kind x_q_number x_q_v x_q_caught a_q_steps]) (ws' := [oT c_q a_q x_q_kind x_q_number x_q_v x_q_caught a_q_steps, o11 h a_now a_kept x_isKept a_reader a_flight a_latest, o2 a_flight x_flight_hand x_flight_edge x_flight_bend x_flight_rise x_flight_last r16.1 r16.2.1 r16.2.2, o6 a_now x_now_coins x_now_hands x_now_laws x_now_bytes x_now_sides a_now_edge a_now_bend a_now_rise a_now_wandering a_now_thrown a_now_alike a_now_law a_now_tape a_now_side, aI G a_q_steps n_q_steps f_q_steps, aI G a_now_bend 6 f_now_bend, aI G a_now_edge 6 f_now_edge, aT G a_now_law 8 f_now_law]) hP hD hS hFc [2, 0] rfl rfl rfl hrun (fun H locs hP hD hS => ?_)
      refine lv_iconst (v := 1) hx hb dX11_toss_104 (by decide) ?_
      refine lv_icmp_ne (tgt := 111) hx hb dX11_toss_105 (by decide) (fun c20 => ?_) (fun c20 => ?_)
      · rw [if_neg c20] at hF
        refine lv_iinc (v := l8 + 1) (lv' := [(8, .int (l8 + 1)), (0, .ref h), (5, .int l5), (6, .ref a_q), (7, .int l7)]) hx hb dX11_toss_111 hl (k := 4) rfl rfl (by decide) rfl (fun ls hl => ?_)
        refine lv_goto (tgt := 70) hx hb dX11_toss_114 (by decide) ?_
        exact ih _ _ _ _ _ H locs ls hP hD hS (lv_sub hl [1, 2, 3, 4, 0] rfl) hF
      rw [if_pos c20] at hF
      refine lv_iinc (v := l7 + 1) (lv' := [(7, .int (l7 + 1)), (0, .ref h), (5, .int l5), (6, .ref a_q), (8, .int l8)]) hx hb dX11_toss_108 hl (k := 3) rfl rfl (by decide) rfl (fun ls hl => ?_)
      refine lv_iinc (v := l8 + 1) (lv' := [(8, .int (l8 + 1)), (7, .int (l7 + 1)), (0, .ref h), (5, .int l5), (6, .ref a_q)]) hx hb dX11_toss_111 hl (k := 4) rfl rfl (by decide) rfl (fun ls hl => ?_)
      refine lv_goto (tgt := 70) hx hb dX11_toss_114 (by decide) ?_
      exact ih _ _ _ _ _ H locs ls hP hD hS (lv_sub hl [2, 3, 4, 1, 0] rfl) hF
  intro hF
  unfold fX11_toss_s at hF
  refine lv_aload_n hx hb dX11_toss_0 rfl (lv_at hl 0 rfl) ?_
  refine lv_iload_n hx hb dX11_toss_1 rfl (lv_at hl 1 rfl) ?_
  have hPc := hP.sub (ws' := [o11 h a_now a_kept x_isKept a_reader a_flight a_latest, o6 a_now x_now_coins x_now_hands x_now_laws x_now_bytes x_now_sides a_now_edge a_now_bend a_now_rise a_now_wandering a_now_thrown a_now_alike a_now_law a_now_tape a_now_side, aT G a_now_law 8 f_now_law]) [1, 3, 7] rfl
  have hDc := hD.sub (ws' := [o11 h a_now a_kept x_isKept a_reader a_flight a_latest, o6 a_now x_now_coins x_now_hands x_now_laws x_now_bytes x_now_sides a_now_edge a_now_bend a_now_rise a_now_wandering a_now_thrown a_now_alike a_now_law a_now_tape a_now_side, aT G a_now_law 8 f_now_law]) [1, 3, 7] (by decide) rfl
  have hFc := va_free (wc := [o11 h a_now a_kept x_isKept a_reader a_flight a_latest, o6 a_now x_now_coins x_now_hands x_now_laws x_now_bytes x_now_sides a_now_edge a_now_bend a_now_rise a_now_wandering a_now_thrown a_now_alike a_now_law a_now_tape a_now_side, aT G a_now_law 8 f_now_law]) hD hS hA [1, 3, 7] rfl
  have hM := c_X11_lawOf l G h a_now a_kept a_reader a_flight a_latest a_now_edge a_now_bend a_now_rise a_now_wandering a_now_thrown a_now_alike a_now_law a_now_tape a_now_side x_isKept x_now_coins x_now_hands x_now_laws x_now_bytes x_now_sides f_now_law l1 (some a_q) hlaw H.size
  refine cl_r (z := (some a_q)) (w1 := [o11 h a_now a_kept x_isKept a_reader a_flight a_latest, o6 a_now x_now_coins x_now_hands x_now_laws x_now_bytes x_now_sides a_now_edge a_now_bend a_now_rise a_now_wandering a_now_thrown a_now_alike a_now_law a_now_tape a_now_side, aT G a_now_law 8 f_now_law]) (ws' := [oT c_q a_q x_q_kind x_q_number x_q_v x_q_caught a_q_steps, o11 h a_now a_kept x_isKept a_reader a_flight a_latest, o2 a_flight x_flight_hand x_flight_edge x_flight_bend x_flight_rise x_flight_last x_flight_tick x_flight_angle x_flight_lean, o6 a_now x_now_coins x_now_hands x_now_laws x_now_bytes x_now_sides a_now_edge a_now_bend a_now_rise a_now_wandering a_now_thrown a_now_alike a_now_law a_now_tape a_now_side, aI G a_q_steps n_q_steps f_q_steps, aI G a_now_bend 6 f_now_bend, aI G a_now_edge 6 f_now_edge, aT G a_now_law 8 f_now_law]) hP hD hS hFc [1, 3, 7] rfl rfl rfl (va_runV (As := [.int l1]) (rest := []) ⟨hx, hb, hml, hown, hts⟩ hM (cwV 1 hts gX11_toss_X11_lawOf rfl rfl rfl (by decide +kernel) ⟨Nat.le_of_ble_eq_true rfl, Nat.le_of_ble_eq_true rfl⟩) (cp_V hK hE hS hPc hDc hFc (va_recv hK hPc (ci := 11) (q0 := 0) rfl rfl)) rfl rfl hl.1 rfl (lv_room (Nat.le_of_ble_eq_true rfl)) dX11_toss_2 ⟨Nat.zero_le _, Nat.zero_le _⟩) (fun H locs hP hD hS => ?_)
  refine W.eq (g2 := F0 m 5 ls [.ref a_q]) rfl ?_
  refine lv_astore (lv' := [(6, .ref a_q), (0, .ref h), (1, .int l1), (2, .int l2), (3, .int l3), (4, .int l4), (5, .int l5)]) hx hb dX11_toss_5 hl (by decide) rfl (fun ls hl => ?_)
  refine lv_aload hx hb dX11_toss_7 (lv_at hl 0 rfl) ?_
  refine lv_ifnull hx hb dX11_toss_9 ?_
  refine lv_aload_n hx hb dX11_toss_12 rfl (lv_at hl 1 rfl) ?_
  refine lv_iload_n hx hb dX11_toss_13 rfl (lv_at hl 3 rfl) ?_
  obtain ⟨r1, hc2, hF⟩ := bd_some hF
  have hPc := hP.sub (ws' := [o11 h a_now a_kept x_isKept a_reader a_flight a_latest, o6 a_now x_now_coins x_now_hands x_now_laws x_now_bytes x_now_sides a_now_edge a_now_bend a_now_rise a_now_wandering a_now_thrown a_now_alike a_now_law a_now_tape a_now_side]) [1, 3] rfl
  have hDc := hD.sub (ws' := [o11 h a_now a_kept x_isKept a_reader a_flight a_latest, o6 a_now x_now_coins x_now_hands x_now_laws x_now_bytes x_now_sides a_now_edge a_now_bend a_now_rise a_now_wandering a_now_thrown a_now_alike a_now_law a_now_tape a_now_side]) [1, 3] (by decide) rfl
  have hFc := va_free (wc := [o11 h a_now a_kept x_isKept a_reader a_flight a_latest, o6 a_now x_now_coins x_now_hands x_now_laws x_now_bytes x_now_sides a_now_edge a_now_bend a_now_rise a_now_wandering a_now_thrown a_now_alike a_now_law a_now_tape a_now_side]) hD hS hA [1, 3] rfl
  have hM := c_X11_isHand l G h a_now a_kept a_reader a_flight a_latest a_now_edge a_now_bend a_now_rise a_now_wandering a_now_thrown a_now_alike a_now_law a_now_tape a_now_side x_isKept x_now_coins x_now_hands x_now_laws x_now_bytes x_now_sides l2 r1 hc2 H.size
  refine cl_i (w1 := [o11 h a_now a_kept x_isKept a_reader a_flight a_latest, o6 a_now x_now_coins x_now_hands x_now_laws x_now_bytes x_now_sides a_now_edge a_now_bend a_now_rise a_now_wandering a_now_thrown a_now_alike a_now_law a_now_tape a_now_side]) (ws' := [oT c_q a_q x_q_kind x_q_number x_q_v x_q_caught a_q_steps, o11 h a_now a_kept x_isKept a_reader a_flight a_latest, o2 a_flight x_flight_hand x_flight_edge x_flight_bend x_flight_rise x_flight_last x_flight_tick x_flight_angle x_flight_lean, o6 a_now x_now_coins x_now_hands x_now_laws x_now_bytes x_now_sides a_now_edge a_now_bend a_now_rise a_now_wandering a_now_thrown a_now_alike a_now_law a_now_tape a_now_side, aI G a_q_steps n_q_steps f_q_steps, aI G a_now_bend 6 f_now_bend, aI G a_now_edge 6 f_now_edge, aT G a_now_law 8 f_now_law]) hP hD hS hFc [1, 3] rfl rfl rfl (va_runV (As := [.int l2]) (rest := []) ⟨hx, hb, hml, hown, hts⟩ hM (cwV 1 hts gX11_toss_X11_isHand rfl rfl rfl (by decide +kernel) ⟨Nat.le_of_ble_eq_true rfl, Nat.le_of_ble_eq_true rfl⟩) (cp_V hK hE hS hPc hDc hFc (va_recv hK hPc (ci := 11) (q0 := 0) rfl rfl)) rfl rfl hl.1 rfl (lv_room (Nat.le_of_ble_eq_true rfl)) dX11_toss_14 ⟨Nat.zero_le _, Nat.zero_le _⟩) (fun H locs hP hD hS => ?_)
  refine lv_if_eq (tgt := 38) hx hb dX11_toss_17 (by decide) (fun c3 => ?_) (fun c3 => ?_)
  · rw [if_pos c3] at hF
    refine lv_iconst (v := (-1)) hx hb dX11_toss_38 (by decide) ?_
    injection hF with hz
    injection hz with hq0 hz
    injection hz with hq1 hz
    injection hz with hq2 hz
    injection hz with hq3 hz
    injection hz with hq4 hz
    injection hz with hq5 hz
    injection hz with hq6 hz
    injection hz with hq7 hz
    subst hq0
    subst hq1
    subst hq2
    subst hq3
    subst hq4
    subst hq5
    subst hq6
    subst hq7
    subst hz
    exact cm_reti hx hb hr rfl hlk hK hP hD hS dX11_toss_39
  rw [if_neg c3] at hF
  refine lv_aload_n hx hb dX11_toss_20 rfl (lv_at hl 1 rfl) ?_
  refine lv_iload_n hx hb dX11_toss_21 rfl (lv_at hl 4 rfl) ?_
  obtain ⟨r4, hc5, hF⟩ := bd_some hF
  have hPc := hP.sub (ws' := [o11 h a_now a_kept x_isKept a_reader a_flight a_latest, o6 a_now x_now_coins x_now_hands x_now_laws x_now_bytes x_now_sides a_now_edge a_now_bend a_now_rise a_now_wandering a_now_thrown a_now_alike a_now_law a_now_tape a_now_side]) [1, 3] rfl
  have hDc := hD.sub (ws' := [o11 h a_now a_kept x_isKept a_reader a_flight a_latest, o6 a_now x_now_coins x_now_hands x_now_laws x_now_bytes x_now_sides a_now_edge a_now_bend a_now_rise a_now_wandering a_now_thrown a_now_alike a_now_law a_now_tape a_now_side]) [1, 3] (by decide) rfl
  have hFc := va_free (wc := [o11 h a_now a_kept x_isKept a_reader a_flight a_latest, o6 a_now x_now_coins x_now_hands x_now_laws x_now_bytes x_now_sides a_now_edge a_now_bend a_now_rise a_now_wandering a_now_thrown a_now_alike a_now_law a_now_tape a_now_side]) hD hS hA [1, 3] rfl
  have hM := c_X11_isCoin l G h a_now a_kept a_reader a_flight a_latest a_now_edge a_now_bend a_now_rise a_now_wandering a_now_thrown a_now_alike a_now_law a_now_tape a_now_side x_isKept x_now_coins x_now_hands x_now_laws x_now_bytes x_now_sides l3 r4 hc5 H.size
  refine cl_i (w1 := [o11 h a_now a_kept x_isKept a_reader a_flight a_latest, o6 a_now x_now_coins x_now_hands x_now_laws x_now_bytes x_now_sides a_now_edge a_now_bend a_now_rise a_now_wandering a_now_thrown a_now_alike a_now_law a_now_tape a_now_side]) (ws' := [oT c_q a_q x_q_kind x_q_number x_q_v x_q_caught a_q_steps, o11 h a_now a_kept x_isKept a_reader a_flight a_latest, o2 a_flight x_flight_hand x_flight_edge x_flight_bend x_flight_rise x_flight_last x_flight_tick x_flight_angle x_flight_lean, o6 a_now x_now_coins x_now_hands x_now_laws x_now_bytes x_now_sides a_now_edge a_now_bend a_now_rise a_now_wandering a_now_thrown a_now_alike a_now_law a_now_tape a_now_side, aI G a_q_steps n_q_steps f_q_steps, aI G a_now_bend 6 f_now_bend, aI G a_now_edge 6 f_now_edge, aT G a_now_law 8 f_now_law]) hP hD hS hFc [1, 3] rfl rfl rfl (va_runV (As := [.int l3]) (rest := []) ⟨hx, hb, hml, hown, hts⟩ hM (cwV 1 hts gX11_toss_X11_isCoin rfl rfl rfl (by decide +kernel) ⟨Nat.le_of_ble_eq_true rfl, Nat.le_of_ble_eq_true rfl⟩) (cp_V hK hE hS hPc hDc hFc (va_recv hK hPc (ci := 11) (q0 := 0) rfl rfl)) rfl rfl hl.1 rfl (lv_room (Nat.le_of_ble_eq_true rfl)) dX11_toss_22 ⟨Nat.zero_le _, Nat.zero_le _⟩) (fun H locs hP hD hS => ?_)
  refine W.eq (g2 := F0 m 25 ls [.int r4]) rfl ?_
  refine lv_if_eq (tgt := 38) hx hb dX11_toss_25 (by decide) (fun c6 => ?_) (fun c6 => ?_)
  · rw [if_pos c6] at hF
    refine lv_iconst (v := (-1)) hx hb dX11_toss_38 (by decide) ?_
    injection hF with hz
    injection hz with hq0 hz
    injection hz with hq1 hz
    injection hz with hq2 hz
    injection hz with hq3 hz
    injection hz with hq4 hz
    injection hz with hq5 hz
    injection hz with hq6 hz
    injection hz with hq7 hz
    subst hq0
    subst hq1
    subst hq2
    subst hq3
    subst hq4
    subst hq5
    subst hq6
    subst hq7
    subst hz
    exact cm_reti hx hb hr rfl hlk hK hP hD hS dX11_toss_39
  rw [if_neg c6] at hF
  refine lv_iload hx hb dX11_toss_28 (lv_at hl 6 rfl) ?_
  refine lv_iconst (v := 0) hx hb dX11_toss_30 (by decide) ?_
  refine lv_iconst (v := 3) hx hb dX11_toss_31 (by decide) ?_
  obtain ⟨r7, hc8, hF⟩ := bd_some hF
  have hPc := hP.sub (ws' := []) [] rfl
  have hDc := hD.sub (ws' := []) [] (by decide) rfl
  have hFc := va_free (wc := []) hD hS hA [] rfl
  have hM := c_X11_isWithin l G l5 (0 : Int32) (3 : Int32) r7 hc8 H.size
  refine cl_i (w1 := []) (ws' := [oT c_q a_q x_q_kind x_q_number x_q_v x_q_caught a_q_steps, o11 h a_now a_kept x_isKept a_reader a_flight a_latest, o2 a_flight x_flight_hand x_flight_edge x_flight_bend x_flight_rise x_flight_last x_flight_tick x_flight_angle x_flight_lean, o6 a_now x_now_coins x_now_hands x_now_laws x_now_bytes x_now_sides a_now_edge a_now_bend a_now_rise a_now_wandering a_now_thrown a_now_alike a_now_law a_now_tape a_now_side, aI G a_q_steps n_q_steps f_q_steps, aI G a_now_bend 6 f_now_bend, aI G a_now_edge 6 f_now_edge, aT G a_now_law 8 f_now_law]) hP hD hS hFc [] rfl rfl rfl (va_runS (As := [.int l5, .int 0, .int 3]) (rest := []) ⟨hx, hb, hml, hown, hts⟩ hM (va_cwS 3 hts gX11_toss_X11_isWithin rfl rfl rfl (by decide +kernel) ⟨Nat.le_of_ble_eq_true rfl, Nat.le_of_ble_eq_true rfl⟩) (cp_S hK hE hS hPc hDc hFc) rfl rfl hl.1 rfl (lv_room (Nat.le_of_ble_eq_true rfl)) dX11_toss_32 ⟨Nat.zero_le _, Nat.zero_le _⟩) (fun H locs hP hD hS => ?_)
  refine lv_if_ne (tgt := 40) hx hb dX11_toss_35 (by decide) (fun c9 => ?_) (fun c9 => ?_)
  · rw [if_neg c9] at hF
    refine lv_iload hx hb dX11_toss_40 (lv_at hl 5 rfl) ?_
    refine lv_iconst (v := 1) hx hb dX11_toss_42 (by decide) ?_
    refine lv_bipush (v := 40) hx hb dX11_toss_43 (by decide) ?_
    obtain ⟨r10, hc11, hF⟩ := bd_some hF
    have hPc := hP.sub (ws' := []) [] rfl
    have hDc := hD.sub (ws' := []) [] (by decide) rfl
    have hFc := va_free (wc := []) hD hS hA [] rfl
    have hM := c_X11_isWithin l G l4 (1 : Int32) (40 : Int32) r10 hc11 H.size
    refine cl_i (w1 := []) (ws' := [oT c_q a_q x_q_kind x_q_number x_q_v x_q_caught a_q_steps, o11 h a_now a_kept x_isKept a_reader a_flight a_latest, o2 a_flight x_flight_hand x_flight_edge x_flight_bend x_flight_rise x_flight_last x_flight_tick x_flight_angle x_flight_lean, o6 a_now x_now_coins x_now_hands x_now_laws x_now_bytes x_now_sides a_now_edge a_now_bend a_now_rise a_now_wandering a_now_thrown a_now_alike a_now_law a_now_tape a_now_side, aI G a_q_steps n_q_steps f_q_steps, aI G a_now_bend 6 f_now_bend, aI G a_now_edge 6 f_now_edge, aT G a_now_law 8 f_now_law]) hP hD hS hFc [] rfl rfl rfl (va_runS (As := [.int l4, .int 1, .int 40]) (rest := []) ⟨hx, hb, hml, hown, hts⟩ hM (va_cwS 3 hts gX11_toss_X11_isWithin rfl rfl rfl (by decide +kernel) ⟨Nat.le_of_ble_eq_true rfl, Nat.le_of_ble_eq_true rfl⟩) (cp_S hK hE hS hPc hDc hFc) rfl rfl hl.1 rfl (lv_room (Nat.le_of_ble_eq_true rfl)) dX11_toss_45 ⟨Nat.zero_le _, Nat.zero_le _⟩) (fun H locs hP hD hS => ?_)
    refine lv_if_ne (tgt := 54) hx hb dX11_toss_48 (by decide) (fun c12 => ?_) (fun c12 => ?_)
    · rw [if_neg c12] at hF
      refine lv_aload_n hx hb dX11_toss_54 rfl (lv_at hl 1 rfl) ?_
      refine lv_aload hx hb dX11_toss_55 (lv_at hl 0 rfl) ?_
      refine lv_iload_n hx hb dX11_toss_57 rfl (lv_at hl 3 rfl) ?_
      refine W.eq (g2 := F0 m 58 ls [.int l2, .ref a_q, .ref h]) rfl ?_
      refine lv_iload_n hx hb dX11_toss_58 rfl (lv_at hl 4 rfl) ?_
      refine lv_iload hx hb dX11_toss_59 (lv_at hl 5 rfl) ?_
      obtain ⟨r13, hc14, hF⟩ := bd_some hF
      have hPc := hP.sub (ws' := [oT c_q a_q x_q_kind x_q_number x_q_v x_q_caught a_q_steps, o11 h a_now a_kept x_isKept a_reader a_flight a_latest, o2 a_flight x_flight_hand x_flight_edge x_flight_bend x_flight_rise x_flight_last x_flight_tick x_flight_angle x_flight_lean, o6 a_now x_now_coins x_now_hands x_now_laws x_now_bytes x_now_sides a_now_edge a_now_bend a_now_rise a_now_wandering a_now_thrown a_now_alike a_now_law a_now_tape a_now_side, aI G a_now_bend 6 f_now_bend, aI G a_now_edge 6 f_now_edge]) [0, 1, 2, 3, 5, 6] rfl
      have hDc := hD.sub (ws' := [oT c_q a_q x_q_kind x_q_number x_q_v x_q_caught a_q_steps, o11 h a_now a_kept x_isKept a_reader a_flight a_latest, o2 a_flight x_flight_hand x_flight_edge x_flight_bend x_flight_rise x_flight_last x_flight_tick x_flight_angle x_flight_lean, o6 a_now x_now_coins x_now_hands x_now_laws x_now_bytes x_now_sides a_now_edge a_now_bend a_now_rise a_now_wandering a_now_thrown a_now_alike a_now_law a_now_tape a_now_side, aI G a_now_bend 6 f_now_bend, aI G a_now_edge 6 f_now_edge]) [0, 1, 2, 3, 5, 6] (by decide) rfl
      have hFc := va_free (wc := [oT c_q a_q x_q_kind x_q_number x_q_v x_q_caught a_q_steps, o11 h a_now a_kept x_isKept a_reader a_flight a_latest, o2 a_flight x_flight_hand x_flight_edge x_flight_bend x_flight_rise x_flight_last x_flight_tick x_flight_angle x_flight_lean, o6 a_now x_now_coins x_now_hands x_now_laws x_now_bytes x_now_sides a_now_edge a_now_bend a_now_rise a_now_wandering a_now_thrown a_now_alike a_now_law a_now_tape a_now_side, aI G a_now_bend 6 f_now_bend, aI G a_now_edge 6 f_now_edge]) hD hS hA [0, 1, 2, 3, 5, 6] rfl
      have hM := c_X11_begin l G c_q (by omega) a_q a_q_steps h a_now a_kept a_reader a_flight a_latest a_now_edge a_now_bend a_now_rise a_now_wandering a_now_thrown a_now_alike a_now_law a_now_tape a_now_side x_q_kind x_q_number x_q_v x_q_caught x_isKept x_flight_hand x_flight_edge x_flight_bend x_flight_rise x_flight_last x_flight_tick x_flight_angle x_flight_lean x_now_coins x_now_hands x_now_laws x_now_bytes x_now_sides f_now_bend f_now_edge l2 l3 l4 r13.1 r13.2.1 r13.2.2.1 r13.2.2.2.1 r13.2.2.2.2.1 r13.2.2.2.2.2.1 r13.2.2.2.2.2.2.1 r13.2.2.2.2.2.2.2 hc14 H.size
      refine cl_v (w1 := [oT c_q a_q x_q_kind x_q_number x_q_v x_q_caught a_q_steps, o11 h a_now a_kept x_isKept a_reader a_flight a_latest, o2 a_flight r13.1 r13.2.1 r13.2.2.1 r13.2.2.2.1 r13.2.2.2.2.1 r13.2.2.2.2.2.1 r13.2.2.2.2.2.2.1 r13.2.2.2.2.2.2.2, o6 a_now x_now_coins x_now_hands x_now_laws x_now_bytes x_now_sides a_now_edge a_now_bend a_now_rise a_now_wandering a_now_thrown a_now_alike a_now_law a_now_tape a_now_side, aI G a_now_bend 6 f_now_bend, aI G a_now_edge 6 f_now_edge]) (ws' := [oT c_q a_q x_q_kind x_q_number x_q_v x_q_caught a_q_steps, o11 h a_now a_kept x_isKept a_reader a_flight a_latest, o2 a_flight r13.1 r13.2.1 r13.2.2.1 r13.2.2.2.1 r13.2.2.2.2.1 r13.2.2.2.2.2.1 r13.2.2.2.2.2.2.1 r13.2.2.2.2.2.2.2, o6 a_now x_now_coins x_now_hands x_now_laws x_now_bytes x_now_sides a_now_edge a_now_bend a_now_rise a_now_wandering a_now_thrown a_now_alike a_now_law a_now_tape a_now_side, aI G a_q_steps n_q_steps f_q_steps, aI G a_now_bend 6 f_now_bend, aI G a_now_edge 6 f_now_edge, aT G a_now_law 8 f_now_law]) hP hD hS hFc [0, 1, 2, 3, 5, 6] rfl rfl rfl (va_runV (As := [.ref a_q, .int l2, .int l3, .int l4]) (rest := []) ⟨hx, hb, hml, hown, hts⟩ hM (cwV 4 hts gX11_toss_X11_begin rfl rfl rfl (by decide +kernel) ⟨Nat.le_of_ble_eq_true rfl, Nat.le_of_ble_eq_true rfl⟩) (cp_V hK hE hS hPc hDc hFc (va_recv hK hPc (ci := 11) (q0 := 1) rfl rfl)) rfl rfl hl.1 rfl (lv_room (Nat.le_of_ble_eq_true rfl)) dX11_toss_61 ⟨Nat.zero_le _, Nat.zero_le _⟩) (fun H locs hP hD hS => ?_)
      refine lv_iconst (v := 0) hx hb dX11_toss_64 (by decide) ?_
      refine lv_istore (lv' := [(7, .int 0), (6, .ref a_q), (0, .ref h), (1, .int l1), (2, .int l2), (3, .int l3), (4, .int l4), (5, .int l5)]) hx hb dX11_toss_65 hl (by decide) rfl (fun ls hl => ?_)
      refine lv_iconst (v := 1) hx hb dX11_toss_67 (by decide) ?_
      refine lv_istore (lv' := [(8, .int 1), (7, .int 0), (6, .ref a_q), (0, .ref h), (1, .int l1), (2, .int l2), (3, .int l3), (4, .int l4), (5, .int l5)]) hx hb dX11_toss_68 hl (by decide) rfl (fun ls hl => ?_)
      refine LP70 _ _ _ _ _ _ _ (fun x_flight_tick_21 x_flight_angle_22 x_flight_lean_23 l7_24 H locs ls hP hD hS hl hF => ?_) _ _ _ _ _ _ H locs ls hP hD hS (lv_sub hl [3, 8, 2, 1, 0] rfl) hF
      refine lv_iload hx hb dX11_toss_117 (lv_at hl 1 rfl) ?_
      by_cases c25 : l5 = 0
      · rw [if_pos c25] at hF
        refine lv_eqi c25 ?_
        refine lv_tableIn (tgt := 144) (off := 25) hx hb dX11_toss_119 (by decide) (by decide) (by decide) (by decide) ?_
        refine lv_aload hx hb dX11_toss_144 (lv_at hl 2 rfl) ?_
        refine lv_aload_n hx hb dX11_toss_146 rfl (lv_at hl 0 rfl) ?_
        refine va_get (D := G.1) (ci := 11) (v := .ref a_flight) (C := RX11) (T := TX11) (N := 6) hx hb hts hin11 hown hK hP 1 rfl rfl 4 (by decide) lk_31 (fun _ h9 => h9) rfl dX11_toss_147 ?_
        refine lv_iconst (v := 1) hx hb dX11_toss_150 (by decide) ?_
        obtain ⟨r26, hc27, hF⟩ := bd_some hF
        have hPc := hP.sub (ws' := [o2 a_flight r13.1 r13.2.1 r13.2.2.1 r13.2.2.2.1 r13.2.2.2.2.1 x_flight_tick_21 x_flight_angle_22 x_flight_lean_23, oT c_q a_q x_q_kind x_q_number x_q_v x_q_caught a_q_steps]) [2, 0] rfl
        have hDc := hD.sub (ws' := [o2 a_flight r13.1 r13.2.1 r13.2.2.1 r13.2.2.2.1 r13.2.2.2.2.1 x_flight_tick_21 x_flight_angle_22 x_flight_lean_23, oT c_q a_q x_q_kind x_q_number x_q_v x_q_caught a_q_steps]) [2, 0] (by decide) rfl
        have hFc := va_free (wc := [o2 a_flight r13.1 r13.2.1 r13.2.2.1 r13.2.2.2.1 r13.2.2.2.2.1 x_flight_tick_21 x_flight_angle_22 x_flight_lean_23, oT c_q a_q x_q_kind x_q_number x_q_v x_q_caught a_q_steps]) hD hS hA [2, 0] rfl
        have hrun : va_Run p l e (rm_X11_toss_s) s m args below meth c H locs 0 0 0 0 (F0 m 151 ls [.int 1, .ref a_flight, .ref a_q]) [] (QI G [o2 a_flight r13.1 r13.2.1 r13.2.2.1 r13.2.2.2.1 r13.2.2.2.2.1 x_flight_tick_21 x_flight_angle_22 x_flight_lean_23, oT c_q a_q x_q_kind x_q_number x_q_v x_q_caught a_q_steps] r26 (va_A [o2 a_flight r13.1 r13.2.1 r13.2.2.1 r13.2.2.2.1 r13.2.2.2.2.1 x_flight_tick_21 x_flight_angle_22 x_flight_lean_23, oT c_q a_q x_q_kind x_q_number x_q_v x_q_caught a_q_steps] H.size) (Value.ref a_q :: [.ref a_flight, .int 1]).toArray) (va_A [o2 a_flight r13.1 r13.2.1 r13.2.2.1 r13.2.2.2.1 r13.2.2.2.2.1 x_flight_tick_21 x_flight_angle_22 x_flight_lean_23, oT c_q a_q x_q_kind x_q_number x_q_v x_q_caught a_q_steps] H.size) := by
          rcases hc_q with rfl | rfl | rfl | rfl | rfl | rfl | rfl
          · have hM := c_X0_sideUp l G 0 (by decide) a_flight a_q a_q_steps r13.1 r13.2.1 r13.2.2.1 r13.2.2.2.1 r13.2.2.2.2.1 x_flight_tick_21 x_flight_angle_22 x_flight_lean_23 x_q_kind x_q_number x_q_v x_q_caught (1 : Int32) r26 (show fX0_sideUp 0 r13.2.2.2.2.1 x_flight_tick_21 x_flight_angle_22 x_q_v (1 : Int32) = some r26 from hc27) H.size
            exact va_runU (As := [.ref a_flight, .int 1]) (rest := []) ⟨hx, hb, hml, hown, hts⟩ hM (va_cwO 2 hts gX11_toss_X0_sideUp_u142X0 rfl rfl rfl (b0 := cX7_sideUp) (m0 := 3) (r0 := (some .int)) (by decide +kernel) (by decide +kernel) ⟨Nat.le_of_ble_eq_true rfl, Nat.le_of_ble_eq_true rfl⟩) (cp_V hK hE hS hPc hDc hFc (va_recv hK hPc (ci := 0) (q0 := 1) rfl rfl)) rfl rfl hl.1 rfl (lv_room (Nat.le_of_ble_eq_true rfl)) dX11_toss_151 ⟨Nat.zero_le _, Nat.zero_le _⟩
          · have hM := c_X1_sideUp l G a_flight a_q a_q_steps r13.1 r13.2.1 r13.2.2.1 r13.2.2.2.1 r13.2.2.2.2.1 x_flight_tick_21 x_flight_angle_22 x_flight_lean_23 x_q_kind x_q_number x_q_v x_q_caught (1 : Int32) r26 (show fX1_sideUp r13.2.2.1 r13.2.2.2.2.1 x_flight_tick_21 x_flight_angle_22 x_q_v (1 : Int32) = some r26 from hc27) H.size
            exact va_runU (As := [.ref a_flight, .int 1]) (rest := []) ⟨hx, hb, hml, hown, hts⟩ hM (va_cwO 2 hts gX11_toss_X1_sideUp_u142X1 rfl rfl rfl (b0 := cX7_sideUp) (m0 := 3) (r0 := (some .int)) (by decide +kernel) (by decide +kernel) ⟨Nat.le_of_ble_eq_true rfl, Nat.le_of_ble_eq_true rfl⟩) (cp_V hK hE hS hPc hDc hFc (va_recv hK hPc (ci := 1) (q0 := 1) rfl rfl)) rfl rfl hl.1 rfl (lv_room (Nat.le_of_ble_eq_true rfl)) dX11_toss_151 ⟨Nat.zero_le _, Nat.zero_le _⟩
          · have hM := c_X4_sideUp l G a_flight a_q a_q_steps r13.1 r13.2.1 r13.2.2.1 r13.2.2.2.1 r13.2.2.2.2.1 x_flight_tick_21 x_flight_angle_22 x_flight_lean_23 x_q_kind x_q_number x_q_v x_q_caught (1 : Int32) r26 (show fX4_sideUp x_flight_angle_22 x_flight_lean_23 x_q_v (1 : Int32) = some r26 from hc27) H.size
            exact va_runU (As := [.ref a_flight, .int 1]) (rest := []) ⟨hx, hb, hml, hown, hts⟩ hM (va_cwO 2 hts gX11_toss_X4_sideUp_u142X4 rfl rfl rfl (b0 := cX7_sideUp) (m0 := 3) (r0 := (some .int)) (by decide +kernel) (by decide +kernel) ⟨Nat.le_of_ble_eq_true rfl, Nat.le_of_ble_eq_true rfl⟩) (cp_V hK hE hS hPc hDc hFc (va_recv hK hPc (ci := 4) (q0 := 1) rfl rfl)) rfl rfl hl.1 rfl (lv_room (Nat.le_of_ble_eq_true rfl)) dX11_toss_151 ⟨Nat.zero_le _, Nat.zero_le _⟩
          · have hM := c_X5_sideUp l G a_flight a_q a_q_steps r13.1 r13.2.1 r13.2.2.1 r13.2.2.2.1 r13.2.2.2.2.1 x_flight_tick_21 x_flight_angle_22 x_flight_lean_23 x_q_kind x_q_number x_q_v x_q_caught (1 : Int32) r26 (show fX5_sideUp r13.2.1 x_q_v (1 : Int32) = some r26 from hc27) H.size
            exact va_runU (As := [.ref a_flight, .int 1]) (rest := []) ⟨hx, hb, hml, hown, hts⟩ hM (va_cwO 2 hts gX11_toss_X5_sideUp_u142X5 rfl rfl rfl (b0 := cX7_sideUp) (m0 := 3) (r0 := (some .int)) (by decide +kernel) (by decide +kernel) ⟨Nat.le_of_ble_eq_true rfl, Nat.le_of_ble_eq_true rfl⟩) (cp_V hK hE hS hPc hDc hFc (va_recv hK hPc (ci := 5) (q0 := 1) rfl rfl)) rfl rfl hl.1 rfl (lv_room (Nat.le_of_ble_eq_true rfl)) dX11_toss_151 ⟨Nat.zero_le _, Nat.zero_le _⟩
          · have hM := c_X7_sideUp l G 7 (by decide) a_flight a_q a_q_steps r13.1 r13.2.1 r13.2.2.1 r13.2.2.2.1 r13.2.2.2.2.1 x_flight_tick_21 x_flight_angle_22 x_flight_lean_23 x_q_kind x_q_number x_q_v x_q_caught (1 : Int32) r26 (show fX7_sideUp 7 (1 : Int32) = some r26 from hc27) H.size
            exact va_runV (As := [.ref a_flight, .int 1]) (rest := []) ⟨hx, hb, hml, hown, hts⟩ hM (cwV 2 hts gX11_toss_X7_sideUp rfl rfl rfl (by decide +kernel) ⟨Nat.le_of_ble_eq_true rfl, Nat.le_of_ble_eq_true rfl⟩) (cp_V hK hE hS hPc hDc hFc (va_recv hK hPc (ci := 7) (q0 := 1) rfl rfl)) rfl rfl hl.1 rfl (lv_room (Nat.le_of_ble_eq_true rfl)) dX11_toss_151 ⟨Nat.zero_le _, Nat.zero_le _⟩
          · have hM := c_X9_sideUp l G 9 (by decide) a_flight a_q a_q_steps r13.1 r13.2.1 r13.2.2.1 r13.2.2.2.1 r13.2.2.2.2.1 x_flight_tick_21 x_flight_angle_22 x_flight_lean_23 x_q_kind x_q_number x_q_v x_q_caught (1 : Int32) r26 (show fX9_sideUp 9 x_flight_angle_22 (1 : Int32) = some r26 from hc27) H.size
            exact va_runU (As := [.ref a_flight, .int 1]) (rest := []) ⟨hx, hb, hml, hown, hts⟩ hM (va_cwO 2 hts gX11_toss_X9_sideUp_u142X9 rfl rfl rfl (b0 := cX7_sideUp) (m0 := 3) (r0 := (some .int)) (by decide +kernel) (by decide +kernel) ⟨Nat.le_of_ble_eq_true rfl, Nat.le_of_ble_eq_true rfl⟩) (cp_V hK hE hS hPc hDc hFc (va_recv hK hPc (ci := 9) (q0 := 1) rfl rfl)) rfl rfl hl.1 rfl (lv_room (Nat.le_of_ble_eq_true rfl)) dX11_toss_151 ⟨Nat.zero_le _, Nat.zero_le _⟩
          · have hM := c_X10_sideUp l G 10 (by decide) a_flight a_q a_q_steps r13.1 r13.2.1 r13.2.2.1 r13.2.2.2.1 r13.2.2.2.2.1 x_flight_tick_21 x_flight_angle_22 x_flight_lean_23 x_q_kind x_q_number x_q_v x_q_caught (1 : Int32) r26 (show fX10_sideUp 10 x_flight_angle_22 x_flight_lean_23 (1 : Int32) = some r26 from hc27) H.size
            exact va_runU (As := [.ref a_flight, .int 1]) (rest := []) ⟨hx, hb, hml, hown, hts⟩ hM (va_cwO 2 hts gX11_toss_X10_sideUp_u142X10 rfl rfl rfl (b0 := cX7_sideUp) (m0 := 3) (r0 := (some .int)) (by decide +kernel) (by decide +kernel) ⟨Nat.le_of_ble_eq_true rfl, Nat.le_of_ble_eq_true rfl⟩) (cp_V hK hE hS hPc hDc hFc (va_recv hK hPc (ci := 10) (q0 := 1) rfl rfl)) rfl rfl hl.1 rfl (lv_room (Nat.le_of_ble_eq_true rfl)) dX11_toss_151 ⟨Nat.zero_le _, Nat.zero_le _⟩
        refine cl_i (w1 := [o2 a_flight r13.1 r13.2.1 r13.2.2.1 r13.2.2.2.1 r13.2.2.2.2.1 x_flight_tick_21 x_flight_angle_22 x_flight_lean_23, oT c_q a_q x_q_kind x_q_number x_q_v x_q_caught a_q_steps]) (ws' := [oT c_q a_q x_q_kind x_q_number x_q_v x_q_caught a_q_steps, o11 h a_now a_kept x_isKept a_reader a_flight a_latest, o2 a_flight r13.1 r13.2.1 r13.2.2.1 r13.2.2.2.1 r13.2.2.2.2.1 x_flight_tick_21 x_flight_angle_22 x_flight_lean_23, o6 a_now x_now_coins x_now_hands x_now_laws x_now_bytes x_now_sides a_now_edge a_now_bend a_now_rise a_now_wandering a_now_thrown a_now_alike a_now_law a_now_tape a_now_side, aI G a_q_steps n_q_steps f_q_steps, aI G a_now_bend 6 f_now_bend, aI G a_now_edge 6 f_now_edge, aT G a_now_law 8 f_now_law]) hP hD hS hFc [2, 0] rfl rfl rfl hrun (fun H locs hP hD hS => ?_)
        refine W.eq (g2 := F0 m 154 ls [.int r26]) rfl ?_
        injection hF with hz
        injection hz with hq0 hz
        injection hz with hq1 hz
        injection hz with hq2 hz
        injection hz with hq3 hz
        injection hz with hq4 hz
        injection hz with hq5 hz
        injection hz with hq6 hz
        injection hz with hq7 hz
        subst hq0
        subst hq1
        subst hq2
        subst hq3
        subst hq4
        subst hq5
        subst hq6
        subst hq7
        subst hz
        exact cm_reti hx hb hr rfl hlk hK hP hD hS dX11_toss_154
      rw [if_neg c25] at hF
      by_cases c28 : l5 = 1
      · rw [if_pos c28] at hF
        refine lv_eqi c28 ?_
        refine lv_tableIn (tgt := 155) (off := 36) hx hb dX11_toss_119 (by decide) (by decide) (by decide) (by decide) ?_
        refine lv_aload_n hx hb dX11_toss_155 rfl (lv_at hl 0 rfl) ?_
        refine va_get (D := G.1) (ci := 11) (v := .ref a_flight) (C := RX11) (T := TX11) (N := 6) hx hb hts hin11 hown hK hP 1 rfl rfl 4 (by decide) lk_31 (fun _ h9 => h9) rfl dX11_toss_156 ?_
        refine va_getN (D := G.1) (ci := 2) (v := .int x_flight_angle_22) (C := RX2) (T := TX2) (N := 8) hx hb hts hin2 hown hK hP 2 rfl rfl 6 (by decide) lk_146 (fun _ h9 => h9) rfl dX11_toss_159 ?_
        injection hF with hz
        injection hz with hq0 hz
        injection hz with hq1 hz
        injection hz with hq2 hz
        injection hz with hq3 hz
        injection hz with hq4 hz
        injection hz with hq5 hz
        injection hz with hq6 hz
        injection hz with hq7 hz
        subst hq0
        subst hq1
        subst hq2
        subst hq3
        subst hq4
        subst hq5
        subst hq6
        subst hq7
        subst hz
        exact cm_reti hx hb hr rfl hlk hK hP hD hS dX11_toss_162
      rw [if_neg c28] at hF
      by_cases c29 : l5 = 2
      · rw [if_pos c29] at hF
        refine lv_eqi c29 ?_
        refine lv_tableIn (tgt := 163) (off := 44) hx hb dX11_toss_119 (by decide) (by decide) (by decide) (by decide) ?_
        refine lv_iload hx hb dX11_toss_163 (lv_at hl 3 rfl) ?_
        injection hF with hz
        injection hz with hq0 hz
        injection hz with hq1 hz
        injection hz with hq2 hz
        injection hz with hq3 hz
        injection hz with hq4 hz
        injection hz with hq5 hz
        injection hz with hq6 hz
        injection hz with hq7 hz
        subst hq0
        subst hq1
        subst hq2
        subst hq3
        subst hq4
        subst hq5
        subst hq6
        subst hq7
        subst hz
        exact cm_reti hx hb hr rfl hlk hK hP hD hS dX11_toss_165
      rw [if_neg c29] at hF
      refine lv_tableOut (tgt := 166) hx hb dX11_toss_119 (by have a0 := lv_neT (k := 0) (a := 0) c25 (by decide); have a1 := lv_neT (k := 1) (a := 1) c28 (by decide); have a2 := lv_neT (k := 2) (a := 2) c29 (by decide); omega) (by decide) ?_
      refine lv_aload_n hx hb dX11_toss_166 rfl (lv_at hl 0 rfl) ?_
      refine va_get (D := G.1) (ci := 11) (v := .ref a_flight) (C := RX11) (T := TX11) (N := 6) hx hb hts hin11 hown hK hP 1 rfl rfl 4 (by decide) lk_31 (fun _ h9 => h9) rfl dX11_toss_167 ?_
      refine va_getN (D := G.1) (ci := 2) (v := .int r13.2.2.2.2.1) (C := RX2) (T := TX2) (N := 8) hx hb hts hin2 hown hK hP 2 rfl rfl 4 (by decide) lk_132 (fun _ h9 => h9) rfl dX11_toss_170 ?_
      injection hF with hz
      injection hz with hq0 hz
      injection hz with hq1 hz
      injection hz with hq2 hz
      injection hz with hq3 hz
      injection hz with hq4 hz
      injection hz with hq5 hz
      injection hz with hq6 hz
      injection hz with hq7 hz
      subst hq0
      subst hq1
      subst hq2
      subst hq3
      subst hq4
      subst hq5
      subst hq6
      subst hq7
      subst hz
      exact cm_reti hx hb hr rfl hlk hK hP hD hS dX11_toss_173
    rw [if_pos c12] at hF
    refine lv_bipush (v := (-2)) hx hb dX11_toss_51 (by decide) ?_
    injection hF with hz
    injection hz with hq0 hz
    injection hz with hq1 hz
    injection hz with hq2 hz
    injection hz with hq3 hz
    injection hz with hq4 hz
    injection hz with hq5 hz
    injection hz with hq6 hz
    injection hz with hq7 hz
    subst hq0
    subst hq1
    subst hq2
    subst hq3
    subst hq4
    subst hq5
    subst hq6
    subst hq7
    subst hz
    exact cm_reti hx hb hr rfl hlk hK hP hD hS dX11_toss_53
  rw [if_pos c9] at hF
  refine lv_iconst (v := (-1)) hx hb dX11_toss_38 (by decide) ?_
  injection hF with hz
  injection hz with hq0 hz
  injection hz with hq1 hz
  injection hz with hq2 hz
  injection hz with hq3 hz
  injection hz with hq4 hz
  injection hz with hq5 hz
  injection hz with hq6 hz
  injection hz with hq7 hz
  subst hq0
  subst hq1
  subst hq2
  subst hq3
  subst hq4
  subst hq5
  subst hq6
  subst hq7
  subst hz
  exact cm_reti hx hb hr rfl hlk hK hP hD hS dX11_toss_39

/-! HeadsByHair.up(IIIII)I, n -/
abbrev rm_X11_up_n : Room := { frames := 2, cells := 0, slots := 0, locals := 43 }
set_option maxHeartbeats 4000000 in
set_option maxRecDepth 100000 in
theorem c_X11_up_n (l : Launch) (G : GG) (h a_now a_kept a_reader a_flight a_latest a_now_edge a_now_bend a_now_rise a_now_wandering a_now_thrown a_now_alike a_now_law a_now_tape a_now_side : Nat) (x_isKept x_now_coins x_now_hands x_now_laws x_now_bytes x_now_sides : Int32) (f_now_law : Nat → Option Nat) (l1 : Int32) (l2 : Int32) (l3 : Int32) (l4 : Int32) (l5 : Int32) (z : Int32) (hlaw : fX11_lawOf x_now_laws f_now_law l1 = some none) (hF : fX11_up_n x_now_laws f_now_law l1 l2 l3 l4 l5 = some (z)) : CMi l yX11_up wsX11_up rm_X11_up_n G [o11 h a_now a_kept x_isKept a_reader a_flight a_latest, o6 a_now x_now_coins x_now_hands x_now_laws x_now_bytes x_now_sides a_now_edge a_now_bend a_now_rise a_now_wandering a_now_thrown a_now_alike a_now_law a_now_tape a_now_side, aT G a_now_law 8 f_now_law] [o11 h a_now a_kept x_isKept a_reader a_flight a_latest, o6 a_now x_now_coins x_now_hands x_now_laws x_now_bytes x_now_sides a_now_edge a_now_bend a_now_rise a_now_wandering a_now_thrown a_now_alike a_now_law a_now_tape a_now_side, aT G a_now_law 8 f_now_law] [.ref h, .int l1, .int l2, .int l3, .int l4, .int l5] z := by
  refine cm_start (cc := cX11_up) (maxL := 7) (ret := (some .int)) (Qc := fun A => QI G [o11 h a_now a_kept x_isKept a_reader a_flight a_latest, o6 a_now x_now_coins x_now_hands x_now_laws x_now_bytes x_now_sides a_now_edge a_now_bend a_now_rise a_now_wandering a_now_thrown a_now_alike a_now_law a_now_tape a_now_side, aT G a_now_law 8 f_now_law] z A) (by decide +kernel) rfl (Nat.le_of_ble_eq_true rfl) ?_
  intro p e s m args below meth c A hx hb hr hlk hml hown hnm hts hA H locs hP hK hD hE hS ls hl
  have hown : s.vm.findClass RX11 = some m.cls := hown
  have hl : lv_has ls 7 [(0, .ref h), (1, .int l1), (2, .int l2), (3, .int l3), (4, .int l4), (5, .int l5)] := hl
  revert hF
  intro hF
  unfold fX11_up_n at hF
  refine lv_aload_n hx hb dX11_up_0 rfl (lv_at hl 0 rfl) ?_
  refine lv_iload_n hx hb dX11_up_1 rfl (lv_at hl 1 rfl) ?_
  have hPc := hP.sub (ws' := [o11 h a_now a_kept x_isKept a_reader a_flight a_latest, o6 a_now x_now_coins x_now_hands x_now_laws x_now_bytes x_now_sides a_now_edge a_now_bend a_now_rise a_now_wandering a_now_thrown a_now_alike a_now_law a_now_tape a_now_side, aT G a_now_law 8 f_now_law]) [0, 1, 2] rfl
  have hDc := hD.sub (ws' := [o11 h a_now a_kept x_isKept a_reader a_flight a_latest, o6 a_now x_now_coins x_now_hands x_now_laws x_now_bytes x_now_sides a_now_edge a_now_bend a_now_rise a_now_wandering a_now_thrown a_now_alike a_now_law a_now_tape a_now_side, aT G a_now_law 8 f_now_law]) [0, 1, 2] (by decide) rfl
  have hFc := va_free (wc := [o11 h a_now a_kept x_isKept a_reader a_flight a_latest, o6 a_now x_now_coins x_now_hands x_now_laws x_now_bytes x_now_sides a_now_edge a_now_bend a_now_rise a_now_wandering a_now_thrown a_now_alike a_now_law a_now_tape a_now_side, aT G a_now_law 8 f_now_law]) hD hS hA [0, 1, 2] rfl
  have hM := c_X11_lawOf l G h a_now a_kept a_reader a_flight a_latest a_now_edge a_now_bend a_now_rise a_now_wandering a_now_thrown a_now_alike a_now_law a_now_tape a_now_side x_isKept x_now_coins x_now_hands x_now_laws x_now_bytes x_now_sides f_now_law l1 none hlaw H.size
  refine cl_r (z := none) (w1 := [o11 h a_now a_kept x_isKept a_reader a_flight a_latest, o6 a_now x_now_coins x_now_hands x_now_laws x_now_bytes x_now_sides a_now_edge a_now_bend a_now_rise a_now_wandering a_now_thrown a_now_alike a_now_law a_now_tape a_now_side, aT G a_now_law 8 f_now_law]) (ws' := [o11 h a_now a_kept x_isKept a_reader a_flight a_latest, o6 a_now x_now_coins x_now_hands x_now_laws x_now_bytes x_now_sides a_now_edge a_now_bend a_now_rise a_now_wandering a_now_thrown a_now_alike a_now_law a_now_tape a_now_side, aT G a_now_law 8 f_now_law]) hP hD hS hFc [0, 1, 2] rfl rfl rfl (va_runV (As := [.int l1]) (rest := []) ⟨hx, hb, hml, hown, hts⟩ hM (cwV 1 hts gX11_up_X11_lawOf rfl rfl rfl (by decide +kernel) ⟨Nat.le_of_ble_eq_true rfl, Nat.le_of_ble_eq_true rfl⟩) (cp_V hK hE hS hPc hDc hFc (va_recv hK hPc (ci := 11) (q0 := 0) rfl rfl)) rfl rfl hl.1 rfl (lv_room (Nat.le_of_ble_eq_true rfl)) dX11_up_2 ⟨Nat.zero_le _, Nat.zero_le _⟩) (fun H locs hP hD hS => ?_)
  refine W.eq (g2 := F0 m 5 ls [.null]) rfl ?_
  refine lv_astoreN (lv' := [(6, .null), (0, .ref h), (1, .int l1), (2, .int l2), (3, .int l3), (4, .int l4), (5, .int l5)]) hx hb dX11_up_5 hl (by decide) rfl (fun ls hl => ?_)
  refine lv_aloadN hx hb dX11_up_7 (lv_at hl 0 rfl) ?_
  refine lv_ifnullN (tgt := 28) hx hb dX11_up_9 (by decide) ?_
  refine lv_iconst (v := (-1)) hx hb dX11_up_28 (by decide) ?_
  injection hF with hz
  subst hz
  exact cm_reti hx hb hr rfl hlk hK hP hD hS dX11_up_29

/-! HeadsByHair.up(IIIII)I, s -/
abbrev rm_X11_up_s : Room := { frames := 4, cells := 0, slots := 0, locals := 100 }
set_option maxHeartbeats 4000000 in
set_option maxRecDepth 100000 in
theorem c_X11_up_s (l : Launch) (G : GG) (c_q : Nat) (hc_q : c_q = 0 ∨ c_q = 1 ∨ c_q = 4 ∨ c_q = 5 ∨ c_q = 7 ∨ c_q = 9 ∨ c_q = 10) (a_q a_q_steps h a_now a_kept a_reader a_flight a_latest a_now_edge a_now_bend a_now_rise a_now_wandering a_now_thrown a_now_alike a_now_law a_now_tape a_now_side : Nat) (x_q_kind x_q_number x_q_v x_q_caught x_isKept x_flight_hand x_flight_edge x_flight_bend x_flight_rise x_flight_last x_flight_tick x_flight_angle x_flight_lean x_now_coins x_now_hands x_now_laws x_now_bytes x_now_sides : Int32) (f_q_steps : Nat → Int32) (f_now_bend : Nat → Int32) (f_now_edge : Nat → Int32) (f_now_law : Nat → Option Nat) (n_q_steps : Nat) (l1 : Int32) (l2 : Int32) (l3 : Int32) (l4 : Int32) (l5 : Int32) (z : Int32) (z_x_flight_hand : Int32) (z_x_flight_edge : Int32) (z_x_flight_bend : Int32) (z_x_flight_rise : Int32) (z_x_flight_last : Int32) (z_x_flight_tick : Int32) (z_x_flight_angle : Int32) (z_x_flight_lean : Int32) (hlaw : fX11_lawOf x_now_laws f_now_law l1 = some (some a_q)) (hF : fX11_up_s n_q_steps c_q x_q_v x_q_caught x_flight_hand x_flight_edge x_flight_bend x_flight_rise x_flight_last x_flight_tick x_flight_angle x_flight_lean x_now_coins x_now_hands x_now_laws f_q_steps f_now_bend f_now_edge f_now_law l1 l2 l3 l4 l5 = some (z, z_x_flight_hand, z_x_flight_edge, z_x_flight_bend, z_x_flight_rise, z_x_flight_last, z_x_flight_tick, z_x_flight_angle, z_x_flight_lean)) : CMi l yX11_up wsX11_up rm_X11_up_s G [oT c_q a_q x_q_kind x_q_number x_q_v x_q_caught a_q_steps, o11 h a_now a_kept x_isKept a_reader a_flight a_latest, o2 a_flight x_flight_hand x_flight_edge x_flight_bend x_flight_rise x_flight_last x_flight_tick x_flight_angle x_flight_lean, o6 a_now x_now_coins x_now_hands x_now_laws x_now_bytes x_now_sides a_now_edge a_now_bend a_now_rise a_now_wandering a_now_thrown a_now_alike a_now_law a_now_tape a_now_side, aI G a_q_steps n_q_steps f_q_steps, aI G a_now_bend 6 f_now_bend, aI G a_now_edge 6 f_now_edge, aT G a_now_law 8 f_now_law] [oT c_q a_q x_q_kind x_q_number x_q_v x_q_caught a_q_steps, o11 h a_now a_kept x_isKept a_reader a_flight a_latest, o2 a_flight z_x_flight_hand z_x_flight_edge z_x_flight_bend z_x_flight_rise z_x_flight_last z_x_flight_tick z_x_flight_angle z_x_flight_lean, o6 a_now x_now_coins x_now_hands x_now_laws x_now_bytes x_now_sides a_now_edge a_now_bend a_now_rise a_now_wandering a_now_thrown a_now_alike a_now_law a_now_tape a_now_side, aI G a_q_steps n_q_steps f_q_steps, aI G a_now_bend 6 f_now_bend, aI G a_now_edge 6 f_now_edge, aT G a_now_law 8 f_now_law] [.ref h, .int l1, .int l2, .int l3, .int l4, .int l5] z := by
  refine cm_start (cc := cX11_up) (maxL := 7) (ret := (some .int)) (Qc := fun A => QI G [oT c_q a_q x_q_kind x_q_number x_q_v x_q_caught a_q_steps, o11 h a_now a_kept x_isKept a_reader a_flight a_latest, o2 a_flight z_x_flight_hand z_x_flight_edge z_x_flight_bend z_x_flight_rise z_x_flight_last z_x_flight_tick z_x_flight_angle z_x_flight_lean, o6 a_now x_now_coins x_now_hands x_now_laws x_now_bytes x_now_sides a_now_edge a_now_bend a_now_rise a_now_wandering a_now_thrown a_now_alike a_now_law a_now_tape a_now_side, aI G a_q_steps n_q_steps f_q_steps, aI G a_now_bend 6 f_now_bend, aI G a_now_edge 6 f_now_edge, aT G a_now_law 8 f_now_law] z A) (by decide +kernel) rfl (Nat.le_of_ble_eq_true rfl) ?_
  intro p e s m args below meth c A hx hb hr hlk hml hown hnm hts hA H locs hP hK hD hE hS ls hl
  have hown : s.vm.findClass RX11 = some m.cls := hown
  have hl : lv_has ls 7 [(0, .ref h), (1, .int l1), (2, .int l2), (3, .int l3), (4, .int l4), (5, .int l5)] := hl
  have hT_c_q : isT c_q := by unfold isT; omega
  have hin_c_q : ∀ w ∈ u_ws (tC c_q) TX7 5, w ∈ wsX11_up := by rcases hc_q with rfl | rfl | rfl | rfl | rfl | rfl | rfl <;> decide +kernel
  have lk_125 := hts (.fieldLink RX11 125 "HeadsByHair$Throw" "caught" "I") (by decide +kernel)
  revert hF
  intro hF
  unfold fX11_up_s at hF
  refine lv_aload_n hx hb dX11_up_0 rfl (lv_at hl 0 rfl) ?_
  refine lv_iload_n hx hb dX11_up_1 rfl (lv_at hl 1 rfl) ?_
  have hPc := hP.sub (ws' := [o11 h a_now a_kept x_isKept a_reader a_flight a_latest, o6 a_now x_now_coins x_now_hands x_now_laws x_now_bytes x_now_sides a_now_edge a_now_bend a_now_rise a_now_wandering a_now_thrown a_now_alike a_now_law a_now_tape a_now_side, aT G a_now_law 8 f_now_law]) [1, 3, 7] rfl
  have hDc := hD.sub (ws' := [o11 h a_now a_kept x_isKept a_reader a_flight a_latest, o6 a_now x_now_coins x_now_hands x_now_laws x_now_bytes x_now_sides a_now_edge a_now_bend a_now_rise a_now_wandering a_now_thrown a_now_alike a_now_law a_now_tape a_now_side, aT G a_now_law 8 f_now_law]) [1, 3, 7] (by decide) rfl
  have hFc := va_free (wc := [o11 h a_now a_kept x_isKept a_reader a_flight a_latest, o6 a_now x_now_coins x_now_hands x_now_laws x_now_bytes x_now_sides a_now_edge a_now_bend a_now_rise a_now_wandering a_now_thrown a_now_alike a_now_law a_now_tape a_now_side, aT G a_now_law 8 f_now_law]) hD hS hA [1, 3, 7] rfl
  have hM := c_X11_lawOf l G h a_now a_kept a_reader a_flight a_latest a_now_edge a_now_bend a_now_rise a_now_wandering a_now_thrown a_now_alike a_now_law a_now_tape a_now_side x_isKept x_now_coins x_now_hands x_now_laws x_now_bytes x_now_sides f_now_law l1 (some a_q) hlaw H.size
  refine cl_r (z := (some a_q)) (w1 := [o11 h a_now a_kept x_isKept a_reader a_flight a_latest, o6 a_now x_now_coins x_now_hands x_now_laws x_now_bytes x_now_sides a_now_edge a_now_bend a_now_rise a_now_wandering a_now_thrown a_now_alike a_now_law a_now_tape a_now_side, aT G a_now_law 8 f_now_law]) (ws' := [oT c_q a_q x_q_kind x_q_number x_q_v x_q_caught a_q_steps, o11 h a_now a_kept x_isKept a_reader a_flight a_latest, o2 a_flight x_flight_hand x_flight_edge x_flight_bend x_flight_rise x_flight_last x_flight_tick x_flight_angle x_flight_lean, o6 a_now x_now_coins x_now_hands x_now_laws x_now_bytes x_now_sides a_now_edge a_now_bend a_now_rise a_now_wandering a_now_thrown a_now_alike a_now_law a_now_tape a_now_side, aI G a_q_steps n_q_steps f_q_steps, aI G a_now_bend 6 f_now_bend, aI G a_now_edge 6 f_now_edge, aT G a_now_law 8 f_now_law]) hP hD hS hFc [1, 3, 7] rfl rfl rfl (va_runV (As := [.int l1]) (rest := []) ⟨hx, hb, hml, hown, hts⟩ hM (cwV 1 hts gX11_up_X11_lawOf rfl rfl rfl (by decide +kernel) ⟨Nat.le_of_ble_eq_true rfl, Nat.le_of_ble_eq_true rfl⟩) (cp_V hK hE hS hPc hDc hFc (va_recv hK hPc (ci := 11) (q0 := 0) rfl rfl)) rfl rfl hl.1 rfl (lv_room (Nat.le_of_ble_eq_true rfl)) dX11_up_2 ⟨Nat.zero_le _, Nat.zero_le _⟩) (fun H locs hP hD hS => ?_)
  refine W.eq (g2 := F0 m 5 ls [.ref a_q]) rfl ?_
  refine lv_astore (lv' := [(6, .ref a_q), (0, .ref h), (1, .int l1), (2, .int l2), (3, .int l3), (4, .int l4), (5, .int l5)]) hx hb dX11_up_5 hl (by decide) rfl (fun ls hl => ?_)
  refine lv_aload hx hb dX11_up_7 (lv_at hl 0 rfl) ?_
  refine lv_ifnull hx hb dX11_up_9 ?_
  refine lv_aload_n hx hb dX11_up_12 rfl (lv_at hl 1 rfl) ?_
  refine lv_iload_n hx hb dX11_up_13 rfl (lv_at hl 3 rfl) ?_
  obtain ⟨r1, hc2, hF⟩ := bd_some hF
  have hPc := hP.sub (ws' := [o11 h a_now a_kept x_isKept a_reader a_flight a_latest, o6 a_now x_now_coins x_now_hands x_now_laws x_now_bytes x_now_sides a_now_edge a_now_bend a_now_rise a_now_wandering a_now_thrown a_now_alike a_now_law a_now_tape a_now_side]) [1, 3] rfl
  have hDc := hD.sub (ws' := [o11 h a_now a_kept x_isKept a_reader a_flight a_latest, o6 a_now x_now_coins x_now_hands x_now_laws x_now_bytes x_now_sides a_now_edge a_now_bend a_now_rise a_now_wandering a_now_thrown a_now_alike a_now_law a_now_tape a_now_side]) [1, 3] (by decide) rfl
  have hFc := va_free (wc := [o11 h a_now a_kept x_isKept a_reader a_flight a_latest, o6 a_now x_now_coins x_now_hands x_now_laws x_now_bytes x_now_sides a_now_edge a_now_bend a_now_rise a_now_wandering a_now_thrown a_now_alike a_now_law a_now_tape a_now_side]) hD hS hA [1, 3] rfl
  have hM := c_X11_isHand l G h a_now a_kept a_reader a_flight a_latest a_now_edge a_now_bend a_now_rise a_now_wandering a_now_thrown a_now_alike a_now_law a_now_tape a_now_side x_isKept x_now_coins x_now_hands x_now_laws x_now_bytes x_now_sides l2 r1 hc2 H.size
  refine cl_i (w1 := [o11 h a_now a_kept x_isKept a_reader a_flight a_latest, o6 a_now x_now_coins x_now_hands x_now_laws x_now_bytes x_now_sides a_now_edge a_now_bend a_now_rise a_now_wandering a_now_thrown a_now_alike a_now_law a_now_tape a_now_side]) (ws' := [oT c_q a_q x_q_kind x_q_number x_q_v x_q_caught a_q_steps, o11 h a_now a_kept x_isKept a_reader a_flight a_latest, o2 a_flight x_flight_hand x_flight_edge x_flight_bend x_flight_rise x_flight_last x_flight_tick x_flight_angle x_flight_lean, o6 a_now x_now_coins x_now_hands x_now_laws x_now_bytes x_now_sides a_now_edge a_now_bend a_now_rise a_now_wandering a_now_thrown a_now_alike a_now_law a_now_tape a_now_side, aI G a_q_steps n_q_steps f_q_steps, aI G a_now_bend 6 f_now_bend, aI G a_now_edge 6 f_now_edge, aT G a_now_law 8 f_now_law]) hP hD hS hFc [1, 3] rfl rfl rfl (va_runV (As := [.int l2]) (rest := []) ⟨hx, hb, hml, hown, hts⟩ hM (cwV 1 hts gX11_up_X11_isHand rfl rfl rfl (by decide +kernel) ⟨Nat.le_of_ble_eq_true rfl, Nat.le_of_ble_eq_true rfl⟩) (cp_V hK hE hS hPc hDc hFc (va_recv hK hPc (ci := 11) (q0 := 0) rfl rfl)) rfl rfl hl.1 rfl (lv_room (Nat.le_of_ble_eq_true rfl)) dX11_up_14 ⟨Nat.zero_le _, Nat.zero_le _⟩) (fun H locs hP hD hS => ?_)
  refine lv_if_eq (tgt := 28) hx hb dX11_up_17 (by decide) (fun c3 => ?_) (fun c3 => ?_)
  · rw [if_pos c3] at hF
    refine lv_iconst (v := (-1)) hx hb dX11_up_28 (by decide) ?_
    injection hF with hz
    injection hz with hq0 hz
    injection hz with hq1 hz
    injection hz with hq2 hz
    injection hz with hq3 hz
    injection hz with hq4 hz
    injection hz with hq5 hz
    injection hz with hq6 hz
    injection hz with hq7 hz
    subst hq0
    subst hq1
    subst hq2
    subst hq3
    subst hq4
    subst hq5
    subst hq6
    subst hq7
    subst hz
    exact cm_reti hx hb hr rfl hlk hK hP hD hS dX11_up_29
  rw [if_neg c3] at hF
  refine lv_aload_n hx hb dX11_up_20 rfl (lv_at hl 1 rfl) ?_
  refine lv_iload_n hx hb dX11_up_21 rfl (lv_at hl 4 rfl) ?_
  obtain ⟨r4, hc5, hF⟩ := bd_some hF
  have hPc := hP.sub (ws' := [o11 h a_now a_kept x_isKept a_reader a_flight a_latest, o6 a_now x_now_coins x_now_hands x_now_laws x_now_bytes x_now_sides a_now_edge a_now_bend a_now_rise a_now_wandering a_now_thrown a_now_alike a_now_law a_now_tape a_now_side]) [1, 3] rfl
  have hDc := hD.sub (ws' := [o11 h a_now a_kept x_isKept a_reader a_flight a_latest, o6 a_now x_now_coins x_now_hands x_now_laws x_now_bytes x_now_sides a_now_edge a_now_bend a_now_rise a_now_wandering a_now_thrown a_now_alike a_now_law a_now_tape a_now_side]) [1, 3] (by decide) rfl
  have hFc := va_free (wc := [o11 h a_now a_kept x_isKept a_reader a_flight a_latest, o6 a_now x_now_coins x_now_hands x_now_laws x_now_bytes x_now_sides a_now_edge a_now_bend a_now_rise a_now_wandering a_now_thrown a_now_alike a_now_law a_now_tape a_now_side]) hD hS hA [1, 3] rfl
  have hM := c_X11_isCoin l G h a_now a_kept a_reader a_flight a_latest a_now_edge a_now_bend a_now_rise a_now_wandering a_now_thrown a_now_alike a_now_law a_now_tape a_now_side x_isKept x_now_coins x_now_hands x_now_laws x_now_bytes x_now_sides l3 r4 hc5 H.size
  refine cl_i (w1 := [o11 h a_now a_kept x_isKept a_reader a_flight a_latest, o6 a_now x_now_coins x_now_hands x_now_laws x_now_bytes x_now_sides a_now_edge a_now_bend a_now_rise a_now_wandering a_now_thrown a_now_alike a_now_law a_now_tape a_now_side]) (ws' := [oT c_q a_q x_q_kind x_q_number x_q_v x_q_caught a_q_steps, o11 h a_now a_kept x_isKept a_reader a_flight a_latest, o2 a_flight x_flight_hand x_flight_edge x_flight_bend x_flight_rise x_flight_last x_flight_tick x_flight_angle x_flight_lean, o6 a_now x_now_coins x_now_hands x_now_laws x_now_bytes x_now_sides a_now_edge a_now_bend a_now_rise a_now_wandering a_now_thrown a_now_alike a_now_law a_now_tape a_now_side, aI G a_q_steps n_q_steps f_q_steps, aI G a_now_bend 6 f_now_bend, aI G a_now_edge 6 f_now_edge, aT G a_now_law 8 f_now_law]) hP hD hS hFc [1, 3] rfl rfl rfl (va_runV (As := [.int l3]) (rest := []) ⟨hx, hb, hml, hown, hts⟩ hM (cwV 1 hts gX11_up_X11_isCoin rfl rfl rfl (by decide +kernel) ⟨Nat.le_of_ble_eq_true rfl, Nat.le_of_ble_eq_true rfl⟩) (cp_V hK hE hS hPc hDc hFc (va_recv hK hPc (ci := 11) (q0 := 0) rfl rfl)) rfl rfl hl.1 rfl (lv_room (Nat.le_of_ble_eq_true rfl)) dX11_up_22 ⟨Nat.zero_le _, Nat.zero_le _⟩) (fun H locs hP hD hS => ?_)
  refine W.eq (g2 := F0 m 25 ls [.int r4]) rfl ?_
  refine lv_if_ne (tgt := 30) hx hb dX11_up_25 (by decide) (fun c6 => ?_) (fun c6 => ?_)
  · rw [if_neg c6] at hF
    refine lv_iload hx hb dX11_up_30 (lv_at hl 5 rfl) ?_
    refine lv_iconst (v := 1) hx hb dX11_up_32 (by decide) ?_
    refine lv_bipush (v := 40) hx hb dX11_up_33 (by decide) ?_
    obtain ⟨r7, hc8, hF⟩ := bd_some hF
    have hPc := hP.sub (ws' := []) [] rfl
    have hDc := hD.sub (ws' := []) [] (by decide) rfl
    have hFc := va_free (wc := []) hD hS hA [] rfl
    have hM := c_X11_isWithin l G l4 (1 : Int32) (40 : Int32) r7 hc8 H.size
    refine cl_i (w1 := []) (ws' := [oT c_q a_q x_q_kind x_q_number x_q_v x_q_caught a_q_steps, o11 h a_now a_kept x_isKept a_reader a_flight a_latest, o2 a_flight x_flight_hand x_flight_edge x_flight_bend x_flight_rise x_flight_last x_flight_tick x_flight_angle x_flight_lean, o6 a_now x_now_coins x_now_hands x_now_laws x_now_bytes x_now_sides a_now_edge a_now_bend a_now_rise a_now_wandering a_now_thrown a_now_alike a_now_law a_now_tape a_now_side, aI G a_q_steps n_q_steps f_q_steps, aI G a_now_bend 6 f_now_bend, aI G a_now_edge 6 f_now_edge, aT G a_now_law 8 f_now_law]) hP hD hS hFc [] rfl rfl rfl (va_runS (As := [.int l4, .int 1, .int 40]) (rest := []) ⟨hx, hb, hml, hown, hts⟩ hM (va_cwS 3 hts gX11_up_X11_isWithin rfl rfl rfl (by decide +kernel) ⟨Nat.le_of_ble_eq_true rfl, Nat.le_of_ble_eq_true rfl⟩) (cp_S hK hE hS hPc hDc hFc) rfl rfl hl.1 rfl (lv_room (Nat.le_of_ble_eq_true rfl)) dX11_up_35 ⟨Nat.zero_le _, Nat.zero_le _⟩) (fun H locs hP hD hS => ?_)
    refine lv_if_eq (tgt := 58) hx hb dX11_up_38 (by decide) (fun c9 => ?_) (fun c9 => ?_)
    · rw [if_pos c9] at hF
      refine lv_bipush (v := (-2)) hx hb dX11_up_58 (by decide) ?_
      injection hF with hz
      injection hz with hq0 hz
      injection hz with hq1 hz
      injection hz with hq2 hz
      injection hz with hq3 hz
      injection hz with hq4 hz
      injection hz with hq5 hz
      injection hz with hq6 hz
      injection hz with hq7 hz
      subst hq0
      subst hq1
      subst hq2
      subst hq3
      subst hq4
      subst hq5
      subst hq6
      subst hq7
      subst hz
      exact cm_reti hx hb hr rfl hlk hK hP hD hS dX11_up_60
    rw [if_neg c9] at hF
    refine lv_iload hx hb dX11_up_41 (lv_at hl 6 rfl) ?_
    refine lv_iconst (v := 1) hx hb dX11_up_43 (by decide) ?_
    refine lv_iload hx hb dX11_up_44 (lv_at hl 5 rfl) ?_
    refine lv_aload hx hb dX11_up_46 (lv_at hl 0 rfl) ?_
    refine va_get (D := G.1) (ci := c_q) (v := .int x_q_caught) (C := tC c_q) (T := TX7) (N := 5) hx hb hts hin_c_q hown hK hP 0 rfl (tC_at hT_c_q) 3 (by decide) lk_125 (fun _ h9 => h9) rfl dX11_up_48 ?_
    refine lv_iadd hx hb dX11_up_51 ?_
    obtain ⟨r10, hc11, hF⟩ := bd_some hF
    have hPc := hP.sub (ws' := []) [] rfl
    have hDc := hD.sub (ws' := []) [] (by decide) rfl
    have hFc := va_free (wc := []) hD hS hA [] rfl
    have hM := c_X11_isWithin l G l5 (1 : Int32) (l4 + x_q_caught) r10 hc11 H.size
    refine cl_i (w1 := []) (ws' := [oT c_q a_q x_q_kind x_q_number x_q_v x_q_caught a_q_steps, o11 h a_now a_kept x_isKept a_reader a_flight a_latest, o2 a_flight x_flight_hand x_flight_edge x_flight_bend x_flight_rise x_flight_last x_flight_tick x_flight_angle x_flight_lean, o6 a_now x_now_coins x_now_hands x_now_laws x_now_bytes x_now_sides a_now_edge a_now_bend a_now_rise a_now_wandering a_now_thrown a_now_alike a_now_law a_now_tape a_now_side, aI G a_q_steps n_q_steps f_q_steps, aI G a_now_bend 6 f_now_bend, aI G a_now_edge 6 f_now_edge, aT G a_now_law 8 f_now_law]) hP hD hS hFc [] rfl rfl rfl (va_runS (As := [.int l5, .int 1, .int (l4 + x_q_caught)]) (rest := []) ⟨hx, hb, hml, hown, hts⟩ hM (va_cwS 3 hts gX11_up_X11_isWithin rfl rfl rfl (by decide +kernel) ⟨Nat.le_of_ble_eq_true rfl, Nat.le_of_ble_eq_true rfl⟩) (cp_S hK hE hS hPc hDc hFc) rfl rfl hl.1 rfl (lv_room (Nat.le_of_ble_eq_true rfl)) dX11_up_52 ⟨Nat.zero_le _, Nat.zero_le _⟩) (fun H locs hP hD hS => ?_)
    refine lv_if_ne (tgt := 61) hx hb dX11_up_55 (by decide) (fun c12 => ?_) (fun c12 => ?_)
    · rw [if_neg c12] at hF
      refine W.eq (g2 := F0 m 61 ls []) rfl ?_
      refine lv_aload_n hx hb dX11_up_61 rfl (lv_at hl 1 rfl) ?_
      refine lv_aload hx hb dX11_up_62 (lv_at hl 0 rfl) ?_
      refine lv_iload_n hx hb dX11_up_64 rfl (lv_at hl 3 rfl) ?_
      refine lv_iload_n hx hb dX11_up_65 rfl (lv_at hl 4 rfl) ?_
      refine lv_iload hx hb dX11_up_66 (lv_at hl 5 rfl) ?_
      obtain ⟨r13, hc14, hF⟩ := bd_some hF
      have hPc := hP.sub (ws' := [oT c_q a_q x_q_kind x_q_number x_q_v x_q_caught a_q_steps, o11 h a_now a_kept x_isKept a_reader a_flight a_latest, o2 a_flight x_flight_hand x_flight_edge x_flight_bend x_flight_rise x_flight_last x_flight_tick x_flight_angle x_flight_lean, o6 a_now x_now_coins x_now_hands x_now_laws x_now_bytes x_now_sides a_now_edge a_now_bend a_now_rise a_now_wandering a_now_thrown a_now_alike a_now_law a_now_tape a_now_side, aI G a_now_bend 6 f_now_bend, aI G a_now_edge 6 f_now_edge]) [0, 1, 2, 3, 5, 6] rfl
      have hDc := hD.sub (ws' := [oT c_q a_q x_q_kind x_q_number x_q_v x_q_caught a_q_steps, o11 h a_now a_kept x_isKept a_reader a_flight a_latest, o2 a_flight x_flight_hand x_flight_edge x_flight_bend x_flight_rise x_flight_last x_flight_tick x_flight_angle x_flight_lean, o6 a_now x_now_coins x_now_hands x_now_laws x_now_bytes x_now_sides a_now_edge a_now_bend a_now_rise a_now_wandering a_now_thrown a_now_alike a_now_law a_now_tape a_now_side, aI G a_now_bend 6 f_now_bend, aI G a_now_edge 6 f_now_edge]) [0, 1, 2, 3, 5, 6] (by decide) rfl
      have hFc := va_free (wc := [oT c_q a_q x_q_kind x_q_number x_q_v x_q_caught a_q_steps, o11 h a_now a_kept x_isKept a_reader a_flight a_latest, o2 a_flight x_flight_hand x_flight_edge x_flight_bend x_flight_rise x_flight_last x_flight_tick x_flight_angle x_flight_lean, o6 a_now x_now_coins x_now_hands x_now_laws x_now_bytes x_now_sides a_now_edge a_now_bend a_now_rise a_now_wandering a_now_thrown a_now_alike a_now_law a_now_tape a_now_side, aI G a_now_bend 6 f_now_bend, aI G a_now_edge 6 f_now_edge]) hD hS hA [0, 1, 2, 3, 5, 6] rfl
      have hM := c_X11_begin l G c_q (by omega) a_q a_q_steps h a_now a_kept a_reader a_flight a_latest a_now_edge a_now_bend a_now_rise a_now_wandering a_now_thrown a_now_alike a_now_law a_now_tape a_now_side x_q_kind x_q_number x_q_v x_q_caught x_isKept x_flight_hand x_flight_edge x_flight_bend x_flight_rise x_flight_last x_flight_tick x_flight_angle x_flight_lean x_now_coins x_now_hands x_now_laws x_now_bytes x_now_sides f_now_bend f_now_edge l2 l3 l4 r13.1 r13.2.1 r13.2.2.1 r13.2.2.2.1 r13.2.2.2.2.1 r13.2.2.2.2.2.1 r13.2.2.2.2.2.2.1 r13.2.2.2.2.2.2.2 hc14 H.size
      refine cl_v (w1 := [oT c_q a_q x_q_kind x_q_number x_q_v x_q_caught a_q_steps, o11 h a_now a_kept x_isKept a_reader a_flight a_latest, o2 a_flight r13.1 r13.2.1 r13.2.2.1 r13.2.2.2.1 r13.2.2.2.2.1 r13.2.2.2.2.2.1 r13.2.2.2.2.2.2.1 r13.2.2.2.2.2.2.2, o6 a_now x_now_coins x_now_hands x_now_laws x_now_bytes x_now_sides a_now_edge a_now_bend a_now_rise a_now_wandering a_now_thrown a_now_alike a_now_law a_now_tape a_now_side, aI G a_now_bend 6 f_now_bend, aI G a_now_edge 6 f_now_edge]) (ws' := [oT c_q a_q x_q_kind x_q_number x_q_v x_q_caught a_q_steps, o11 h a_now a_kept x_isKept a_reader a_flight a_latest, o2 a_flight r13.1 r13.2.1 r13.2.2.1 r13.2.2.2.1 r13.2.2.2.2.1 r13.2.2.2.2.2.1 r13.2.2.2.2.2.2.1 r13.2.2.2.2.2.2.2, o6 a_now x_now_coins x_now_hands x_now_laws x_now_bytes x_now_sides a_now_edge a_now_bend a_now_rise a_now_wandering a_now_thrown a_now_alike a_now_law a_now_tape a_now_side, aI G a_q_steps n_q_steps f_q_steps, aI G a_now_bend 6 f_now_bend, aI G a_now_edge 6 f_now_edge, aT G a_now_law 8 f_now_law]) hP hD hS hFc [0, 1, 2, 3, 5, 6] rfl rfl rfl (va_runV (As := [.ref a_q, .int l2, .int l3, .int l4]) (rest := []) ⟨hx, hb, hml, hown, hts⟩ hM (cwV 4 hts gX11_up_X11_begin rfl rfl rfl (by decide +kernel) ⟨Nat.le_of_ble_eq_true rfl, Nat.le_of_ble_eq_true rfl⟩) (cp_V hK hE hS hPc hDc hFc (va_recv hK hPc (ci := 11) (q0 := 1) rfl rfl)) rfl rfl hl.1 rfl (lv_room (Nat.le_of_ble_eq_true rfl)) dX11_up_68 ⟨Nat.zero_le _, Nat.zero_le _⟩) (fun H locs hP hD hS => ?_)
      refine lv_aload_n hx hb dX11_up_71 rfl (lv_at hl 1 rfl) ?_
      refine lv_aload hx hb dX11_up_72 (lv_at hl 0 rfl) ?_
      refine lv_iload hx hb dX11_up_74 (lv_at hl 6 rfl) ?_
      refine lv_iconst (v := 1) hx hb dX11_up_76 (by decide) ?_
      obtain ⟨r15, hc16, hF⟩ := bd_some hF
      have hPc := hP.sub (ws' := [oT c_q a_q x_q_kind x_q_number x_q_v x_q_caught a_q_steps, o11 h a_now a_kept x_isKept a_reader a_flight a_latest, o2 a_flight r13.1 r13.2.1 r13.2.2.1 r13.2.2.2.1 r13.2.2.2.2.1 r13.2.2.2.2.2.1 r13.2.2.2.2.2.2.1 r13.2.2.2.2.2.2.2, aI G a_q_steps n_q_steps f_q_steps]) [0, 1, 2, 4] rfl
      have hDc := hD.sub (ws' := [oT c_q a_q x_q_kind x_q_number x_q_v x_q_caught a_q_steps, o11 h a_now a_kept x_isKept a_reader a_flight a_latest, o2 a_flight r13.1 r13.2.1 r13.2.2.1 r13.2.2.2.1 r13.2.2.2.2.1 r13.2.2.2.2.2.1 r13.2.2.2.2.2.2.1 r13.2.2.2.2.2.2.2, aI G a_q_steps n_q_steps f_q_steps]) [0, 1, 2, 4] (by decide) rfl
      have hFc := va_free (wc := [oT c_q a_q x_q_kind x_q_number x_q_v x_q_caught a_q_steps, o11 h a_now a_kept x_isKept a_reader a_flight a_latest, o2 a_flight r13.1 r13.2.1 r13.2.2.1 r13.2.2.2.1 r13.2.2.2.2.1 r13.2.2.2.2.2.1 r13.2.2.2.2.2.2.1 r13.2.2.2.2.2.2.2, aI G a_q_steps n_q_steps f_q_steps]) hD hS hA [0, 1, 2, 4] rfl
      have hM := c_X11_sideAt l G c_q (by omega) a_q a_q_steps h a_now a_kept a_reader a_flight a_latest x_q_kind x_q_number x_q_v x_q_caught x_isKept r13.1 r13.2.1 r13.2.2.1 r13.2.2.2.1 r13.2.2.2.2.1 r13.2.2.2.2.2.1 r13.2.2.2.2.2.2.1 r13.2.2.2.2.2.2.2 f_q_steps n_q_steps l5 (1 : Int32) r15.1 r15.2.1 r15.2.2.1 r15.2.2.2 hc16 H.size
      refine cl_i (w1 := [oT c_q a_q x_q_kind x_q_number x_q_v x_q_caught a_q_steps, o11 h a_now a_kept x_isKept a_reader a_flight a_latest, o2 a_flight r13.1 r13.2.1 r13.2.2.1 r13.2.2.2.1 r13.2.2.2.2.1 r15.2.1 r15.2.2.1 r15.2.2.2, aI G a_q_steps n_q_steps f_q_steps]) (ws' := [oT c_q a_q x_q_kind x_q_number x_q_v x_q_caught a_q_steps, o11 h a_now a_kept x_isKept a_reader a_flight a_latest, o2 a_flight r13.1 r13.2.1 r13.2.2.1 r13.2.2.2.1 r13.2.2.2.2.1 r15.2.1 r15.2.2.1 r15.2.2.2, o6 a_now x_now_coins x_now_hands x_now_laws x_now_bytes x_now_sides a_now_edge a_now_bend a_now_rise a_now_wandering a_now_thrown a_now_alike a_now_law a_now_tape a_now_side, aI G a_q_steps n_q_steps f_q_steps, aI G a_now_bend 6 f_now_bend, aI G a_now_edge 6 f_now_edge, aT G a_now_law 8 f_now_law]) hP hD hS hFc [0, 1, 2, 4] rfl rfl rfl (va_runV (As := [.ref a_q, .int l5, .int 1]) (rest := []) ⟨hx, hb, hml, hown, hts⟩ hM (cwV 3 hts gX11_up_X11_sideAt rfl rfl rfl (by decide +kernel) ⟨Nat.le_of_ble_eq_true rfl, Nat.le_of_ble_eq_true rfl⟩) (cp_V hK hE hS hPc hDc hFc (va_recv hK hPc (ci := 11) (q0 := 1) rfl rfl)) rfl rfl hl.1 rfl (lv_room (Nat.le_of_ble_eq_true rfl)) dX11_up_77 ⟨Nat.zero_le _, Nat.zero_le _⟩) (fun H locs hP hD hS => ?_)
      injection hF with hz
      injection hz with hq0 hz
      injection hz with hq1 hz
      injection hz with hq2 hz
      injection hz with hq3 hz
      injection hz with hq4 hz
      injection hz with hq5 hz
      injection hz with hq6 hz
      injection hz with hq7 hz
      subst hq0
      subst hq1
      subst hq2
      subst hq3
      subst hq4
      subst hq5
      subst hq6
      subst hq7
      subst hz
      exact cm_reti hx hb hr rfl hlk hK hP hD hS dX11_up_80
    rw [if_pos c12] at hF
    refine W.eq (g2 := F0 m 58 ls []) rfl ?_
    refine lv_bipush (v := (-2)) hx hb dX11_up_58 (by decide) ?_
    injection hF with hz
    injection hz with hq0 hz
    injection hz with hq1 hz
    injection hz with hq2 hz
    injection hz with hq3 hz
    injection hz with hq4 hz
    injection hz with hq5 hz
    injection hz with hq6 hz
    injection hz with hq7 hz
    subst hq0
    subst hq1
    subst hq2
    subst hq3
    subst hq4
    subst hq5
    subst hq6
    subst hq7
    subst hz
    exact cm_reti hx hb hr rfl hlk hK hP hD hS dX11_up_60
  rw [if_pos c6] at hF
  refine lv_iconst (v := (-1)) hx hb dX11_up_28 (by decide) ?_
  injection hF with hz
  injection hz with hq0 hz
  injection hz with hq1 hz
  injection hz with hq2 hz
  injection hz with hq3 hz
  injection hz with hq4 hz
  injection hz with hq5 hz
  injection hz with hq6 hz
  injection hz with hq7 hz
  subst hq0
  subst hq1
  subst hq2
  subst hq3
  subst hq4
  subst hq5
  subst hq6
  subst hq7
  subst hz
  exact cm_reti hx hb hr rfl hlk hK hP hD hS dX11_up_29

/-! HeadsByHair.same(IIII)J, n -/
abbrev rm_X11_same_n : Room := { frames := 2, cells := 0, slots := 0, locals := 43 }
set_option maxHeartbeats 4000000 in
set_option maxRecDepth 100000 in
theorem c_X11_same_n (l : Launch) (G : GG) (h a_now a_kept a_reader a_flight a_latest a_now_edge a_now_bend a_now_rise a_now_wandering a_now_thrown a_now_alike a_now_law a_now_tape a_now_side : Nat) (x_isKept x_now_coins x_now_hands x_now_laws x_now_bytes x_now_sides : Int32) (f_now_law : Nat → Option Nat) (l1 : Int32) (l2 : Int32) (l3 : Int32) (l4 : Int32) (z : Int64) (hlaw : fX11_lawOf x_now_laws f_now_law l1 = some none) (hF : fX11_same_n x_now_laws f_now_law l1 l2 l3 l4 = some (z)) : CMl l yX11_same wsX11_same rm_X11_same_n G [o11 h a_now a_kept x_isKept a_reader a_flight a_latest, o6 a_now x_now_coins x_now_hands x_now_laws x_now_bytes x_now_sides a_now_edge a_now_bend a_now_rise a_now_wandering a_now_thrown a_now_alike a_now_law a_now_tape a_now_side, aT G a_now_law 8 f_now_law] [o11 h a_now a_kept x_isKept a_reader a_flight a_latest, o6 a_now x_now_coins x_now_hands x_now_laws x_now_bytes x_now_sides a_now_edge a_now_bend a_now_rise a_now_wandering a_now_thrown a_now_alike a_now_law a_now_tape a_now_side, aT G a_now_law 8 f_now_law] [.ref h, .int l1, .int l2, .int l3, .int l4] z := by
  refine cm_start (cc := cX11_same) (maxL := 6) (ret := (some .long)) (Qc := fun A => QL G [o11 h a_now a_kept x_isKept a_reader a_flight a_latest, o6 a_now x_now_coins x_now_hands x_now_laws x_now_bytes x_now_sides a_now_edge a_now_bend a_now_rise a_now_wandering a_now_thrown a_now_alike a_now_law a_now_tape a_now_side, aT G a_now_law 8 f_now_law] z A) (by decide +kernel) rfl (Nat.le_of_ble_eq_true rfl) ?_
  intro p e s m args below meth c A hx hb hr hlk hml hown hnm hts hA H locs hP hK hD hE hS ls hl
  have hown : s.vm.findClass RX11 = some m.cls := hown
  have hl : lv_has ls 6 [(0, .ref h), (1, .int l1), (2, .int l2), (3, .int l3), (4, .int l4)] := hl
  have lc_156 := hts (.constantLong RX11 156 (-9223372036854775808)) (by decide +kernel)
  revert hF
  intro hF
  unfold fX11_same_n at hF
  refine lv_aload_n hx hb dX11_same_0 rfl (lv_at hl 0 rfl) ?_
  refine lv_iload_n hx hb dX11_same_1 rfl (lv_at hl 1 rfl) ?_
  have hPc := hP.sub (ws' := [o11 h a_now a_kept x_isKept a_reader a_flight a_latest, o6 a_now x_now_coins x_now_hands x_now_laws x_now_bytes x_now_sides a_now_edge a_now_bend a_now_rise a_now_wandering a_now_thrown a_now_alike a_now_law a_now_tape a_now_side, aT G a_now_law 8 f_now_law]) [0, 1, 2] rfl
  have hDc := hD.sub (ws' := [o11 h a_now a_kept x_isKept a_reader a_flight a_latest, o6 a_now x_now_coins x_now_hands x_now_laws x_now_bytes x_now_sides a_now_edge a_now_bend a_now_rise a_now_wandering a_now_thrown a_now_alike a_now_law a_now_tape a_now_side, aT G a_now_law 8 f_now_law]) [0, 1, 2] (by decide) rfl
  have hFc := va_free (wc := [o11 h a_now a_kept x_isKept a_reader a_flight a_latest, o6 a_now x_now_coins x_now_hands x_now_laws x_now_bytes x_now_sides a_now_edge a_now_bend a_now_rise a_now_wandering a_now_thrown a_now_alike a_now_law a_now_tape a_now_side, aT G a_now_law 8 f_now_law]) hD hS hA [0, 1, 2] rfl
  have hM := c_X11_lawOf l G h a_now a_kept a_reader a_flight a_latest a_now_edge a_now_bend a_now_rise a_now_wandering a_now_thrown a_now_alike a_now_law a_now_tape a_now_side x_isKept x_now_coins x_now_hands x_now_laws x_now_bytes x_now_sides f_now_law l1 none hlaw H.size
  refine cl_r (z := none) (w1 := [o11 h a_now a_kept x_isKept a_reader a_flight a_latest, o6 a_now x_now_coins x_now_hands x_now_laws x_now_bytes x_now_sides a_now_edge a_now_bend a_now_rise a_now_wandering a_now_thrown a_now_alike a_now_law a_now_tape a_now_side, aT G a_now_law 8 f_now_law]) (ws' := [o11 h a_now a_kept x_isKept a_reader a_flight a_latest, o6 a_now x_now_coins x_now_hands x_now_laws x_now_bytes x_now_sides a_now_edge a_now_bend a_now_rise a_now_wandering a_now_thrown a_now_alike a_now_law a_now_tape a_now_side, aT G a_now_law 8 f_now_law]) hP hD hS hFc [0, 1, 2] rfl rfl rfl (va_runV (As := [.int l1]) (rest := []) ⟨hx, hb, hml, hown, hts⟩ hM (cwV 1 hts gX11_same_X11_lawOf rfl rfl rfl (by decide +kernel) ⟨Nat.le_of_ble_eq_true rfl, Nat.le_of_ble_eq_true rfl⟩) (cp_V hK hE hS hPc hDc hFc (va_recv hK hPc (ci := 11) (q0 := 0) rfl rfl)) rfl rfl hl.1 rfl (lv_room (Nat.le_of_ble_eq_true rfl)) dX11_same_2 ⟨Nat.zero_le _, Nat.zero_le _⟩) (fun H locs hP hD hS => ?_)
  refine W.eq (g2 := F0 m 5 ls [.null]) rfl ?_
  refine lv_astoreN (lv' := [(5, .null), (0, .ref h), (1, .int l1), (2, .int l2), (3, .int l3), (4, .int l4)]) hx hb dX11_same_5 hl (by decide) rfl (fun ls hl => ?_)
  refine lv_aloadN hx hb dX11_same_7 (lv_at hl 0 rfl) ?_
  refine lv_ifnullN (tgt := 36) hx hb dX11_same_9 (by decide) ?_
  refine lv_ldc2 hx hb hown lc_156 dX11_same_36 ?_
  injection hF with hz
  subst hz
  exact cm_retl hx hb hr hlk hK hP hD hS dX11_same_39

/-! HeadsByHair.same(IIII)J, s -/
abbrev rm_X11_same_s : Room := { frames := 6, cells := 0, slots := 0, locals := 153 }
set_option maxHeartbeats 4000000 in
set_option maxRecDepth 100000 in
theorem c_X11_same_s (l : Launch) (G : GG) (c_q : Nat) (hc_q : c_q = 0 ∨ c_q = 1 ∨ c_q = 4 ∨ c_q = 5 ∨ c_q = 7 ∨ c_q = 9 ∨ c_q = 10) (a_q a_q_steps h a_now a_kept a_reader a_flight a_latest a_now_edge a_now_bend a_now_rise a_now_wandering a_now_thrown a_now_alike a_now_law a_now_tape a_now_side : Nat) (x_q_kind x_q_number x_q_v x_q_caught x_isKept x_flight_hand x_flight_edge x_flight_bend x_flight_rise x_flight_last x_flight_tick x_flight_angle x_flight_lean x_now_coins x_now_hands x_now_laws x_now_bytes x_now_sides : Int32) (f_q_steps : Nat → Int32) (f_now_bend : Nat → Int32) (f_now_edge : Nat → Int32) (f_now_law : Nat → Option Nat) (f_now_rise : Nat → Int32) (f_now_wandering : Nat → Int32) (n_q_steps : Nat) (l1 : Int32) (l2 : Int32) (l3 : Int32) (l4 : Int32) (z : Int64) (z_x_flight_hand : Int32) (z_x_flight_edge : Int32) (z_x_flight_bend : Int32) (z_x_flight_rise : Int32) (z_x_flight_last : Int32) (z_x_flight_tick : Int32) (z_x_flight_angle : Int32) (z_x_flight_lean : Int32) (hlaw : fX11_lawOf x_now_laws f_now_law l1 = some (some a_q)) (hF : fX11_same_s n_q_steps c_q x_q_v x_q_caught x_flight_hand x_flight_edge x_flight_bend x_flight_rise x_flight_last x_flight_tick x_flight_angle x_flight_lean x_now_coins x_now_hands x_now_laws f_q_steps f_now_bend f_now_edge f_now_law f_now_rise f_now_wandering l1 l2 l3 l4 = some (z, z_x_flight_hand, z_x_flight_edge, z_x_flight_bend, z_x_flight_rise, z_x_flight_last, z_x_flight_tick, z_x_flight_angle, z_x_flight_lean)) : CMl l yX11_same wsX11_same rm_X11_same_s G [oT c_q a_q x_q_kind x_q_number x_q_v x_q_caught a_q_steps, o11 h a_now a_kept x_isKept a_reader a_flight a_latest, o2 a_flight x_flight_hand x_flight_edge x_flight_bend x_flight_rise x_flight_last x_flight_tick x_flight_angle x_flight_lean, o6 a_now x_now_coins x_now_hands x_now_laws x_now_bytes x_now_sides a_now_edge a_now_bend a_now_rise a_now_wandering a_now_thrown a_now_alike a_now_law a_now_tape a_now_side, aI G a_q_steps n_q_steps f_q_steps, aI G a_now_bend 6 f_now_bend, aI G a_now_edge 6 f_now_edge, aT G a_now_law 8 f_now_law, aI G a_now_rise 6 f_now_rise, aI G a_now_wandering 6 f_now_wandering] [oT c_q a_q x_q_kind x_q_number x_q_v x_q_caught a_q_steps, o11 h a_now a_kept x_isKept a_reader a_flight a_latest, o2 a_flight z_x_flight_hand z_x_flight_edge z_x_flight_bend z_x_flight_rise z_x_flight_last z_x_flight_tick z_x_flight_angle z_x_flight_lean, o6 a_now x_now_coins x_now_hands x_now_laws x_now_bytes x_now_sides a_now_edge a_now_bend a_now_rise a_now_wandering a_now_thrown a_now_alike a_now_law a_now_tape a_now_side, aI G a_q_steps n_q_steps f_q_steps, aI G a_now_bend 6 f_now_bend, aI G a_now_edge 6 f_now_edge, aT G a_now_law 8 f_now_law, aI G a_now_rise 6 f_now_rise, aI G a_now_wandering 6 f_now_wandering] [.ref h, .int l1, .int l2, .int l3, .int l4] z := by
  refine cm_start (cc := cX11_same) (maxL := 6) (ret := (some .long)) (Qc := fun A => QL G [oT c_q a_q x_q_kind x_q_number x_q_v x_q_caught a_q_steps, o11 h a_now a_kept x_isKept a_reader a_flight a_latest, o2 a_flight z_x_flight_hand z_x_flight_edge z_x_flight_bend z_x_flight_rise z_x_flight_last z_x_flight_tick z_x_flight_angle z_x_flight_lean, o6 a_now x_now_coins x_now_hands x_now_laws x_now_bytes x_now_sides a_now_edge a_now_bend a_now_rise a_now_wandering a_now_thrown a_now_alike a_now_law a_now_tape a_now_side, aI G a_q_steps n_q_steps f_q_steps, aI G a_now_bend 6 f_now_bend, aI G a_now_edge 6 f_now_edge, aT G a_now_law 8 f_now_law, aI G a_now_rise 6 f_now_rise, aI G a_now_wandering 6 f_now_wandering] z A) (by decide +kernel) rfl (Nat.le_of_ble_eq_true rfl) ?_
  intro p e s m args below meth c A hx hb hr hlk hml hown hnm hts hA H locs hP hK hD hE hS ls hl
  have hown : s.vm.findClass RX11 = some m.cls := hown
  have hl : lv_has ls 6 [(0, .ref h), (1, .int l1), (2, .int l2), (3, .int l3), (4, .int l4)] := hl
  have hin11 : ∀ w ∈ wsX110, w ∈ wsX11_same := by decide +kernel
  have lc_156 := hts (.constantLong RX11 156 (-9223372036854775808)) (by decide +kernel)
  have lk_12 := hts (.fieldLink RX11 12 "HeadsByHair" "now" "LHeadsByHair$Stock;") (by decide +kernel)
  revert hF
  intro hF
  unfold fX11_same_s at hF
  refine lv_aload_n hx hb dX11_same_0 rfl (lv_at hl 0 rfl) ?_
  refine lv_iload_n hx hb dX11_same_1 rfl (lv_at hl 1 rfl) ?_
  have hPc := hP.sub (ws' := [o11 h a_now a_kept x_isKept a_reader a_flight a_latest, o6 a_now x_now_coins x_now_hands x_now_laws x_now_bytes x_now_sides a_now_edge a_now_bend a_now_rise a_now_wandering a_now_thrown a_now_alike a_now_law a_now_tape a_now_side, aT G a_now_law 8 f_now_law]) [1, 3, 7] rfl
  have hDc := hD.sub (ws' := [o11 h a_now a_kept x_isKept a_reader a_flight a_latest, o6 a_now x_now_coins x_now_hands x_now_laws x_now_bytes x_now_sides a_now_edge a_now_bend a_now_rise a_now_wandering a_now_thrown a_now_alike a_now_law a_now_tape a_now_side, aT G a_now_law 8 f_now_law]) [1, 3, 7] (by decide) rfl
  have hFc := va_free (wc := [o11 h a_now a_kept x_isKept a_reader a_flight a_latest, o6 a_now x_now_coins x_now_hands x_now_laws x_now_bytes x_now_sides a_now_edge a_now_bend a_now_rise a_now_wandering a_now_thrown a_now_alike a_now_law a_now_tape a_now_side, aT G a_now_law 8 f_now_law]) hD hS hA [1, 3, 7] rfl
  have hM := c_X11_lawOf l G h a_now a_kept a_reader a_flight a_latest a_now_edge a_now_bend a_now_rise a_now_wandering a_now_thrown a_now_alike a_now_law a_now_tape a_now_side x_isKept x_now_coins x_now_hands x_now_laws x_now_bytes x_now_sides f_now_law l1 (some a_q) hlaw H.size
  refine cl_r (z := (some a_q)) (w1 := [o11 h a_now a_kept x_isKept a_reader a_flight a_latest, o6 a_now x_now_coins x_now_hands x_now_laws x_now_bytes x_now_sides a_now_edge a_now_bend a_now_rise a_now_wandering a_now_thrown a_now_alike a_now_law a_now_tape a_now_side, aT G a_now_law 8 f_now_law]) (ws' := [oT c_q a_q x_q_kind x_q_number x_q_v x_q_caught a_q_steps, o11 h a_now a_kept x_isKept a_reader a_flight a_latest, o2 a_flight x_flight_hand x_flight_edge x_flight_bend x_flight_rise x_flight_last x_flight_tick x_flight_angle x_flight_lean, o6 a_now x_now_coins x_now_hands x_now_laws x_now_bytes x_now_sides a_now_edge a_now_bend a_now_rise a_now_wandering a_now_thrown a_now_alike a_now_law a_now_tape a_now_side, aI G a_q_steps n_q_steps f_q_steps, aI G a_now_bend 6 f_now_bend, aI G a_now_edge 6 f_now_edge, aT G a_now_law 8 f_now_law, aI G a_now_rise 6 f_now_rise, aI G a_now_wandering 6 f_now_wandering]) hP hD hS hFc [1, 3, 7] rfl rfl rfl (va_runV (As := [.int l1]) (rest := []) ⟨hx, hb, hml, hown, hts⟩ hM (cwV 1 hts gX11_same_X11_lawOf rfl rfl rfl (by decide +kernel) ⟨Nat.le_of_ble_eq_true rfl, Nat.le_of_ble_eq_true rfl⟩) (cp_V hK hE hS hPc hDc hFc (va_recv hK hPc (ci := 11) (q0 := 0) rfl rfl)) rfl rfl hl.1 rfl (lv_room (Nat.le_of_ble_eq_true rfl)) dX11_same_2 ⟨Nat.zero_le _, Nat.zero_le _⟩) (fun H locs hP hD hS => ?_)
  refine W.eq (g2 := F0 m 5 ls [.ref a_q]) rfl ?_
  refine lv_astore (lv' := [(5, .ref a_q), (0, .ref h), (1, .int l1), (2, .int l2), (3, .int l3), (4, .int l4)]) hx hb dX11_same_5 hl (by decide) rfl (fun ls hl => ?_)
  refine lv_aload hx hb dX11_same_7 (lv_at hl 0 rfl) ?_
  refine lv_ifnull hx hb dX11_same_9 ?_
  refine lv_aload_n hx hb dX11_same_12 rfl (lv_at hl 1 rfl) ?_
  refine lv_iload_n hx hb dX11_same_13 rfl (lv_at hl 3 rfl) ?_
  obtain ⟨r1, hc2, hF⟩ := bd_some hF
  have hPc := hP.sub (ws' := [o11 h a_now a_kept x_isKept a_reader a_flight a_latest, o6 a_now x_now_coins x_now_hands x_now_laws x_now_bytes x_now_sides a_now_edge a_now_bend a_now_rise a_now_wandering a_now_thrown a_now_alike a_now_law a_now_tape a_now_side]) [1, 3] rfl
  have hDc := hD.sub (ws' := [o11 h a_now a_kept x_isKept a_reader a_flight a_latest, o6 a_now x_now_coins x_now_hands x_now_laws x_now_bytes x_now_sides a_now_edge a_now_bend a_now_rise a_now_wandering a_now_thrown a_now_alike a_now_law a_now_tape a_now_side]) [1, 3] (by decide) rfl
  have hFc := va_free (wc := [o11 h a_now a_kept x_isKept a_reader a_flight a_latest, o6 a_now x_now_coins x_now_hands x_now_laws x_now_bytes x_now_sides a_now_edge a_now_bend a_now_rise a_now_wandering a_now_thrown a_now_alike a_now_law a_now_tape a_now_side]) hD hS hA [1, 3] rfl
  have hM := c_X11_isHand l G h a_now a_kept a_reader a_flight a_latest a_now_edge a_now_bend a_now_rise a_now_wandering a_now_thrown a_now_alike a_now_law a_now_tape a_now_side x_isKept x_now_coins x_now_hands x_now_laws x_now_bytes x_now_sides l2 r1 hc2 H.size
  refine cl_i (w1 := [o11 h a_now a_kept x_isKept a_reader a_flight a_latest, o6 a_now x_now_coins x_now_hands x_now_laws x_now_bytes x_now_sides a_now_edge a_now_bend a_now_rise a_now_wandering a_now_thrown a_now_alike a_now_law a_now_tape a_now_side]) (ws' := [oT c_q a_q x_q_kind x_q_number x_q_v x_q_caught a_q_steps, o11 h a_now a_kept x_isKept a_reader a_flight a_latest, o2 a_flight x_flight_hand x_flight_edge x_flight_bend x_flight_rise x_flight_last x_flight_tick x_flight_angle x_flight_lean, o6 a_now x_now_coins x_now_hands x_now_laws x_now_bytes x_now_sides a_now_edge a_now_bend a_now_rise a_now_wandering a_now_thrown a_now_alike a_now_law a_now_tape a_now_side, aI G a_q_steps n_q_steps f_q_steps, aI G a_now_bend 6 f_now_bend, aI G a_now_edge 6 f_now_edge, aT G a_now_law 8 f_now_law, aI G a_now_rise 6 f_now_rise, aI G a_now_wandering 6 f_now_wandering]) hP hD hS hFc [1, 3] rfl rfl rfl (va_runV (As := [.int l2]) (rest := []) ⟨hx, hb, hml, hown, hts⟩ hM (cwV 1 hts gX11_same_X11_isHand rfl rfl rfl (by decide +kernel) ⟨Nat.le_of_ble_eq_true rfl, Nat.le_of_ble_eq_true rfl⟩) (cp_V hK hE hS hPc hDc hFc (va_recv hK hPc (ci := 11) (q0 := 0) rfl rfl)) rfl rfl hl.1 rfl (lv_room (Nat.le_of_ble_eq_true rfl)) dX11_same_14 ⟨Nat.zero_le _, Nat.zero_le _⟩) (fun H locs hP hD hS => ?_)
  refine lv_if_eq (tgt := 36) hx hb dX11_same_17 (by decide) (fun c3 => ?_) (fun c3 => ?_)
  · rw [if_pos c3] at hF
    refine lv_ldc2 hx hb hown lc_156 dX11_same_36 ?_
    injection hF with hz
    injection hz with hq0 hz
    injection hz with hq1 hz
    injection hz with hq2 hz
    injection hz with hq3 hz
    injection hz with hq4 hz
    injection hz with hq5 hz
    injection hz with hq6 hz
    injection hz with hq7 hz
    subst hq0
    subst hq1
    subst hq2
    subst hq3
    subst hq4
    subst hq5
    subst hq6
    subst hq7
    subst hz
    exact cm_retl hx hb hr hlk hK hP hD hS dX11_same_39
  rw [if_neg c3] at hF
  refine lv_aload_n hx hb dX11_same_20 rfl (lv_at hl 1 rfl) ?_
  refine lv_iload_n hx hb dX11_same_21 rfl (lv_at hl 4 rfl) ?_
  obtain ⟨r4, hc5, hF⟩ := bd_some hF
  have hPc := hP.sub (ws' := [o11 h a_now a_kept x_isKept a_reader a_flight a_latest, o6 a_now x_now_coins x_now_hands x_now_laws x_now_bytes x_now_sides a_now_edge a_now_bend a_now_rise a_now_wandering a_now_thrown a_now_alike a_now_law a_now_tape a_now_side]) [1, 3] rfl
  have hDc := hD.sub (ws' := [o11 h a_now a_kept x_isKept a_reader a_flight a_latest, o6 a_now x_now_coins x_now_hands x_now_laws x_now_bytes x_now_sides a_now_edge a_now_bend a_now_rise a_now_wandering a_now_thrown a_now_alike a_now_law a_now_tape a_now_side]) [1, 3] (by decide) rfl
  have hFc := va_free (wc := [o11 h a_now a_kept x_isKept a_reader a_flight a_latest, o6 a_now x_now_coins x_now_hands x_now_laws x_now_bytes x_now_sides a_now_edge a_now_bend a_now_rise a_now_wandering a_now_thrown a_now_alike a_now_law a_now_tape a_now_side]) hD hS hA [1, 3] rfl
  have hM := c_X11_isCoin l G h a_now a_kept a_reader a_flight a_latest a_now_edge a_now_bend a_now_rise a_now_wandering a_now_thrown a_now_alike a_now_law a_now_tape a_now_side x_isKept x_now_coins x_now_hands x_now_laws x_now_bytes x_now_sides l3 r4 hc5 H.size
  refine cl_i (w1 := [o11 h a_now a_kept x_isKept a_reader a_flight a_latest, o6 a_now x_now_coins x_now_hands x_now_laws x_now_bytes x_now_sides a_now_edge a_now_bend a_now_rise a_now_wandering a_now_thrown a_now_alike a_now_law a_now_tape a_now_side]) (ws' := [oT c_q a_q x_q_kind x_q_number x_q_v x_q_caught a_q_steps, o11 h a_now a_kept x_isKept a_reader a_flight a_latest, o2 a_flight x_flight_hand x_flight_edge x_flight_bend x_flight_rise x_flight_last x_flight_tick x_flight_angle x_flight_lean, o6 a_now x_now_coins x_now_hands x_now_laws x_now_bytes x_now_sides a_now_edge a_now_bend a_now_rise a_now_wandering a_now_thrown a_now_alike a_now_law a_now_tape a_now_side, aI G a_q_steps n_q_steps f_q_steps, aI G a_now_bend 6 f_now_bend, aI G a_now_edge 6 f_now_edge, aT G a_now_law 8 f_now_law, aI G a_now_rise 6 f_now_rise, aI G a_now_wandering 6 f_now_wandering]) hP hD hS hFc [1, 3] rfl rfl rfl (va_runV (As := [.int l3]) (rest := []) ⟨hx, hb, hml, hown, hts⟩ hM (cwV 1 hts gX11_same_X11_isCoin rfl rfl rfl (by decide +kernel) ⟨Nat.le_of_ble_eq_true rfl, Nat.le_of_ble_eq_true rfl⟩) (cp_V hK hE hS hPc hDc hFc (va_recv hK hPc (ci := 11) (q0 := 0) rfl rfl)) rfl rfl hl.1 rfl (lv_room (Nat.le_of_ble_eq_true rfl)) dX11_same_22 ⟨Nat.zero_le _, Nat.zero_le _⟩) (fun H locs hP hD hS => ?_)
  refine W.eq (g2 := F0 m 25 ls [.int r4]) rfl ?_
  refine lv_if_eq (tgt := 36) hx hb dX11_same_25 (by decide) (fun c6 => ?_) (fun c6 => ?_)
  · rw [if_pos c6] at hF
    refine lv_ldc2 hx hb hown lc_156 dX11_same_36 ?_
    injection hF with hz
    injection hz with hq0 hz
    injection hz with hq1 hz
    injection hz with hq2 hz
    injection hz with hq3 hz
    injection hz with hq4 hz
    injection hz with hq5 hz
    injection hz with hq6 hz
    injection hz with hq7 hz
    subst hq0
    subst hq1
    subst hq2
    subst hq3
    subst hq4
    subst hq5
    subst hq6
    subst hq7
    subst hz
    exact cm_retl hx hb hr hlk hK hP hD hS dX11_same_39
  rw [if_neg c6] at hF
  refine lv_iload hx hb dX11_same_28 (lv_at hl 5 rfl) ?_
  obtain ⟨r7, hc8, hF⟩ := bd_some hF
  have hPc := hP.sub (ws' := []) [] rfl
  have hDc := hD.sub (ws' := []) [] (by decide) rfl
  have hFc := va_free (wc := []) hD hS hA [] rfl
  have hM := c_X11_isPart l G l4 r7 hc8 H.size
  refine cl_i (w1 := []) (ws' := [oT c_q a_q x_q_kind x_q_number x_q_v x_q_caught a_q_steps, o11 h a_now a_kept x_isKept a_reader a_flight a_latest, o2 a_flight x_flight_hand x_flight_edge x_flight_bend x_flight_rise x_flight_last x_flight_tick x_flight_angle x_flight_lean, o6 a_now x_now_coins x_now_hands x_now_laws x_now_bytes x_now_sides a_now_edge a_now_bend a_now_rise a_now_wandering a_now_thrown a_now_alike a_now_law a_now_tape a_now_side, aI G a_q_steps n_q_steps f_q_steps, aI G a_now_bend 6 f_now_bend, aI G a_now_edge 6 f_now_edge, aT G a_now_law 8 f_now_law, aI G a_now_rise 6 f_now_rise, aI G a_now_wandering 6 f_now_wandering]) hP hD hS hFc [] rfl rfl rfl (va_runS (As := [.int l4]) (rest := []) ⟨hx, hb, hml, hown, hts⟩ hM (va_cwS 1 hts gX11_same_X11_isPart rfl rfl rfl (by decide +kernel) ⟨Nat.le_of_ble_eq_true rfl, Nat.le_of_ble_eq_true rfl⟩) (cp_S hK hE hS hPc hDc hFc) rfl rfl hl.1 rfl (lv_room (Nat.le_of_ble_eq_true rfl)) dX11_same_30 ⟨Nat.zero_le _, Nat.zero_le _⟩) (fun H locs hP hD hS => ?_)
  refine lv_if_ne (tgt := 40) hx hb dX11_same_33 (by decide) (fun c9 => ?_) (fun c9 => ?_)
  · rw [if_neg c9] at hF
    refine lv_aload_n hx hb dX11_same_40 rfl (lv_at hl 1 rfl) ?_
    refine lv_aload hx hb dX11_same_41 (lv_at hl 0 rfl) ?_
    refine lv_iload_n hx hb dX11_same_43 rfl (lv_at hl 3 rfl) ?_
    refine lv_iload_n hx hb dX11_same_44 rfl (lv_at hl 4 rfl) ?_
    refine lv_iconst (v := 1) hx hb dX11_same_45 (by decide) ?_
    obtain ⟨r10, hc11, hF⟩ := bd_some hF
    have hPc := hP.sub (ws' := [oT c_q a_q x_q_kind x_q_number x_q_v x_q_caught a_q_steps, o11 h a_now a_kept x_isKept a_reader a_flight a_latest, o2 a_flight x_flight_hand x_flight_edge x_flight_bend x_flight_rise x_flight_last x_flight_tick x_flight_angle x_flight_lean, o6 a_now x_now_coins x_now_hands x_now_laws x_now_bytes x_now_sides a_now_edge a_now_bend a_now_rise a_now_wandering a_now_thrown a_now_alike a_now_law a_now_tape a_now_side, aI G a_q_steps n_q_steps f_q_steps, aI G a_now_bend 6 f_now_bend, aI G a_now_edge 6 f_now_edge, aI G a_now_rise 6 f_now_rise, aI G a_now_wandering 6 f_now_wandering]) [0, 1, 2, 3, 4, 5, 6, 8, 9] rfl
    have hDc := hD.sub (ws' := [oT c_q a_q x_q_kind x_q_number x_q_v x_q_caught a_q_steps, o11 h a_now a_kept x_isKept a_reader a_flight a_latest, o2 a_flight x_flight_hand x_flight_edge x_flight_bend x_flight_rise x_flight_last x_flight_tick x_flight_angle x_flight_lean, o6 a_now x_now_coins x_now_hands x_now_laws x_now_bytes x_now_sides a_now_edge a_now_bend a_now_rise a_now_wandering a_now_thrown a_now_alike a_now_law a_now_tape a_now_side, aI G a_q_steps n_q_steps f_q_steps, aI G a_now_bend 6 f_now_bend, aI G a_now_edge 6 f_now_edge, aI G a_now_rise 6 f_now_rise, aI G a_now_wandering 6 f_now_wandering]) [0, 1, 2, 3, 4, 5, 6, 8, 9] (by decide) rfl
    have hFc := va_free (wc := [oT c_q a_q x_q_kind x_q_number x_q_v x_q_caught a_q_steps, o11 h a_now a_kept x_isKept a_reader a_flight a_latest, o2 a_flight x_flight_hand x_flight_edge x_flight_bend x_flight_rise x_flight_last x_flight_tick x_flight_angle x_flight_lean, o6 a_now x_now_coins x_now_hands x_now_laws x_now_bytes x_now_sides a_now_edge a_now_bend a_now_rise a_now_wandering a_now_thrown a_now_alike a_now_law a_now_tape a_now_side, aI G a_q_steps n_q_steps f_q_steps, aI G a_now_bend 6 f_now_bend, aI G a_now_edge 6 f_now_edge, aI G a_now_rise 6 f_now_rise, aI G a_now_wandering 6 f_now_wandering]) hD hS hA [0, 1, 2, 3, 4, 5, 6, 8, 9] rfl
    have hM := c_X11_timesHeads l G c_q (by omega) a_q a_q_steps h a_now a_kept a_reader a_flight a_latest a_now_edge a_now_bend a_now_rise a_now_wandering a_now_thrown a_now_alike a_now_law a_now_tape a_now_side x_q_kind x_q_number x_q_v x_q_caught x_isKept x_flight_hand x_flight_edge x_flight_bend x_flight_rise x_flight_last x_flight_tick x_flight_angle x_flight_lean x_now_coins x_now_hands x_now_laws x_now_bytes x_now_sides f_q_steps f_now_bend f_now_edge f_now_rise f_now_wandering n_q_steps l2 l3 (1 : Int32) r10.1 r10.2.1 r10.2.2.1 r10.2.2.2.1 r10.2.2.2.2.1 r10.2.2.2.2.2.1 r10.2.2.2.2.2.2.1 r10.2.2.2.2.2.2.2.1 r10.2.2.2.2.2.2.2.2 hc11 H.size
    refine cl_i (w1 := [oT c_q a_q x_q_kind x_q_number x_q_v x_q_caught a_q_steps, o11 h a_now a_kept x_isKept a_reader a_flight a_latest, o2 a_flight r10.2.1 r10.2.2.1 r10.2.2.2.1 r10.2.2.2.2.1 r10.2.2.2.2.2.1 r10.2.2.2.2.2.2.1 r10.2.2.2.2.2.2.2.1 r10.2.2.2.2.2.2.2.2, o6 a_now x_now_coins x_now_hands x_now_laws x_now_bytes x_now_sides a_now_edge a_now_bend a_now_rise a_now_wandering a_now_thrown a_now_alike a_now_law a_now_tape a_now_side, aI G a_q_steps n_q_steps f_q_steps, aI G a_now_bend 6 f_now_bend, aI G a_now_edge 6 f_now_edge, aI G a_now_rise 6 f_now_rise, aI G a_now_wandering 6 f_now_wandering]) (ws' := [oT c_q a_q x_q_kind x_q_number x_q_v x_q_caught a_q_steps, o11 h a_now a_kept x_isKept a_reader a_flight a_latest, o2 a_flight r10.2.1 r10.2.2.1 r10.2.2.2.1 r10.2.2.2.2.1 r10.2.2.2.2.2.1 r10.2.2.2.2.2.2.1 r10.2.2.2.2.2.2.2.1 r10.2.2.2.2.2.2.2.2, o6 a_now x_now_coins x_now_hands x_now_laws x_now_bytes x_now_sides a_now_edge a_now_bend a_now_rise a_now_wandering a_now_thrown a_now_alike a_now_law a_now_tape a_now_side, aI G a_q_steps n_q_steps f_q_steps, aI G a_now_bend 6 f_now_bend, aI G a_now_edge 6 f_now_edge, aT G a_now_law 8 f_now_law, aI G a_now_rise 6 f_now_rise, aI G a_now_wandering 6 f_now_wandering]) hP hD hS hFc [0, 1, 2, 3, 4, 5, 6, 8, 9] rfl rfl rfl (va_runV (As := [.ref a_q, .int l2, .int l3, .int 1]) (rest := []) ⟨hx, hb, hml, hown, hts⟩ hM (cwV 4 hts gX11_same_X11_timesHeads rfl rfl rfl (by decide +kernel) ⟨Nat.le_of_ble_eq_true rfl, Nat.le_of_ble_eq_true rfl⟩) (cp_V hK hE hS hPc hDc hFc (va_recv hK hPc (ci := 11) (q0 := 1) rfl rfl)) rfl rfl hl.1 rfl (lv_room (Nat.le_of_ble_eq_true rfl)) dX11_same_46 ⟨Nat.zero_le _, Nat.zero_le _⟩) (fun H locs hP hD hS => ?_)
    refine lv_i2l (v := r10.1.toInt64) hx hb dX11_same_49 rfl ?_
    refine lv_aload_n hx hb dX11_same_50 rfl (lv_at hl 1 rfl) ?_
    refine va_get (D := G.1) (ci := 11) (v := .ref a_now) (C := RX11) (T := TX11) (N := 6) hx hb hts hin11 hown hK hP 1 rfl rfl 0 (by decide) lk_12 (fun _ h9 => h9) rfl dX11_same_51 ?_
    refine lv_iload_n hx hb dX11_same_54 rfl (lv_at hl 3 rfl) ?_
    refine W.eq (g2 := F0 m 55 ls [.int l2, .ref a_now, .long r10.1.toInt64]) rfl ?_
    obtain ⟨r12, hc13, hF⟩ := bd_some hF
    have hPc := hP.sub (ws' := [o6 a_now x_now_coins x_now_hands x_now_laws x_now_bytes x_now_sides a_now_edge a_now_bend a_now_rise a_now_wandering a_now_thrown a_now_alike a_now_law a_now_tape a_now_side, aI G a_now_wandering 6 f_now_wandering]) [3, 9] rfl
    have hDc := hD.sub (ws' := [o6 a_now x_now_coins x_now_hands x_now_laws x_now_bytes x_now_sides a_now_edge a_now_bend a_now_rise a_now_wandering a_now_thrown a_now_alike a_now_law a_now_tape a_now_side, aI G a_now_wandering 6 f_now_wandering]) [3, 9] (by decide) rfl
    have hFc := va_free (wc := [o6 a_now x_now_coins x_now_hands x_now_laws x_now_bytes x_now_sides a_now_edge a_now_bend a_now_rise a_now_wandering a_now_thrown a_now_alike a_now_law a_now_tape a_now_side, aI G a_now_wandering 6 f_now_wandering]) hD hS hA [3, 9] rfl
    have hM := c_X6_rises l G a_now a_now_edge a_now_bend a_now_rise a_now_wandering a_now_thrown a_now_alike a_now_law a_now_tape a_now_side x_now_coins x_now_hands x_now_laws x_now_bytes x_now_sides f_now_wandering l2 r12 hc13 H.size
    refine cl_i (w1 := [o6 a_now x_now_coins x_now_hands x_now_laws x_now_bytes x_now_sides a_now_edge a_now_bend a_now_rise a_now_wandering a_now_thrown a_now_alike a_now_law a_now_tape a_now_side, aI G a_now_wandering 6 f_now_wandering]) (ws' := [oT c_q a_q x_q_kind x_q_number x_q_v x_q_caught a_q_steps, o11 h a_now a_kept x_isKept a_reader a_flight a_latest, o2 a_flight r10.2.1 r10.2.2.1 r10.2.2.2.1 r10.2.2.2.2.1 r10.2.2.2.2.2.1 r10.2.2.2.2.2.2.1 r10.2.2.2.2.2.2.2.1 r10.2.2.2.2.2.2.2.2, o6 a_now x_now_coins x_now_hands x_now_laws x_now_bytes x_now_sides a_now_edge a_now_bend a_now_rise a_now_wandering a_now_thrown a_now_alike a_now_law a_now_tape a_now_side, aI G a_q_steps n_q_steps f_q_steps, aI G a_now_bend 6 f_now_bend, aI G a_now_edge 6 f_now_edge, aT G a_now_law 8 f_now_law, aI G a_now_rise 6 f_now_rise, aI G a_now_wandering 6 f_now_wandering]) hP hD hS hFc [3, 9] rfl rfl rfl (va_runVN (As := [.int l2]) (rest := [.long r10.1.toInt64]) ⟨hx, hb, hml, hown, hts⟩ hM ⟨va_cnB 1 hts gX11_same_X6_rises_n162 rfl rfl rfl (hE.nw (.methodLinkNest RX11 162 yX6_rises "HeadsByHair") (by decide +kernel)) (hts (.initialized RX6) (by decide +kernel)) (by decide +kernel) ⟨Nat.le_of_ble_eq_true rfl, Nat.le_of_ble_eq_true rfl⟩, hts (.instanceMethod yX6_rises) (by decide +kernel), hts (.selects RX6 yX6_rises yX6_rises) (by decide +kernel)⟩ (cp_V hK hE hS hPc hDc hFc (va_recv hK hPc (ci := 6) (q0 := 0) rfl rfl)) rfl rfl hl.1 rfl (lv_room (Nat.le_of_ble_eq_true rfl)) dX11_same_55 ⟨Nat.zero_le _, Nat.zero_le _⟩) (fun H locs hP hD hS => ?_)
    refine lv_i2l (v := r12.toInt64) hx hb dX11_same_58 rfl ?_
    refine lv_iload hx hb dX11_same_59 (lv_at hl 5 rfl) ?_
    obtain ⟨r14, hc15, hF⟩ := bd_some hF
    have hPc := hP.sub (ws' := []) [] rfl
    have hDc := hD.sub (ws' := []) [] (by decide) rfl
    have hFc := va_free (wc := []) hD hS hA [] rfl
    have hM := c_X11_inLowest l G r10.1.toInt64 r12.toInt64 l4 r14 hc15 H.size
    refine cl_l (w1 := []) (ws' := [oT c_q a_q x_q_kind x_q_number x_q_v x_q_caught a_q_steps, o11 h a_now a_kept x_isKept a_reader a_flight a_latest, o2 a_flight r10.2.1 r10.2.2.1 r10.2.2.2.1 r10.2.2.2.2.1 r10.2.2.2.2.2.1 r10.2.2.2.2.2.2.1 r10.2.2.2.2.2.2.2.1 r10.2.2.2.2.2.2.2.2, o6 a_now x_now_coins x_now_hands x_now_laws x_now_bytes x_now_sides a_now_edge a_now_bend a_now_rise a_now_wandering a_now_thrown a_now_alike a_now_law a_now_tape a_now_side, aI G a_q_steps n_q_steps f_q_steps, aI G a_now_bend 6 f_now_bend, aI G a_now_edge 6 f_now_edge, aT G a_now_law 8 f_now_law, aI G a_now_rise 6 f_now_rise, aI G a_now_wandering 6 f_now_wandering]) hP hD hS hFc [] rfl rfl rfl (va_runS (As := [.long r10.1.toInt64, .long r12.toInt64, .int l4]) (rest := []) ⟨hx, hb, hml, hown, hts⟩ hM (va_cwS 3 hts gX11_same_X11_inLowest rfl rfl rfl (by decide +kernel) ⟨Nat.le_of_ble_eq_true rfl, Nat.le_of_ble_eq_true rfl⟩) (cp_S hK hE hS hPc hDc hFc) rfl rfl hl.1 rfl (lv_room (Nat.le_of_ble_eq_true rfl)) dX11_same_61 ⟨Nat.zero_le _, Nat.zero_le _⟩) (fun H locs hP hD hS => ?_)
    injection hF with hz
    injection hz with hq0 hz
    injection hz with hq1 hz
    injection hz with hq2 hz
    injection hz with hq3 hz
    injection hz with hq4 hz
    injection hz with hq5 hz
    injection hz with hq6 hz
    injection hz with hq7 hz
    subst hq0
    subst hq1
    subst hq2
    subst hq3
    subst hq4
    subst hq5
    subst hq6
    subst hq7
    subst hz
    exact cm_retl hx hb hr hlk hK hP hD hS dX11_same_64
  rw [if_pos c9] at hF
  refine lv_ldc2 hx hb hown lc_156 dX11_same_36 ?_
  injection hF with hz
  injection hz with hq0 hz
  injection hz with hq1 hz
  injection hz with hq2 hz
  injection hz with hq3 hz
  injection hz with hq4 hz
  injection hz with hq5 hz
  injection hz with hq6 hz
  injection hz with hq7 hz
  subst hq0
  subst hq1
  subst hq2
  subst hq3
  subst hq4
  subst hq5
  subst hq6
  subst hq7
  subst hz
  exact cm_retl hx hb hr hlk hK hP hD hS dX11_same_39

/-! HeadsByHair.heads(IIIII)J, n -/
abbrev rm_X11_heads_n : Room := { frames := 2, cells := 0, slots := 0, locals := 43 }
set_option maxHeartbeats 4000000 in
set_option maxRecDepth 100000 in
theorem c_X11_heads_n (l : Launch) (G : GG) (h a_now a_kept a_reader a_flight a_latest a_now_edge a_now_bend a_now_rise a_now_wandering a_now_thrown a_now_alike a_now_law a_now_tape a_now_side : Nat) (x_isKept x_now_coins x_now_hands x_now_laws x_now_bytes x_now_sides : Int32) (f_now_law : Nat → Option Nat) (l1 : Int32) (l2 : Int32) (l3 : Int32) (l4 : Int32) (l5 : Int32) (z : Int64) (hlaw : fX11_lawOf x_now_laws f_now_law l1 = some none) (hF : fX11_heads_n x_now_laws f_now_law l1 l2 l3 l4 l5 = some (z)) : CMl l yX11_heads wsX11_heads rm_X11_heads_n G [o11 h a_now a_kept x_isKept a_reader a_flight a_latest, o6 a_now x_now_coins x_now_hands x_now_laws x_now_bytes x_now_sides a_now_edge a_now_bend a_now_rise a_now_wandering a_now_thrown a_now_alike a_now_law a_now_tape a_now_side, aT G a_now_law 8 f_now_law] [o11 h a_now a_kept x_isKept a_reader a_flight a_latest, o6 a_now x_now_coins x_now_hands x_now_laws x_now_bytes x_now_sides a_now_edge a_now_bend a_now_rise a_now_wandering a_now_thrown a_now_alike a_now_law a_now_tape a_now_side, aT G a_now_law 8 f_now_law] [.ref h, .int l1, .int l2, .int l3, .int l4, .int l5] z := by
  refine cm_start (cc := cX11_heads) (maxL := 11) (ret := (some .long)) (Qc := fun A => QL G [o11 h a_now a_kept x_isKept a_reader a_flight a_latest, o6 a_now x_now_coins x_now_hands x_now_laws x_now_bytes x_now_sides a_now_edge a_now_bend a_now_rise a_now_wandering a_now_thrown a_now_alike a_now_law a_now_tape a_now_side, aT G a_now_law 8 f_now_law] z A) (by decide +kernel) rfl (Nat.le_of_ble_eq_true rfl) ?_
  intro p e s m args below meth c A hx hb hr hlk hml hown hnm hts hA H locs hP hK hD hE hS ls hl
  have hown : s.vm.findClass RX11 = some m.cls := hown
  have hl : lv_has ls 11 [(0, .ref h), (1, .int l1), (2, .int l2), (3, .int l3), (4, .int l4), (5, .int l5)] := hl
  have lc_156 := hts (.constantLong RX11 156 (-9223372036854775808)) (by decide +kernel)
  revert hF
  intro hF
  unfold fX11_heads_n at hF
  refine lv_aload_n hx hb dX11_heads_0 rfl (lv_at hl 0 rfl) ?_
  refine lv_iload_n hx hb dX11_heads_1 rfl (lv_at hl 1 rfl) ?_
  have hPc := hP.sub (ws' := [o11 h a_now a_kept x_isKept a_reader a_flight a_latest, o6 a_now x_now_coins x_now_hands x_now_laws x_now_bytes x_now_sides a_now_edge a_now_bend a_now_rise a_now_wandering a_now_thrown a_now_alike a_now_law a_now_tape a_now_side, aT G a_now_law 8 f_now_law]) [0, 1, 2] rfl
  have hDc := hD.sub (ws' := [o11 h a_now a_kept x_isKept a_reader a_flight a_latest, o6 a_now x_now_coins x_now_hands x_now_laws x_now_bytes x_now_sides a_now_edge a_now_bend a_now_rise a_now_wandering a_now_thrown a_now_alike a_now_law a_now_tape a_now_side, aT G a_now_law 8 f_now_law]) [0, 1, 2] (by decide) rfl
  have hFc := va_free (wc := [o11 h a_now a_kept x_isKept a_reader a_flight a_latest, o6 a_now x_now_coins x_now_hands x_now_laws x_now_bytes x_now_sides a_now_edge a_now_bend a_now_rise a_now_wandering a_now_thrown a_now_alike a_now_law a_now_tape a_now_side, aT G a_now_law 8 f_now_law]) hD hS hA [0, 1, 2] rfl
  have hM := c_X11_lawOf l G h a_now a_kept a_reader a_flight a_latest a_now_edge a_now_bend a_now_rise a_now_wandering a_now_thrown a_now_alike a_now_law a_now_tape a_now_side x_isKept x_now_coins x_now_hands x_now_laws x_now_bytes x_now_sides f_now_law l1 none hlaw H.size
  refine cl_r (z := none) (w1 := [o11 h a_now a_kept x_isKept a_reader a_flight a_latest, o6 a_now x_now_coins x_now_hands x_now_laws x_now_bytes x_now_sides a_now_edge a_now_bend a_now_rise a_now_wandering a_now_thrown a_now_alike a_now_law a_now_tape a_now_side, aT G a_now_law 8 f_now_law]) (ws' := [o11 h a_now a_kept x_isKept a_reader a_flight a_latest, o6 a_now x_now_coins x_now_hands x_now_laws x_now_bytes x_now_sides a_now_edge a_now_bend a_now_rise a_now_wandering a_now_thrown a_now_alike a_now_law a_now_tape a_now_side, aT G a_now_law 8 f_now_law]) hP hD hS hFc [0, 1, 2] rfl rfl rfl (va_runV (As := [.int l1]) (rest := []) ⟨hx, hb, hml, hown, hts⟩ hM (cwV 1 hts gX11_heads_X11_lawOf rfl rfl rfl (by decide +kernel) ⟨Nat.le_of_ble_eq_true rfl, Nat.le_of_ble_eq_true rfl⟩) (cp_V hK hE hS hPc hDc hFc (va_recv hK hPc (ci := 11) (q0 := 0) rfl rfl)) rfl rfl hl.1 rfl (lv_room (Nat.le_of_ble_eq_true rfl)) dX11_heads_2 ⟨Nat.zero_le _, Nat.zero_le _⟩) (fun H locs hP hD hS => ?_)
  refine W.eq (g2 := F0 m 5 ls [.null]) rfl ?_
  refine lv_astoreN (lv' := [(6, .null), (0, .ref h), (1, .int l1), (2, .int l2), (3, .int l3), (4, .int l4), (5, .int l5)]) hx hb dX11_heads_5 hl (by decide) rfl (fun ls hl => ?_)
  refine lv_aloadN hx hb dX11_heads_7 (lv_at hl 0 rfl) ?_
  refine lv_ifnullN (tgt := 44) hx hb dX11_heads_9 (by decide) ?_
  refine lv_ldc2 hx hb hown lc_156 dX11_heads_44 ?_
  injection hF with hz
  subst hz
  exact cm_retl hx hb hr hlk hK hP hD hS dX11_heads_47

/-! HeadsByHair.heads(IIIII)J, s -/
abbrev rm_X11_heads_s : Room := { frames := 6, cells := 0, slots := 0, locals := 153 }
set_option maxHeartbeats 4000000 in
set_option maxRecDepth 100000 in
theorem c_X11_heads_s (l : Launch) (G : GG) (c_q : Nat) (hc_q : c_q = 0 ∨ c_q = 1 ∨ c_q = 4 ∨ c_q = 5 ∨ c_q = 7 ∨ c_q = 9 ∨ c_q = 10) (a_q a_q_steps h a_now a_kept a_reader a_flight a_latest a_now_edge a_now_bend a_now_rise a_now_wandering a_now_thrown a_now_alike a_now_law a_now_tape a_now_side : Nat) (x_q_kind x_q_number x_q_v x_q_caught x_isKept x_flight_hand x_flight_edge x_flight_bend x_flight_rise x_flight_last x_flight_tick x_flight_angle x_flight_lean x_now_coins x_now_hands x_now_laws x_now_bytes x_now_sides : Int32) (f_q_steps : Nat → Int32) (f_now_bend : Nat → Int32) (f_now_edge : Nat → Int32) (f_now_law : Nat → Option Nat) (f_now_rise : Nat → Int32) (f_now_wandering : Nat → Int32) (n_q_steps : Nat) (l1 : Int32) (l2 : Int32) (l3 : Int32) (l4 : Int32) (l5 : Int32) (z : Int64) (z_x_flight_hand : Int32) (z_x_flight_edge : Int32) (z_x_flight_bend : Int32) (z_x_flight_rise : Int32) (z_x_flight_last : Int32) (z_x_flight_tick : Int32) (z_x_flight_angle : Int32) (z_x_flight_lean : Int32) (hlaw : fX11_lawOf x_now_laws f_now_law l1 = some (some a_q)) (hF : fX11_heads_s n_q_steps c_q x_q_v x_q_caught x_flight_hand x_flight_edge x_flight_bend x_flight_rise x_flight_last x_flight_tick x_flight_angle x_flight_lean x_now_coins x_now_hands x_now_laws f_q_steps f_now_bend f_now_edge f_now_law f_now_rise f_now_wandering l1 l2 l3 l4 l5 = some (z, z_x_flight_hand, z_x_flight_edge, z_x_flight_bend, z_x_flight_rise, z_x_flight_last, z_x_flight_tick, z_x_flight_angle, z_x_flight_lean)) : CMl l yX11_heads wsX11_heads rm_X11_heads_s G [oT c_q a_q x_q_kind x_q_number x_q_v x_q_caught a_q_steps, o11 h a_now a_kept x_isKept a_reader a_flight a_latest, o2 a_flight x_flight_hand x_flight_edge x_flight_bend x_flight_rise x_flight_last x_flight_tick x_flight_angle x_flight_lean, o6 a_now x_now_coins x_now_hands x_now_laws x_now_bytes x_now_sides a_now_edge a_now_bend a_now_rise a_now_wandering a_now_thrown a_now_alike a_now_law a_now_tape a_now_side, aI G a_q_steps n_q_steps f_q_steps, aI G a_now_bend 6 f_now_bend, aI G a_now_edge 6 f_now_edge, aT G a_now_law 8 f_now_law, aI G a_now_rise 6 f_now_rise, aI G a_now_wandering 6 f_now_wandering] [oT c_q a_q x_q_kind x_q_number x_q_v x_q_caught a_q_steps, o11 h a_now a_kept x_isKept a_reader a_flight a_latest, o2 a_flight z_x_flight_hand z_x_flight_edge z_x_flight_bend z_x_flight_rise z_x_flight_last z_x_flight_tick z_x_flight_angle z_x_flight_lean, o6 a_now x_now_coins x_now_hands x_now_laws x_now_bytes x_now_sides a_now_edge a_now_bend a_now_rise a_now_wandering a_now_thrown a_now_alike a_now_law a_now_tape a_now_side, aI G a_q_steps n_q_steps f_q_steps, aI G a_now_bend 6 f_now_bend, aI G a_now_edge 6 f_now_edge, aT G a_now_law 8 f_now_law, aI G a_now_rise 6 f_now_rise, aI G a_now_wandering 6 f_now_wandering] [.ref h, .int l1, .int l2, .int l3, .int l4, .int l5] z := by
  refine cm_start (cc := cX11_heads) (maxL := 11) (ret := (some .long)) (Qc := fun A => QL G [oT c_q a_q x_q_kind x_q_number x_q_v x_q_caught a_q_steps, o11 h a_now a_kept x_isKept a_reader a_flight a_latest, o2 a_flight z_x_flight_hand z_x_flight_edge z_x_flight_bend z_x_flight_rise z_x_flight_last z_x_flight_tick z_x_flight_angle z_x_flight_lean, o6 a_now x_now_coins x_now_hands x_now_laws x_now_bytes x_now_sides a_now_edge a_now_bend a_now_rise a_now_wandering a_now_thrown a_now_alike a_now_law a_now_tape a_now_side, aI G a_q_steps n_q_steps f_q_steps, aI G a_now_bend 6 f_now_bend, aI G a_now_edge 6 f_now_edge, aT G a_now_law 8 f_now_law, aI G a_now_rise 6 f_now_rise, aI G a_now_wandering 6 f_now_wandering] z A) (by decide +kernel) rfl (Nat.le_of_ble_eq_true rfl) ?_
  intro p e s m args below meth c A hx hb hr hlk hml hown hnm hts hA H locs hP hK hD hE hS ls hl
  have hown : s.vm.findClass RX11 = some m.cls := hown
  have hl : lv_has ls 11 [(0, .ref h), (1, .int l1), (2, .int l2), (3, .int l3), (4, .int l4), (5, .int l5)] := hl
  have hin11 : ∀ w ∈ wsX110, w ∈ wsX11_heads := by decide +kernel
  have lc_156 := hts (.constantLong RX11 156 (-9223372036854775808)) (by decide +kernel)
  have lc_172 := hts (.constantLong RX11 172 (100)) (by decide +kernel)
  have lk_12 := hts (.fieldLink RX11 12 "HeadsByHair" "now" "LHeadsByHair$Stock;") (by decide +kernel)
  revert hF
  intro hF
  unfold fX11_heads_s at hF
  refine lv_aload_n hx hb dX11_heads_0 rfl (lv_at hl 0 rfl) ?_
  refine lv_iload_n hx hb dX11_heads_1 rfl (lv_at hl 1 rfl) ?_
  have hPc := hP.sub (ws' := [o11 h a_now a_kept x_isKept a_reader a_flight a_latest, o6 a_now x_now_coins x_now_hands x_now_laws x_now_bytes x_now_sides a_now_edge a_now_bend a_now_rise a_now_wandering a_now_thrown a_now_alike a_now_law a_now_tape a_now_side, aT G a_now_law 8 f_now_law]) [1, 3, 7] rfl
  have hDc := hD.sub (ws' := [o11 h a_now a_kept x_isKept a_reader a_flight a_latest, o6 a_now x_now_coins x_now_hands x_now_laws x_now_bytes x_now_sides a_now_edge a_now_bend a_now_rise a_now_wandering a_now_thrown a_now_alike a_now_law a_now_tape a_now_side, aT G a_now_law 8 f_now_law]) [1, 3, 7] (by decide) rfl
  have hFc := va_free (wc := [o11 h a_now a_kept x_isKept a_reader a_flight a_latest, o6 a_now x_now_coins x_now_hands x_now_laws x_now_bytes x_now_sides a_now_edge a_now_bend a_now_rise a_now_wandering a_now_thrown a_now_alike a_now_law a_now_tape a_now_side, aT G a_now_law 8 f_now_law]) hD hS hA [1, 3, 7] rfl
  have hM := c_X11_lawOf l G h a_now a_kept a_reader a_flight a_latest a_now_edge a_now_bend a_now_rise a_now_wandering a_now_thrown a_now_alike a_now_law a_now_tape a_now_side x_isKept x_now_coins x_now_hands x_now_laws x_now_bytes x_now_sides f_now_law l1 (some a_q) hlaw H.size
  refine cl_r (z := (some a_q)) (w1 := [o11 h a_now a_kept x_isKept a_reader a_flight a_latest, o6 a_now x_now_coins x_now_hands x_now_laws x_now_bytes x_now_sides a_now_edge a_now_bend a_now_rise a_now_wandering a_now_thrown a_now_alike a_now_law a_now_tape a_now_side, aT G a_now_law 8 f_now_law]) (ws' := [oT c_q a_q x_q_kind x_q_number x_q_v x_q_caught a_q_steps, o11 h a_now a_kept x_isKept a_reader a_flight a_latest, o2 a_flight x_flight_hand x_flight_edge x_flight_bend x_flight_rise x_flight_last x_flight_tick x_flight_angle x_flight_lean, o6 a_now x_now_coins x_now_hands x_now_laws x_now_bytes x_now_sides a_now_edge a_now_bend a_now_rise a_now_wandering a_now_thrown a_now_alike a_now_law a_now_tape a_now_side, aI G a_q_steps n_q_steps f_q_steps, aI G a_now_bend 6 f_now_bend, aI G a_now_edge 6 f_now_edge, aT G a_now_law 8 f_now_law, aI G a_now_rise 6 f_now_rise, aI G a_now_wandering 6 f_now_wandering]) hP hD hS hFc [1, 3, 7] rfl rfl rfl (va_runV (As := [.int l1]) (rest := []) ⟨hx, hb, hml, hown, hts⟩ hM (cwV 1 hts gX11_heads_X11_lawOf rfl rfl rfl (by decide +kernel) ⟨Nat.le_of_ble_eq_true rfl, Nat.le_of_ble_eq_true rfl⟩) (cp_V hK hE hS hPc hDc hFc (va_recv hK hPc (ci := 11) (q0 := 0) rfl rfl)) rfl rfl hl.1 rfl (lv_room (Nat.le_of_ble_eq_true rfl)) dX11_heads_2 ⟨Nat.zero_le _, Nat.zero_le _⟩) (fun H locs hP hD hS => ?_)
  refine W.eq (g2 := F0 m 5 ls [.ref a_q]) rfl ?_
  refine lv_astore (lv' := [(6, .ref a_q), (0, .ref h), (1, .int l1), (2, .int l2), (3, .int l3), (4, .int l4), (5, .int l5)]) hx hb dX11_heads_5 hl (by decide) rfl (fun ls hl => ?_)
  refine lv_aload hx hb dX11_heads_7 (lv_at hl 0 rfl) ?_
  refine lv_ifnull hx hb dX11_heads_9 ?_
  refine lv_aload_n hx hb dX11_heads_12 rfl (lv_at hl 1 rfl) ?_
  refine lv_iload_n hx hb dX11_heads_13 rfl (lv_at hl 3 rfl) ?_
  obtain ⟨r1, hc2, hF⟩ := bd_some hF
  have hPc := hP.sub (ws' := [o11 h a_now a_kept x_isKept a_reader a_flight a_latest, o6 a_now x_now_coins x_now_hands x_now_laws x_now_bytes x_now_sides a_now_edge a_now_bend a_now_rise a_now_wandering a_now_thrown a_now_alike a_now_law a_now_tape a_now_side]) [1, 3] rfl
  have hDc := hD.sub (ws' := [o11 h a_now a_kept x_isKept a_reader a_flight a_latest, o6 a_now x_now_coins x_now_hands x_now_laws x_now_bytes x_now_sides a_now_edge a_now_bend a_now_rise a_now_wandering a_now_thrown a_now_alike a_now_law a_now_tape a_now_side]) [1, 3] (by decide) rfl
  have hFc := va_free (wc := [o11 h a_now a_kept x_isKept a_reader a_flight a_latest, o6 a_now x_now_coins x_now_hands x_now_laws x_now_bytes x_now_sides a_now_edge a_now_bend a_now_rise a_now_wandering a_now_thrown a_now_alike a_now_law a_now_tape a_now_side]) hD hS hA [1, 3] rfl
  have hM := c_X11_isHand l G h a_now a_kept a_reader a_flight a_latest a_now_edge a_now_bend a_now_rise a_now_wandering a_now_thrown a_now_alike a_now_law a_now_tape a_now_side x_isKept x_now_coins x_now_hands x_now_laws x_now_bytes x_now_sides l2 r1 hc2 H.size
  refine cl_i (w1 := [o11 h a_now a_kept x_isKept a_reader a_flight a_latest, o6 a_now x_now_coins x_now_hands x_now_laws x_now_bytes x_now_sides a_now_edge a_now_bend a_now_rise a_now_wandering a_now_thrown a_now_alike a_now_law a_now_tape a_now_side]) (ws' := [oT c_q a_q x_q_kind x_q_number x_q_v x_q_caught a_q_steps, o11 h a_now a_kept x_isKept a_reader a_flight a_latest, o2 a_flight x_flight_hand x_flight_edge x_flight_bend x_flight_rise x_flight_last x_flight_tick x_flight_angle x_flight_lean, o6 a_now x_now_coins x_now_hands x_now_laws x_now_bytes x_now_sides a_now_edge a_now_bend a_now_rise a_now_wandering a_now_thrown a_now_alike a_now_law a_now_tape a_now_side, aI G a_q_steps n_q_steps f_q_steps, aI G a_now_bend 6 f_now_bend, aI G a_now_edge 6 f_now_edge, aT G a_now_law 8 f_now_law, aI G a_now_rise 6 f_now_rise, aI G a_now_wandering 6 f_now_wandering]) hP hD hS hFc [1, 3] rfl rfl rfl (va_runV (As := [.int l2]) (rest := []) ⟨hx, hb, hml, hown, hts⟩ hM (cwV 1 hts gX11_heads_X11_isHand rfl rfl rfl (by decide +kernel) ⟨Nat.le_of_ble_eq_true rfl, Nat.le_of_ble_eq_true rfl⟩) (cp_V hK hE hS hPc hDc hFc (va_recv hK hPc (ci := 11) (q0 := 0) rfl rfl)) rfl rfl hl.1 rfl (lv_room (Nat.le_of_ble_eq_true rfl)) dX11_heads_14 ⟨Nat.zero_le _, Nat.zero_le _⟩) (fun H locs hP hD hS => ?_)
  refine lv_if_eq (tgt := 44) hx hb dX11_heads_17 (by decide) (fun c3 => ?_) (fun c3 => ?_)
  · rw [if_pos c3] at hF
    refine lv_ldc2 hx hb hown lc_156 dX11_heads_44 ?_
    injection hF with hz
    injection hz with hq0 hz
    injection hz with hq1 hz
    injection hz with hq2 hz
    injection hz with hq3 hz
    injection hz with hq4 hz
    injection hz with hq5 hz
    injection hz with hq6 hz
    injection hz with hq7 hz
    subst hq0
    subst hq1
    subst hq2
    subst hq3
    subst hq4
    subst hq5
    subst hq6
    subst hq7
    subst hz
    exact cm_retl hx hb hr hlk hK hP hD hS dX11_heads_47
  rw [if_neg c3] at hF
  refine lv_aload_n hx hb dX11_heads_20 rfl (lv_at hl 1 rfl) ?_
  refine lv_iload_n hx hb dX11_heads_21 rfl (lv_at hl 4 rfl) ?_
  obtain ⟨r4, hc5, hF⟩ := bd_some hF
  have hPc := hP.sub (ws' := [o11 h a_now a_kept x_isKept a_reader a_flight a_latest, o6 a_now x_now_coins x_now_hands x_now_laws x_now_bytes x_now_sides a_now_edge a_now_bend a_now_rise a_now_wandering a_now_thrown a_now_alike a_now_law a_now_tape a_now_side]) [1, 3] rfl
  have hDc := hD.sub (ws' := [o11 h a_now a_kept x_isKept a_reader a_flight a_latest, o6 a_now x_now_coins x_now_hands x_now_laws x_now_bytes x_now_sides a_now_edge a_now_bend a_now_rise a_now_wandering a_now_thrown a_now_alike a_now_law a_now_tape a_now_side]) [1, 3] (by decide) rfl
  have hFc := va_free (wc := [o11 h a_now a_kept x_isKept a_reader a_flight a_latest, o6 a_now x_now_coins x_now_hands x_now_laws x_now_bytes x_now_sides a_now_edge a_now_bend a_now_rise a_now_wandering a_now_thrown a_now_alike a_now_law a_now_tape a_now_side]) hD hS hA [1, 3] rfl
  have hM := c_X11_isCoin l G h a_now a_kept a_reader a_flight a_latest a_now_edge a_now_bend a_now_rise a_now_wandering a_now_thrown a_now_alike a_now_law a_now_tape a_now_side x_isKept x_now_coins x_now_hands x_now_laws x_now_bytes x_now_sides l3 r4 hc5 H.size
  refine cl_i (w1 := [o11 h a_now a_kept x_isKept a_reader a_flight a_latest, o6 a_now x_now_coins x_now_hands x_now_laws x_now_bytes x_now_sides a_now_edge a_now_bend a_now_rise a_now_wandering a_now_thrown a_now_alike a_now_law a_now_tape a_now_side]) (ws' := [oT c_q a_q x_q_kind x_q_number x_q_v x_q_caught a_q_steps, o11 h a_now a_kept x_isKept a_reader a_flight a_latest, o2 a_flight x_flight_hand x_flight_edge x_flight_bend x_flight_rise x_flight_last x_flight_tick x_flight_angle x_flight_lean, o6 a_now x_now_coins x_now_hands x_now_laws x_now_bytes x_now_sides a_now_edge a_now_bend a_now_rise a_now_wandering a_now_thrown a_now_alike a_now_law a_now_tape a_now_side, aI G a_q_steps n_q_steps f_q_steps, aI G a_now_bend 6 f_now_bend, aI G a_now_edge 6 f_now_edge, aT G a_now_law 8 f_now_law, aI G a_now_rise 6 f_now_rise, aI G a_now_wandering 6 f_now_wandering]) hP hD hS hFc [1, 3] rfl rfl rfl (va_runV (As := [.int l3]) (rest := []) ⟨hx, hb, hml, hown, hts⟩ hM (cwV 1 hts gX11_heads_X11_isCoin rfl rfl rfl (by decide +kernel) ⟨Nat.le_of_ble_eq_true rfl, Nat.le_of_ble_eq_true rfl⟩) (cp_V hK hE hS hPc hDc hFc (va_recv hK hPc (ci := 11) (q0 := 0) rfl rfl)) rfl rfl hl.1 rfl (lv_room (Nat.le_of_ble_eq_true rfl)) dX11_heads_22 ⟨Nat.zero_le _, Nat.zero_le _⟩) (fun H locs hP hD hS => ?_)
  refine W.eq (g2 := F0 m 25 ls [.int r4]) rfl ?_
  refine lv_if_eq (tgt := 44) hx hb dX11_heads_25 (by decide) (fun c6 => ?_) (fun c6 => ?_)
  · rw [if_pos c6] at hF
    refine lv_ldc2 hx hb hown lc_156 dX11_heads_44 ?_
    injection hF with hz
    injection hz with hq0 hz
    injection hz with hq1 hz
    injection hz with hq2 hz
    injection hz with hq3 hz
    injection hz with hq4 hz
    injection hz with hq5 hz
    injection hz with hq6 hz
    injection hz with hq7 hz
    subst hq0
    subst hq1
    subst hq2
    subst hq3
    subst hq4
    subst hq5
    subst hq6
    subst hq7
    subst hz
    exact cm_retl hx hb hr hlk hK hP hD hS dX11_heads_47
  rw [if_neg c6] at hF
  refine lv_iload hx hb dX11_heads_28 (lv_at hl 6 rfl) ?_
  obtain ⟨r7, hc8, hF⟩ := bd_some hF
  have hPc := hP.sub (ws' := []) [] rfl
  have hDc := hD.sub (ws' := []) [] (by decide) rfl
  have hFc := va_free (wc := []) hD hS hA [] rfl
  have hM := c_X11_isPart l G l5 r7 hc8 H.size
  refine cl_i (w1 := []) (ws' := [oT c_q a_q x_q_kind x_q_number x_q_v x_q_caught a_q_steps, o11 h a_now a_kept x_isKept a_reader a_flight a_latest, o2 a_flight x_flight_hand x_flight_edge x_flight_bend x_flight_rise x_flight_last x_flight_tick x_flight_angle x_flight_lean, o6 a_now x_now_coins x_now_hands x_now_laws x_now_bytes x_now_sides a_now_edge a_now_bend a_now_rise a_now_wandering a_now_thrown a_now_alike a_now_law a_now_tape a_now_side, aI G a_q_steps n_q_steps f_q_steps, aI G a_now_bend 6 f_now_bend, aI G a_now_edge 6 f_now_edge, aT G a_now_law 8 f_now_law, aI G a_now_rise 6 f_now_rise, aI G a_now_wandering 6 f_now_wandering]) hP hD hS hFc [] rfl rfl rfl (va_runS (As := [.int l5]) (rest := []) ⟨hx, hb, hml, hown, hts⟩ hM (va_cwS 1 hts gX11_heads_X11_isPart rfl rfl rfl (by decide +kernel) ⟨Nat.le_of_ble_eq_true rfl, Nat.le_of_ble_eq_true rfl⟩) (cp_S hK hE hS hPc hDc hFc) rfl rfl hl.1 rfl (lv_room (Nat.le_of_ble_eq_true rfl)) dX11_heads_30 ⟨Nat.zero_le _, Nat.zero_le _⟩) (fun H locs hP hD hS => ?_)
  refine lv_if_eq (tgt := 44) hx hb dX11_heads_33 (by decide) (fun c9 => ?_) (fun c9 => ?_)
  · rw [if_pos c9] at hF
    refine lv_ldc2 hx hb hown lc_156 dX11_heads_44 ?_
    injection hF with hz
    injection hz with hq0 hz
    injection hz with hq1 hz
    injection hz with hq2 hz
    injection hz with hq3 hz
    injection hz with hq4 hz
    injection hz with hq5 hz
    injection hz with hq6 hz
    injection hz with hq7 hz
    subst hq0
    subst hq1
    subst hq2
    subst hq3
    subst hq4
    subst hq5
    subst hq6
    subst hq7
    subst hz
    exact cm_retl hx hb hr hlk hK hP hD hS dX11_heads_47
  rw [if_neg c9] at hF
  refine lv_iload hx hb dX11_heads_36 (lv_at hl 5 rfl) ?_
  obtain ⟨r10, hc11, hF⟩ := bd_some hF
  have hPc := hP.sub (ws' := []) [] rfl
  have hDc := hD.sub (ws' := []) [] (by decide) rfl
  have hFc := va_free (wc := []) hD hS hA [] rfl
  have hM := c_X11_isPercent l G l4 r10 hc11 H.size
  refine cl_i (w1 := []) (ws' := [oT c_q a_q x_q_kind x_q_number x_q_v x_q_caught a_q_steps, o11 h a_now a_kept x_isKept a_reader a_flight a_latest, o2 a_flight x_flight_hand x_flight_edge x_flight_bend x_flight_rise x_flight_last x_flight_tick x_flight_angle x_flight_lean, o6 a_now x_now_coins x_now_hands x_now_laws x_now_bytes x_now_sides a_now_edge a_now_bend a_now_rise a_now_wandering a_now_thrown a_now_alike a_now_law a_now_tape a_now_side, aI G a_q_steps n_q_steps f_q_steps, aI G a_now_bend 6 f_now_bend, aI G a_now_edge 6 f_now_edge, aT G a_now_law 8 f_now_law, aI G a_now_rise 6 f_now_rise, aI G a_now_wandering 6 f_now_wandering]) hP hD hS hFc [] rfl rfl rfl (va_runS (As := [.int l4]) (rest := []) ⟨hx, hb, hml, hown, hts⟩ hM (va_cwS 1 hts gX11_heads_X11_isPercent rfl rfl rfl (by decide +kernel) ⟨Nat.le_of_ble_eq_true rfl, Nat.le_of_ble_eq_true rfl⟩) (cp_S hK hE hS hPc hDc hFc) rfl rfl hl.1 rfl (lv_room (Nat.le_of_ble_eq_true rfl)) dX11_heads_38 ⟨Nat.zero_le _, Nat.zero_le _⟩) (fun H locs hP hD hS => ?_)
  refine lv_if_ne (tgt := 48) hx hb dX11_heads_41 (by decide) (fun c12 => ?_) (fun c12 => ?_)
  · rw [if_neg c12] at hF
    refine lv_iload hx hb dX11_heads_48 (lv_at hl 5 rfl) ?_
    refine lv_aload_n hx hb dX11_heads_50 rfl (lv_at hl 1 rfl) ?_
    refine lv_aload hx hb dX11_heads_51 (lv_at hl 0 rfl) ?_
    refine lv_iload_n hx hb dX11_heads_53 rfl (lv_at hl 3 rfl) ?_
    refine lv_iload_n hx hb dX11_heads_54 rfl (lv_at hl 4 rfl) ?_
    refine lv_iconst (v := 1) hx hb dX11_heads_55 (by decide) ?_
    obtain ⟨r13, hc14, hF⟩ := bd_some hF
    have hPc := hP.sub (ws' := [oT c_q a_q x_q_kind x_q_number x_q_v x_q_caught a_q_steps, o11 h a_now a_kept x_isKept a_reader a_flight a_latest, o2 a_flight x_flight_hand x_flight_edge x_flight_bend x_flight_rise x_flight_last x_flight_tick x_flight_angle x_flight_lean, o6 a_now x_now_coins x_now_hands x_now_laws x_now_bytes x_now_sides a_now_edge a_now_bend a_now_rise a_now_wandering a_now_thrown a_now_alike a_now_law a_now_tape a_now_side, aI G a_q_steps n_q_steps f_q_steps, aI G a_now_bend 6 f_now_bend, aI G a_now_edge 6 f_now_edge, aI G a_now_rise 6 f_now_rise, aI G a_now_wandering 6 f_now_wandering]) [0, 1, 2, 3, 4, 5, 6, 8, 9] rfl
    have hDc := hD.sub (ws' := [oT c_q a_q x_q_kind x_q_number x_q_v x_q_caught a_q_steps, o11 h a_now a_kept x_isKept a_reader a_flight a_latest, o2 a_flight x_flight_hand x_flight_edge x_flight_bend x_flight_rise x_flight_last x_flight_tick x_flight_angle x_flight_lean, o6 a_now x_now_coins x_now_hands x_now_laws x_now_bytes x_now_sides a_now_edge a_now_bend a_now_rise a_now_wandering a_now_thrown a_now_alike a_now_law a_now_tape a_now_side, aI G a_q_steps n_q_steps f_q_steps, aI G a_now_bend 6 f_now_bend, aI G a_now_edge 6 f_now_edge, aI G a_now_rise 6 f_now_rise, aI G a_now_wandering 6 f_now_wandering]) [0, 1, 2, 3, 4, 5, 6, 8, 9] (by decide) rfl
    have hFc := va_free (wc := [oT c_q a_q x_q_kind x_q_number x_q_v x_q_caught a_q_steps, o11 h a_now a_kept x_isKept a_reader a_flight a_latest, o2 a_flight x_flight_hand x_flight_edge x_flight_bend x_flight_rise x_flight_last x_flight_tick x_flight_angle x_flight_lean, o6 a_now x_now_coins x_now_hands x_now_laws x_now_bytes x_now_sides a_now_edge a_now_bend a_now_rise a_now_wandering a_now_thrown a_now_alike a_now_law a_now_tape a_now_side, aI G a_q_steps n_q_steps f_q_steps, aI G a_now_bend 6 f_now_bend, aI G a_now_edge 6 f_now_edge, aI G a_now_rise 6 f_now_rise, aI G a_now_wandering 6 f_now_wandering]) hD hS hA [0, 1, 2, 3, 4, 5, 6, 8, 9] rfl
    have hM := c_X11_timesHeads l G c_q (by omega) a_q a_q_steps h a_now a_kept a_reader a_flight a_latest a_now_edge a_now_bend a_now_rise a_now_wandering a_now_thrown a_now_alike a_now_law a_now_tape a_now_side x_q_kind x_q_number x_q_v x_q_caught x_isKept x_flight_hand x_flight_edge x_flight_bend x_flight_rise x_flight_last x_flight_tick x_flight_angle x_flight_lean x_now_coins x_now_hands x_now_laws x_now_bytes x_now_sides f_q_steps f_now_bend f_now_edge f_now_rise f_now_wandering n_q_steps l2 l3 (1 : Int32) r13.1 r13.2.1 r13.2.2.1 r13.2.2.2.1 r13.2.2.2.2.1 r13.2.2.2.2.2.1 r13.2.2.2.2.2.2.1 r13.2.2.2.2.2.2.2.1 r13.2.2.2.2.2.2.2.2 hc14 H.size
    refine cl_i (w1 := [oT c_q a_q x_q_kind x_q_number x_q_v x_q_caught a_q_steps, o11 h a_now a_kept x_isKept a_reader a_flight a_latest, o2 a_flight r13.2.1 r13.2.2.1 r13.2.2.2.1 r13.2.2.2.2.1 r13.2.2.2.2.2.1 r13.2.2.2.2.2.2.1 r13.2.2.2.2.2.2.2.1 r13.2.2.2.2.2.2.2.2, o6 a_now x_now_coins x_now_hands x_now_laws x_now_bytes x_now_sides a_now_edge a_now_bend a_now_rise a_now_wandering a_now_thrown a_now_alike a_now_law a_now_tape a_now_side, aI G a_q_steps n_q_steps f_q_steps, aI G a_now_bend 6 f_now_bend, aI G a_now_edge 6 f_now_edge, aI G a_now_rise 6 f_now_rise, aI G a_now_wandering 6 f_now_wandering]) (ws' := [oT c_q a_q x_q_kind x_q_number x_q_v x_q_caught a_q_steps, o11 h a_now a_kept x_isKept a_reader a_flight a_latest, o2 a_flight r13.2.1 r13.2.2.1 r13.2.2.2.1 r13.2.2.2.2.1 r13.2.2.2.2.2.1 r13.2.2.2.2.2.2.1 r13.2.2.2.2.2.2.2.1 r13.2.2.2.2.2.2.2.2, o6 a_now x_now_coins x_now_hands x_now_laws x_now_bytes x_now_sides a_now_edge a_now_bend a_now_rise a_now_wandering a_now_thrown a_now_alike a_now_law a_now_tape a_now_side, aI G a_q_steps n_q_steps f_q_steps, aI G a_now_bend 6 f_now_bend, aI G a_now_edge 6 f_now_edge, aT G a_now_law 8 f_now_law, aI G a_now_rise 6 f_now_rise, aI G a_now_wandering 6 f_now_wandering]) hP hD hS hFc [0, 1, 2, 3, 4, 5, 6, 8, 9] rfl rfl rfl (va_runV (As := [.ref a_q, .int l2, .int l3, .int 1]) (rest := [.int l4]) ⟨hx, hb, hml, hown, hts⟩ hM (cwV 4 hts gX11_heads_X11_timesHeads rfl rfl rfl (by decide +kernel) ⟨Nat.le_of_ble_eq_true rfl, Nat.le_of_ble_eq_true rfl⟩) (cp_V hK hE hS hPc hDc hFc (va_recv hK hPc (ci := 11) (q0 := 1) rfl rfl)) rfl rfl hl.1 rfl (lv_room (Nat.le_of_ble_eq_true rfl)) dX11_heads_56 ⟨Nat.zero_le _, Nat.zero_le _⟩) (fun H locs hP hD hS => ?_)
    refine W.eq (g2 := F0 m 59 ls [.int r13.1, .int l4]) rfl ?_
    refine lv_imul hx hb dX11_heads_59 ?_
    refine lv_i2l (v := (l4 * r13.1).toInt64) hx hb dX11_heads_60 rfl ?_
    refine lv_lstore (lv' := [(7, .long ((l4 * r13.1).toInt64)), (6, .ref a_q), (0, .ref h), (1, .int l1), (2, .int l2), (3, .int l3), (4, .int l4), (5, .int l5)]) hx hb dX11_heads_61 hl (by decide) rfl (fun ls hl => ?_)
    refine lv_bipush (v := 100) hx hb dX11_heads_63 (by decide) ?_
    refine lv_iload hx hb dX11_heads_65 (lv_at hl 6 rfl) ?_
    refine lv_isub hx hb dX11_heads_67 ?_
    refine lv_aload_n hx hb dX11_heads_68 rfl (lv_at hl 2 rfl) ?_
    refine lv_aload hx hb dX11_heads_69 (lv_at hl 1 rfl) ?_
    refine lv_iload_n hx hb dX11_heads_71 rfl (lv_at hl 4 rfl) ?_
    refine lv_iload_n hx hb dX11_heads_72 rfl (lv_at hl 5 rfl) ?_
    refine lv_iconst (v := 0) hx hb dX11_heads_73 (by decide) ?_
    obtain ⟨r15, hc16, hF⟩ := bd_some hF
    have hPc := hP.sub (ws' := [oT c_q a_q x_q_kind x_q_number x_q_v x_q_caught a_q_steps, o11 h a_now a_kept x_isKept a_reader a_flight a_latest, o2 a_flight r13.2.1 r13.2.2.1 r13.2.2.2.1 r13.2.2.2.2.1 r13.2.2.2.2.2.1 r13.2.2.2.2.2.2.1 r13.2.2.2.2.2.2.2.1 r13.2.2.2.2.2.2.2.2, o6 a_now x_now_coins x_now_hands x_now_laws x_now_bytes x_now_sides a_now_edge a_now_bend a_now_rise a_now_wandering a_now_thrown a_now_alike a_now_law a_now_tape a_now_side, aI G a_q_steps n_q_steps f_q_steps, aI G a_now_bend 6 f_now_bend, aI G a_now_edge 6 f_now_edge, aI G a_now_rise 6 f_now_rise, aI G a_now_wandering 6 f_now_wandering]) [0, 1, 2, 3, 4, 5, 6, 8, 9] rfl
    have hDc := hD.sub (ws' := [oT c_q a_q x_q_kind x_q_number x_q_v x_q_caught a_q_steps, o11 h a_now a_kept x_isKept a_reader a_flight a_latest, o2 a_flight r13.2.1 r13.2.2.1 r13.2.2.2.1 r13.2.2.2.2.1 r13.2.2.2.2.2.1 r13.2.2.2.2.2.2.1 r13.2.2.2.2.2.2.2.1 r13.2.2.2.2.2.2.2.2, o6 a_now x_now_coins x_now_hands x_now_laws x_now_bytes x_now_sides a_now_edge a_now_bend a_now_rise a_now_wandering a_now_thrown a_now_alike a_now_law a_now_tape a_now_side, aI G a_q_steps n_q_steps f_q_steps, aI G a_now_bend 6 f_now_bend, aI G a_now_edge 6 f_now_edge, aI G a_now_rise 6 f_now_rise, aI G a_now_wandering 6 f_now_wandering]) [0, 1, 2, 3, 4, 5, 6, 8, 9] (by decide) rfl
    have hFc := va_free (wc := [oT c_q a_q x_q_kind x_q_number x_q_v x_q_caught a_q_steps, o11 h a_now a_kept x_isKept a_reader a_flight a_latest, o2 a_flight r13.2.1 r13.2.2.1 r13.2.2.2.1 r13.2.2.2.2.1 r13.2.2.2.2.2.1 r13.2.2.2.2.2.2.1 r13.2.2.2.2.2.2.2.1 r13.2.2.2.2.2.2.2.2, o6 a_now x_now_coins x_now_hands x_now_laws x_now_bytes x_now_sides a_now_edge a_now_bend a_now_rise a_now_wandering a_now_thrown a_now_alike a_now_law a_now_tape a_now_side, aI G a_q_steps n_q_steps f_q_steps, aI G a_now_bend 6 f_now_bend, aI G a_now_edge 6 f_now_edge, aI G a_now_rise 6 f_now_rise, aI G a_now_wandering 6 f_now_wandering]) hD hS hA [0, 1, 2, 3, 4, 5, 6, 8, 9] rfl
    have hM := c_X11_timesHeads l G c_q (by omega) a_q a_q_steps h a_now a_kept a_reader a_flight a_latest a_now_edge a_now_bend a_now_rise a_now_wandering a_now_thrown a_now_alike a_now_law a_now_tape a_now_side x_q_kind x_q_number x_q_v x_q_caught x_isKept r13.2.1 r13.2.2.1 r13.2.2.2.1 r13.2.2.2.2.1 r13.2.2.2.2.2.1 r13.2.2.2.2.2.2.1 r13.2.2.2.2.2.2.2.1 r13.2.2.2.2.2.2.2.2 x_now_coins x_now_hands x_now_laws x_now_bytes x_now_sides f_q_steps f_now_bend f_now_edge f_now_rise f_now_wandering n_q_steps l2 l3 (0 : Int32) r15.1 r15.2.1 r15.2.2.1 r15.2.2.2.1 r15.2.2.2.2.1 r15.2.2.2.2.2.1 r15.2.2.2.2.2.2.1 r15.2.2.2.2.2.2.2.1 r15.2.2.2.2.2.2.2.2 hc16 H.size
    refine cl_i (w1 := [oT c_q a_q x_q_kind x_q_number x_q_v x_q_caught a_q_steps, o11 h a_now a_kept x_isKept a_reader a_flight a_latest, o2 a_flight r15.2.1 r15.2.2.1 r15.2.2.2.1 r15.2.2.2.2.1 r15.2.2.2.2.2.1 r15.2.2.2.2.2.2.1 r15.2.2.2.2.2.2.2.1 r15.2.2.2.2.2.2.2.2, o6 a_now x_now_coins x_now_hands x_now_laws x_now_bytes x_now_sides a_now_edge a_now_bend a_now_rise a_now_wandering a_now_thrown a_now_alike a_now_law a_now_tape a_now_side, aI G a_q_steps n_q_steps f_q_steps, aI G a_now_bend 6 f_now_bend, aI G a_now_edge 6 f_now_edge, aI G a_now_rise 6 f_now_rise, aI G a_now_wandering 6 f_now_wandering]) (ws' := [oT c_q a_q x_q_kind x_q_number x_q_v x_q_caught a_q_steps, o11 h a_now a_kept x_isKept a_reader a_flight a_latest, o2 a_flight r15.2.1 r15.2.2.1 r15.2.2.2.1 r15.2.2.2.2.1 r15.2.2.2.2.2.1 r15.2.2.2.2.2.2.1 r15.2.2.2.2.2.2.2.1 r15.2.2.2.2.2.2.2.2, o6 a_now x_now_coins x_now_hands x_now_laws x_now_bytes x_now_sides a_now_edge a_now_bend a_now_rise a_now_wandering a_now_thrown a_now_alike a_now_law a_now_tape a_now_side, aI G a_q_steps n_q_steps f_q_steps, aI G a_now_bend 6 f_now_bend, aI G a_now_edge 6 f_now_edge, aT G a_now_law 8 f_now_law, aI G a_now_rise 6 f_now_rise, aI G a_now_wandering 6 f_now_wandering]) hP hD hS hFc [0, 1, 2, 3, 4, 5, 6, 8, 9] rfl rfl rfl (va_runV (As := [.ref a_q, .int l2, .int l3, .int 0]) (rest := [.int (100 - l4)]) ⟨hx, hb, hml, hown, hts⟩ hM (cwV 4 hts gX11_heads_X11_timesHeads rfl rfl rfl (by decide +kernel) ⟨Nat.le_of_ble_eq_true rfl, Nat.le_of_ble_eq_true rfl⟩) (cp_V hK hE hS hPc hDc hFc (va_recv hK hPc (ci := 11) (q0 := 1) rfl rfl)) rfl rfl hl.1 rfl (lv_room (Nat.le_of_ble_eq_true rfl)) dX11_heads_74 ⟨Nat.zero_le _, Nat.zero_le _⟩) (fun H locs hP hD hS => ?_)
    refine lv_imul hx hb dX11_heads_77 ?_
    refine lv_i2l (v := ((100 - l4) * r15.1).toInt64) hx hb dX11_heads_78 rfl ?_
    refine W.eq (g2 := F0 m 79 ls [.long (((100 - l4) * r15.1).toInt64)]) rfl ?_
    refine lv_lstore (lv' := [(9, .long (((100 - l4) * r15.1).toInt64)), (7, .long ((l4 * r13.1).toInt64)), (6, .ref a_q), (0, .ref h), (1, .int l1), (2, .int l2), (3, .int l3), (4, .int l4), (5, .int l5)]) hx hb dX11_heads_79 hl (by decide) rfl (fun ls hl => ?_)
    refine lv_lload hx hb dX11_heads_81 (lv_at hl 1 rfl) ?_
    refine lv_lload hx hb dX11_heads_83 (lv_at hl 0 rfl) ?_
    refine lv_ladd hx hb dX11_heads_85 ?_
    refine lv_ldc2 hx hb hown lc_172 dX11_heads_86 ?_
    refine lv_aload_n hx hb dX11_heads_89 rfl (lv_at hl 3 rfl) ?_
    refine va_get (D := G.1) (ci := 11) (v := .ref a_now) (C := RX11) (T := TX11) (N := 6) hx hb hts hin11 hown hK hP 1 rfl rfl 0 (by decide) lk_12 (fun _ h9 => h9) rfl dX11_heads_90 ?_
    refine lv_iload_n hx hb dX11_heads_93 rfl (lv_at hl 5 rfl) ?_
    obtain ⟨r17, hc18, hF⟩ := bd_some hF
    have hPc := hP.sub (ws' := [o6 a_now x_now_coins x_now_hands x_now_laws x_now_bytes x_now_sides a_now_edge a_now_bend a_now_rise a_now_wandering a_now_thrown a_now_alike a_now_law a_now_tape a_now_side, aI G a_now_wandering 6 f_now_wandering]) [3, 9] rfl
    have hDc := hD.sub (ws' := [o6 a_now x_now_coins x_now_hands x_now_laws x_now_bytes x_now_sides a_now_edge a_now_bend a_now_rise a_now_wandering a_now_thrown a_now_alike a_now_law a_now_tape a_now_side, aI G a_now_wandering 6 f_now_wandering]) [3, 9] (by decide) rfl
    have hFc := va_free (wc := [o6 a_now x_now_coins x_now_hands x_now_laws x_now_bytes x_now_sides a_now_edge a_now_bend a_now_rise a_now_wandering a_now_thrown a_now_alike a_now_law a_now_tape a_now_side, aI G a_now_wandering 6 f_now_wandering]) hD hS hA [3, 9] rfl
    have hM := c_X6_rises l G a_now a_now_edge a_now_bend a_now_rise a_now_wandering a_now_thrown a_now_alike a_now_law a_now_tape a_now_side x_now_coins x_now_hands x_now_laws x_now_bytes x_now_sides f_now_wandering l2 r17 hc18 H.size
    refine cl_i (w1 := [o6 a_now x_now_coins x_now_hands x_now_laws x_now_bytes x_now_sides a_now_edge a_now_bend a_now_rise a_now_wandering a_now_thrown a_now_alike a_now_law a_now_tape a_now_side, aI G a_now_wandering 6 f_now_wandering]) (ws' := [oT c_q a_q x_q_kind x_q_number x_q_v x_q_caught a_q_steps, o11 h a_now a_kept x_isKept a_reader a_flight a_latest, o2 a_flight r15.2.1 r15.2.2.1 r15.2.2.2.1 r15.2.2.2.2.1 r15.2.2.2.2.2.1 r15.2.2.2.2.2.2.1 r15.2.2.2.2.2.2.2.1 r15.2.2.2.2.2.2.2.2, o6 a_now x_now_coins x_now_hands x_now_laws x_now_bytes x_now_sides a_now_edge a_now_bend a_now_rise a_now_wandering a_now_thrown a_now_alike a_now_law a_now_tape a_now_side, aI G a_q_steps n_q_steps f_q_steps, aI G a_now_bend 6 f_now_bend, aI G a_now_edge 6 f_now_edge, aT G a_now_law 8 f_now_law, aI G a_now_rise 6 f_now_rise, aI G a_now_wandering 6 f_now_wandering]) hP hD hS hFc [3, 9] rfl rfl rfl (va_runVN (As := [.int l2]) (rest := [.long 100, .long (((l4 * r13.1).toInt64) + (((100 - l4) * r15.1).toInt64))]) ⟨hx, hb, hml, hown, hts⟩ hM ⟨va_cnB 1 hts gX11_heads_X6_rises_n162 rfl rfl rfl (hE.nw (.methodLinkNest RX11 162 yX6_rises "HeadsByHair") (by decide +kernel)) (hts (.initialized RX6) (by decide +kernel)) (by decide +kernel) ⟨Nat.le_of_ble_eq_true rfl, Nat.le_of_ble_eq_true rfl⟩, hts (.instanceMethod yX6_rises) (by decide +kernel), hts (.selects RX6 yX6_rises yX6_rises) (by decide +kernel)⟩ (cp_V hK hE hS hPc hDc hFc (va_recv hK hPc (ci := 6) (q0 := 0) rfl rfl)) rfl rfl hl.1 rfl (lv_room (Nat.le_of_ble_eq_true rfl)) dX11_heads_94 ⟨Nat.zero_le _, Nat.zero_le _⟩) (fun H locs hP hD hS => ?_)
    refine lv_i2l (v := r17.toInt64) hx hb dX11_heads_97 rfl ?_
    refine lv_lmul hx hb dX11_heads_98 ?_
    refine lv_iload hx hb dX11_heads_99 (lv_at hl 8 rfl) ?_
    obtain ⟨r19, hc20, hF⟩ := bd_some hF
    have hPc := hP.sub (ws' := []) [] rfl
    have hDc := hD.sub (ws' := []) [] (by decide) rfl
    have hFc := va_free (wc := []) hD hS hA [] rfl
    have hM := c_X11_inLowest l G (((l4 * r13.1).toInt64) + (((100 - l4) * r15.1).toInt64)) (100 * r17.toInt64) l5 r19 hc20 H.size
    refine cl_l (w1 := []) (ws' := [oT c_q a_q x_q_kind x_q_number x_q_v x_q_caught a_q_steps, o11 h a_now a_kept x_isKept a_reader a_flight a_latest, o2 a_flight r15.2.1 r15.2.2.1 r15.2.2.2.1 r15.2.2.2.2.1 r15.2.2.2.2.2.1 r15.2.2.2.2.2.2.1 r15.2.2.2.2.2.2.2.1 r15.2.2.2.2.2.2.2.2, o6 a_now x_now_coins x_now_hands x_now_laws x_now_bytes x_now_sides a_now_edge a_now_bend a_now_rise a_now_wandering a_now_thrown a_now_alike a_now_law a_now_tape a_now_side, aI G a_q_steps n_q_steps f_q_steps, aI G a_now_bend 6 f_now_bend, aI G a_now_edge 6 f_now_edge, aT G a_now_law 8 f_now_law, aI G a_now_rise 6 f_now_rise, aI G a_now_wandering 6 f_now_wandering]) hP hD hS hFc [] rfl rfl rfl (va_runS (As := [.long (((l4 * r13.1).toInt64) + (((100 - l4) * r15.1).toInt64)), .long (100 * r17.toInt64), .int l5]) (rest := []) ⟨hx, hb, hml, hown, hts⟩ hM (va_cwS 3 hts gX11_heads_X11_inLowest rfl rfl rfl (by decide +kernel) ⟨Nat.le_of_ble_eq_true rfl, Nat.le_of_ble_eq_true rfl⟩) (cp_S hK hE hS hPc hDc hFc) rfl rfl hl.1 rfl (lv_room (Nat.le_of_ble_eq_true rfl)) dX11_heads_101 ⟨Nat.zero_le _, Nat.zero_le _⟩) (fun H locs hP hD hS => ?_)
    injection hF with hz
    injection hz with hq0 hz
    injection hz with hq1 hz
    injection hz with hq2 hz
    injection hz with hq3 hz
    injection hz with hq4 hz
    injection hz with hq5 hz
    injection hz with hq6 hz
    injection hz with hq7 hz
    subst hq0
    subst hq1
    subst hq2
    subst hq3
    subst hq4
    subst hq5
    subst hq6
    subst hq7
    subst hz
    exact cm_retl hx hb hr hlk hK hP hD hS dX11_heads_104
  rw [if_pos c12] at hF
  refine lv_ldc2 hx hb hown lc_156 dX11_heads_44 ?_
  injection hF with hz
  injection hz with hq0 hz
  injection hz with hq1 hz
  injection hz with hq2 hz
  injection hz with hq3 hz
  injection hz with hq4 hz
  injection hz with hq5 hz
  injection hz with hq6 hz
  injection hz with hq7 hz
  subst hq0
  subst hq1
  subst hq2
  subst hq3
  subst hq4
  subst hq5
  subst hq6
  subst hq7
  subst hz
  exact cm_retl hx hb hr hlk hK hP hD hS dX11_heads_47

/-! HeadsByHair.steady(IIII)I, n -/
abbrev rm_X11_steady_n : Room := { frames := 2, cells := 0, slots := 0, locals := 43 }
set_option maxHeartbeats 4000000 in
set_option maxRecDepth 100000 in
theorem c_X11_steady_n (l : Launch) (G : GG) (h a_now a_kept a_reader a_flight a_latest a_now_edge a_now_bend a_now_rise a_now_wandering a_now_thrown a_now_alike a_now_law a_now_tape a_now_side : Nat) (x_isKept x_now_coins x_now_hands x_now_laws x_now_bytes x_now_sides : Int32) (f_now_law : Nat → Option Nat) (l1 : Int32) (l2 : Int32) (l3 : Int32) (l4 : Int32) (z : Int32) (hlaw : fX11_lawOf x_now_laws f_now_law l1 = some none) (hF : fX11_steady_n x_now_laws f_now_law l1 l2 l3 l4 = some (z)) : CMi l yX11_steady wsX11_steady rm_X11_steady_n G [o11 h a_now a_kept x_isKept a_reader a_flight a_latest, o6 a_now x_now_coins x_now_hands x_now_laws x_now_bytes x_now_sides a_now_edge a_now_bend a_now_rise a_now_wandering a_now_thrown a_now_alike a_now_law a_now_tape a_now_side, aT G a_now_law 8 f_now_law] [o11 h a_now a_kept x_isKept a_reader a_flight a_latest, o6 a_now x_now_coins x_now_hands x_now_laws x_now_bytes x_now_sides a_now_edge a_now_bend a_now_rise a_now_wandering a_now_thrown a_now_alike a_now_law a_now_tape a_now_side, aT G a_now_law 8 f_now_law] [.ref h, .int l1, .int l2, .int l3, .int l4] z := by
  refine cm_start (cc := cX11_steady) (maxL := 11) (ret := (some .int)) (Qc := fun A => QI G [o11 h a_now a_kept x_isKept a_reader a_flight a_latest, o6 a_now x_now_coins x_now_hands x_now_laws x_now_bytes x_now_sides a_now_edge a_now_bend a_now_rise a_now_wandering a_now_thrown a_now_alike a_now_law a_now_tape a_now_side, aT G a_now_law 8 f_now_law] z A) (by decide +kernel) rfl (Nat.le_of_ble_eq_true rfl) ?_
  intro p e s m args below meth c A hx hb hr hlk hml hown hnm hts hA H locs hP hK hD hE hS ls hl
  have hown : s.vm.findClass RX11 = some m.cls := hown
  have hl : lv_has ls 11 [(0, .ref h), (1, .int l1), (2, .int l2), (3, .int l3), (4, .int l4)] := hl
  revert hF
  intro hF
  unfold fX11_steady_n at hF
  refine lv_aload_n hx hb dX11_steady_0 rfl (lv_at hl 0 rfl) ?_
  refine lv_iload_n hx hb dX11_steady_1 rfl (lv_at hl 1 rfl) ?_
  have hPc := hP.sub (ws' := [o11 h a_now a_kept x_isKept a_reader a_flight a_latest, o6 a_now x_now_coins x_now_hands x_now_laws x_now_bytes x_now_sides a_now_edge a_now_bend a_now_rise a_now_wandering a_now_thrown a_now_alike a_now_law a_now_tape a_now_side, aT G a_now_law 8 f_now_law]) [0, 1, 2] rfl
  have hDc := hD.sub (ws' := [o11 h a_now a_kept x_isKept a_reader a_flight a_latest, o6 a_now x_now_coins x_now_hands x_now_laws x_now_bytes x_now_sides a_now_edge a_now_bend a_now_rise a_now_wandering a_now_thrown a_now_alike a_now_law a_now_tape a_now_side, aT G a_now_law 8 f_now_law]) [0, 1, 2] (by decide) rfl
  have hFc := va_free (wc := [o11 h a_now a_kept x_isKept a_reader a_flight a_latest, o6 a_now x_now_coins x_now_hands x_now_laws x_now_bytes x_now_sides a_now_edge a_now_bend a_now_rise a_now_wandering a_now_thrown a_now_alike a_now_law a_now_tape a_now_side, aT G a_now_law 8 f_now_law]) hD hS hA [0, 1, 2] rfl
  have hM := c_X11_lawOf l G h a_now a_kept a_reader a_flight a_latest a_now_edge a_now_bend a_now_rise a_now_wandering a_now_thrown a_now_alike a_now_law a_now_tape a_now_side x_isKept x_now_coins x_now_hands x_now_laws x_now_bytes x_now_sides f_now_law l1 none hlaw H.size
  refine cl_r (z := none) (w1 := [o11 h a_now a_kept x_isKept a_reader a_flight a_latest, o6 a_now x_now_coins x_now_hands x_now_laws x_now_bytes x_now_sides a_now_edge a_now_bend a_now_rise a_now_wandering a_now_thrown a_now_alike a_now_law a_now_tape a_now_side, aT G a_now_law 8 f_now_law]) (ws' := [o11 h a_now a_kept x_isKept a_reader a_flight a_latest, o6 a_now x_now_coins x_now_hands x_now_laws x_now_bytes x_now_sides a_now_edge a_now_bend a_now_rise a_now_wandering a_now_thrown a_now_alike a_now_law a_now_tape a_now_side, aT G a_now_law 8 f_now_law]) hP hD hS hFc [0, 1, 2] rfl rfl rfl (va_runV (As := [.int l1]) (rest := []) ⟨hx, hb, hml, hown, hts⟩ hM (cwV 1 hts gX11_steady_X11_lawOf rfl rfl rfl (by decide +kernel) ⟨Nat.le_of_ble_eq_true rfl, Nat.le_of_ble_eq_true rfl⟩) (cp_V hK hE hS hPc hDc hFc (va_recv hK hPc (ci := 11) (q0 := 0) rfl rfl)) rfl rfl hl.1 rfl (lv_room (Nat.le_of_ble_eq_true rfl)) dX11_steady_2 ⟨Nat.zero_le _, Nat.zero_le _⟩) (fun H locs hP hD hS => ?_)
  refine W.eq (g2 := F0 m 5 ls [.null]) rfl ?_
  refine lv_astoreN (lv' := [(5, .null), (0, .ref h), (1, .int l1), (2, .int l2), (3, .int l3), (4, .int l4)]) hx hb dX11_steady_5 hl (by decide) rfl (fun ls hl => ?_)
  refine lv_aloadN hx hb dX11_steady_7 (lv_at hl 0 rfl) ?_
  refine lv_ifnullN (tgt := 38) hx hb dX11_steady_9 (by decide) ?_
  refine lv_iconst (v := (-1)) hx hb dX11_steady_38 (by decide) ?_
  injection hF with hz
  subst hz
  exact cm_reti hx hb hr rfl hlk hK hP hD hS dX11_steady_39

/-! HeadsByHair.steady(IIII)I, s -/
abbrev rm_X11_steady_s : Room := { frames := 5, cells := 0, slots := 0, locals := 125 }
set_option maxHeartbeats 4000000 in
set_option maxRecDepth 100000 in
theorem c_X11_steady_s (l : Launch) (G : GG) (c_q : Nat) (hc_q : c_q = 0 ∨ c_q = 1 ∨ c_q = 4 ∨ c_q = 5 ∨ c_q = 7 ∨ c_q = 9 ∨ c_q = 10) (a_q a_q_steps h a_now a_kept a_reader a_flight a_latest a_now_edge a_now_bend a_now_rise a_now_wandering a_now_thrown a_now_alike a_now_law a_now_tape a_now_side : Nat) (x_q_kind x_q_number x_q_v x_q_caught x_isKept x_flight_hand x_flight_edge x_flight_bend x_flight_rise x_flight_last x_flight_tick x_flight_angle x_flight_lean x_now_coins x_now_hands x_now_laws x_now_bytes x_now_sides : Int32) (f_q_steps : Nat → Int32) (f_now_bend : Nat → Int32) (f_now_edge : Nat → Int32) (f_now_law : Nat → Option Nat) (n_q_steps : Nat) (l1 : Int32) (l2 : Int32) (l3 : Int32) (l4 : Int32) (z : Int32) (z_x_flight_hand : Int32) (z_x_flight_edge : Int32) (z_x_flight_bend : Int32) (z_x_flight_rise : Int32) (z_x_flight_last : Int32) (z_x_flight_tick : Int32) (z_x_flight_angle : Int32) (z_x_flight_lean : Int32) (hlaw : fX11_lawOf x_now_laws f_now_law l1 = some (some a_q)) (hF : fX11_steady_s n_q_steps c_q x_q_v x_q_caught x_flight_hand x_flight_edge x_flight_bend x_flight_rise x_flight_last x_flight_tick x_flight_angle x_flight_lean x_now_coins x_now_hands x_now_laws f_q_steps f_now_bend f_now_edge f_now_law l1 l2 l3 l4 = some (z, z_x_flight_hand, z_x_flight_edge, z_x_flight_bend, z_x_flight_rise, z_x_flight_last, z_x_flight_tick, z_x_flight_angle, z_x_flight_lean)) : CMi l yX11_steady wsX11_steady rm_X11_steady_s G [oT c_q a_q x_q_kind x_q_number x_q_v x_q_caught a_q_steps, o11 h a_now a_kept x_isKept a_reader a_flight a_latest, o2 a_flight x_flight_hand x_flight_edge x_flight_bend x_flight_rise x_flight_last x_flight_tick x_flight_angle x_flight_lean, o6 a_now x_now_coins x_now_hands x_now_laws x_now_bytes x_now_sides a_now_edge a_now_bend a_now_rise a_now_wandering a_now_thrown a_now_alike a_now_law a_now_tape a_now_side, aI G a_q_steps n_q_steps f_q_steps, aI G a_now_bend 6 f_now_bend, aI G a_now_edge 6 f_now_edge, aT G a_now_law 8 f_now_law] [oT c_q a_q x_q_kind x_q_number x_q_v x_q_caught a_q_steps, o11 h a_now a_kept x_isKept a_reader a_flight a_latest, o2 a_flight z_x_flight_hand z_x_flight_edge z_x_flight_bend z_x_flight_rise z_x_flight_last z_x_flight_tick z_x_flight_angle z_x_flight_lean, o6 a_now x_now_coins x_now_hands x_now_laws x_now_bytes x_now_sides a_now_edge a_now_bend a_now_rise a_now_wandering a_now_thrown a_now_alike a_now_law a_now_tape a_now_side, aI G a_q_steps n_q_steps f_q_steps, aI G a_now_bend 6 f_now_bend, aI G a_now_edge 6 f_now_edge, aT G a_now_law 8 f_now_law] [.ref h, .int l1, .int l2, .int l3, .int l4] z := by
  refine cm_start (cc := cX11_steady) (maxL := 11) (ret := (some .int)) (Qc := fun A => QI G [oT c_q a_q x_q_kind x_q_number x_q_v x_q_caught a_q_steps, o11 h a_now a_kept x_isKept a_reader a_flight a_latest, o2 a_flight z_x_flight_hand z_x_flight_edge z_x_flight_bend z_x_flight_rise z_x_flight_last z_x_flight_tick z_x_flight_angle z_x_flight_lean, o6 a_now x_now_coins x_now_hands x_now_laws x_now_bytes x_now_sides a_now_edge a_now_bend a_now_rise a_now_wandering a_now_thrown a_now_alike a_now_law a_now_tape a_now_side, aI G a_q_steps n_q_steps f_q_steps, aI G a_now_bend 6 f_now_bend, aI G a_now_edge 6 f_now_edge, aT G a_now_law 8 f_now_law] z A) (by decide +kernel) rfl (Nat.le_of_ble_eq_true rfl) ?_
  intro p e s m args below meth c A hx hb hr hlk hml hown hnm hts hA H locs hP hK hD hE hS ls hl
  have hown : s.vm.findClass RX11 = some m.cls := hown
  have hl : lv_has ls 11 [(0, .ref h), (1, .int l1), (2, .int l2), (3, .int l3), (4, .int l4)] := hl
  revert hF
  have LP53 : ∀ (l2 : Int32) (l3 : Int32) (l4 : Int32) (k116 : Int32 → Int32 → Int32 → Int32 → Int32 → Int32 → Int32 → Int32 → Int32 → Int32 → Option (Int32 × Int32 × Int32 × Int32 × Int32 × Int32 × Int32 × Int32 × Int32)) (hk116 : ∀ (x_flight_hand : Int32) (x_flight_edge : Int32) (x_flight_bend : Int32) (x_flight_rise : Int32) (x_flight_last : Int32) (x_flight_tick : Int32) (x_flight_angle : Int32) (x_flight_lean : Int32) (l6 : Int32) (l7 : Int32) (H : Heap) (locs : List Loc) (ls : Array Slot), va_P G.1 vwCl [oT c_q a_q x_q_kind x_q_number x_q_v x_q_caught a_q_steps, o11 h a_now a_kept x_isKept a_reader a_flight a_latest, o2 a_flight x_flight_hand x_flight_edge x_flight_bend x_flight_rise x_flight_last x_flight_tick x_flight_angle x_flight_lean, o6 a_now x_now_coins x_now_hands x_now_laws x_now_bytes x_now_sides a_now_edge a_now_bend a_now_rise a_now_wandering a_now_thrown a_now_alike a_now_law a_now_tape a_now_side, aI G a_q_steps n_q_steps f_q_steps, aI G a_now_bend 6 f_now_bend, aI G a_now_edge 6 f_now_edge, aT G a_now_law 8 f_now_law] H → va_D A [oT c_q a_q x_q_kind x_q_number x_q_v x_q_caught a_q_steps, o11 h a_now a_kept x_isKept a_reader a_flight a_latest, o2 a_flight x_flight_hand x_flight_edge x_flight_bend x_flight_rise x_flight_last x_flight_tick x_flight_angle x_flight_lean, o6 a_now x_now_coins x_now_hands x_now_laws x_now_bytes x_now_sides a_now_edge a_now_bend a_now_rise a_now_wandering a_now_thrown a_now_alike a_now_law a_now_tape a_now_side, aI G a_q_steps n_q_steps f_q_steps, aI G a_now_bend 6 f_now_bend, aI G a_now_edge 6 f_now_edge, aT G a_now_law 8 f_now_law] → va_S A s.heap H locs → lv_has ls 11 [(4, .int l4), (6, .int l6), (7, .int l7)] → k116 x_flight_hand x_flight_edge x_flight_bend x_flight_rise x_flight_last x_flight_tick x_flight_angle x_flight_lean l6 l7 = some (z, z_x_flight_hand, z_x_flight_edge, z_x_flight_bend, z_x_flight_rise, z_x_flight_last, z_x_flight_tick, z_x_flight_angle, z_x_flight_lean) → W p l e (rm_X11_steady_s) s m args below meth c H locs 0 0 (MQ below (QI G [oT c_q a_q x_q_kind x_q_number x_q_v x_q_caught a_q_steps, o11 h a_now a_kept x_isKept a_reader a_flight a_latest, o2 a_flight z_x_flight_hand z_x_flight_edge z_x_flight_bend z_x_flight_rise z_x_flight_last z_x_flight_tick z_x_flight_angle z_x_flight_lean, o6 a_now x_now_coins x_now_hands x_now_laws x_now_bytes x_now_sides a_now_edge a_now_bend a_now_rise a_now_wandering a_now_thrown a_now_alike a_now_law a_now_tape a_now_side, aI G a_q_steps n_q_steps f_q_steps, aI G a_now_bend 6 f_now_bend, aI G a_now_edge 6 f_now_edge, aT G a_now_law 8 f_now_law] z A) args s 0 0 A) (F0 m 116 ls [])) (n : Nat) (x_flight_hand : Int32) (x_flight_edge : Int32) (x_flight_bend : Int32) (x_flight_rise : Int32) (x_flight_last : Int32) (x_flight_tick : Int32) (x_flight_angle : Int32) (x_flight_lean : Int32) (l6 : Int32) (l7 : Int32) (l8 : Int32) (l9 : Int32) (H : Heap) (locs : List Loc) (ls : Array Slot), va_P G.1 vwCl [oT c_q a_q x_q_kind x_q_number x_q_v x_q_caught a_q_steps, o11 h a_now a_kept x_isKept a_reader a_flight a_latest, o2 a_flight x_flight_hand x_flight_edge x_flight_bend x_flight_rise x_flight_last x_flight_tick x_flight_angle x_flight_lean, o6 a_now x_now_coins x_now_hands x_now_laws x_now_bytes x_now_sides a_now_edge a_now_bend a_now_rise a_now_wandering a_now_thrown a_now_alike a_now_law a_now_tape a_now_side, aI G a_q_steps n_q_steps f_q_steps, aI G a_now_bend 6 f_now_bend, aI G a_now_edge 6 f_now_edge, aT G a_now_law 8 f_now_law] H → va_D A [oT c_q a_q x_q_kind x_q_number x_q_v x_q_caught a_q_steps, o11 h a_now a_kept x_isKept a_reader a_flight a_latest, o2 a_flight x_flight_hand x_flight_edge x_flight_bend x_flight_rise x_flight_last x_flight_tick x_flight_angle x_flight_lean, o6 a_now x_now_coins x_now_hands x_now_laws x_now_bytes x_now_sides a_now_edge a_now_bend a_now_rise a_now_wandering a_now_thrown a_now_alike a_now_law a_now_tape a_now_side, aI G a_q_steps n_q_steps f_q_steps, aI G a_now_bend 6 f_now_bend, aI G a_now_edge 6 f_now_edge, aT G a_now_law 8 f_now_law] → va_S A s.heap H locs → lv_has ls 11 [(0, .ref h), (2, .int l2), (3, .int l3), (4, .int l4), (5, .ref a_q), (6, .int l6), (7, .int l7), (8, .int l8), (9, .int l9)] → fX11_steady_s_L53 k116 n_q_steps c_q x_q_v x_q_caught x_now_coins x_now_hands x_now_laws f_q_steps f_now_bend f_now_edge f_now_law l2 l3 l4 n x_flight_hand x_flight_edge x_flight_bend x_flight_rise x_flight_last x_flight_tick x_flight_angle x_flight_lean l6 l7 l8 l9 = some (z, z_x_flight_hand, z_x_flight_edge, z_x_flight_bend, z_x_flight_rise, z_x_flight_last, z_x_flight_tick, z_x_flight_angle, z_x_flight_lean) → W p l e (rm_X11_steady_s) s m args below meth c H locs 0 0 (MQ below (QI G [oT c_q a_q x_q_kind x_q_number x_q_v x_q_caught a_q_steps, o11 h a_now a_kept x_isKept a_reader a_flight a_latest, o2 a_flight z_x_flight_hand z_x_flight_edge z_x_flight_bend z_x_flight_rise z_x_flight_last z_x_flight_tick z_x_flight_angle z_x_flight_lean, o6 a_now x_now_coins x_now_hands x_now_laws x_now_bytes x_now_sides a_now_edge a_now_bend a_now_rise a_now_wandering a_now_thrown a_now_alike a_now_law a_now_tape a_now_side, aI G a_q_steps n_q_steps f_q_steps, aI G a_now_bend 6 f_now_bend, aI G a_now_edge 6 f_now_edge, aT G a_now_law 8 f_now_law] z A) args s 0 0 A) (F0 m 53 ls []) := by
    intro l2 l3 l4 k116 hk116 n
    induction n with
    | zero =>
      intro x_flight_hand x_flight_edge x_flight_bend x_flight_rise x_flight_last x_flight_tick x_flight_angle x_flight_lean l6 l7 l8 l9 H locs ls hP hD hS hl hF
      cases hF
    | succ n ih =>
      have B82 : ∀ (x_flight_hand : Int32) (x_flight_edge : Int32) (x_flight_bend : Int32) (x_flight_rise : Int32) (x_flight_last : Int32) (x_flight_tick : Int32) (x_flight_angle : Int32) (x_flight_lean : Int32) (l6 : Int32) (l7 : Int32) (l8 : Int32) (l9 : Int32) (l10 : Int32) (H : Heap) (locs : List Loc) (ls : Array Slot), va_P G.1 vwCl [oT c_q a_q x_q_kind x_q_number x_q_v x_q_caught a_q_steps, o11 h a_now a_kept x_isKept a_reader a_flight a_latest, o2 a_flight x_flight_hand x_flight_edge x_flight_bend x_flight_rise x_flight_last x_flight_tick x_flight_angle x_flight_lean, o6 a_now x_now_coins x_now_hands x_now_laws x_now_bytes x_now_sides a_now_edge a_now_bend a_now_rise a_now_wandering a_now_thrown a_now_alike a_now_law a_now_tape a_now_side, aI G a_q_steps n_q_steps f_q_steps, aI G a_now_bend 6 f_now_bend, aI G a_now_edge 6 f_now_edge, aT G a_now_law 8 f_now_law] H → va_D A [oT c_q a_q x_q_kind x_q_number x_q_v x_q_caught a_q_steps, o11 h a_now a_kept x_isKept a_reader a_flight a_latest, o2 a_flight x_flight_hand x_flight_edge x_flight_bend x_flight_rise x_flight_last x_flight_tick x_flight_angle x_flight_lean, o6 a_now x_now_coins x_now_hands x_now_laws x_now_bytes x_now_sides a_now_edge a_now_bend a_now_rise a_now_wandering a_now_thrown a_now_alike a_now_law a_now_tape a_now_side, aI G a_q_steps n_q_steps f_q_steps, aI G a_now_bend 6 f_now_bend, aI G a_now_edge 6 f_now_edge, aT G a_now_law 8 f_now_law] → va_S A s.heap H locs → lv_has ls 11 [(0, .ref h), (2, .int l2), (3, .int l3), (4, .int l4), (5, .ref a_q), (6, .int l6), (7, .int l7), (8, .int l8), (9, .int l9), (10, .int l10)] → fX11_steady_s_b82 (fX11_steady_s_L53 k116 n_q_steps c_q x_q_v x_q_caught x_now_coins x_now_hands x_now_laws f_q_steps f_now_bend f_now_edge f_now_law l2 l3 l4 n) k116 n_q_steps c_q x_q_v x_q_caught x_flight_hand x_flight_edge x_flight_bend x_flight_rise x_flight_last x_flight_tick x_flight_angle x_flight_lean x_now_coins x_now_hands x_now_laws f_q_steps f_now_bend f_now_edge f_now_law l2 l3 l4 l6 l7 l8 l9 l10 = some (z, z_x_flight_hand, z_x_flight_edge, z_x_flight_bend, z_x_flight_rise, z_x_flight_last, z_x_flight_tick, z_x_flight_angle, z_x_flight_lean) → W p l e (rm_X11_steady_s) s m args below meth c H locs 0 0 (MQ below (QI G [oT c_q a_q x_q_kind x_q_number x_q_v x_q_caught a_q_steps, o11 h a_now a_kept x_isKept a_reader a_flight a_latest, o2 a_flight z_x_flight_hand z_x_flight_edge z_x_flight_bend z_x_flight_rise z_x_flight_last z_x_flight_tick z_x_flight_angle z_x_flight_lean, o6 a_now x_now_coins x_now_hands x_now_laws x_now_bytes x_now_sides a_now_edge a_now_bend a_now_rise a_now_wandering a_now_thrown a_now_alike a_now_law a_now_tape a_now_side, aI G a_q_steps n_q_steps f_q_steps, aI G a_now_bend 6 f_now_bend, aI G a_now_edge 6 f_now_edge, aT G a_now_law 8 f_now_law] z A) args s 0 0 A) (F0 m 82 ls []) := by
        intro x_flight_hand x_flight_edge x_flight_bend x_flight_rise x_flight_last x_flight_tick x_flight_angle x_flight_lean l6 l7 l8 l9 l10 H locs ls hP hD hS hl hF
        unfold fX11_steady_s_b82 at hF
        refine lv_iload hx hb dX11_steady_82 (lv_at hl 8 rfl) ?_
        refine lv_iconst (v := 1) hx hb dX11_steady_84 (by decide) ?_
        refine lv_icmp_le (tgt := 106) hx hb dX11_steady_85 (by decide) (fun c14 => ?_) (fun c14 => ?_)
        · rw [if_pos c14] at hF
          refine lv_iload hx hb dX11_steady_106 (lv_at hl 9 rfl) ?_
          refine lv_istore (lv' := [(8, .int l10), (0, .ref h), (2, .int l2), (3, .int l3), (4, .int l4), (5, .ref a_q), (6, .int l6), (7, .int l7), (9, .int l9), (10, .int l10)]) hx hb dX11_steady_108 hl (by decide) rfl (fun ls hl => ?_)
          refine lv_iinc (v := l9 + 1) (lv' := [(9, .int (l9 + 1)), (8, .int l10), (0, .ref h), (2, .int l2), (3, .int l3), (4, .int l4), (5, .ref a_q), (6, .int l6), (7, .int l7), (10, .int l10)]) hx hb dX11_steady_110 hl (k := 8) rfl rfl (by decide) rfl (fun ls hl => ?_)
          refine lv_goto (tgt := 53) hx hb dX11_steady_113 (by decide) ?_
          exact ih _ _ _ _ _ _ _ _ _ _ _ _ H locs ls hP hD hS (lv_sub hl [2, 3, 4, 5, 6, 7, 8, 1, 0] rfl) hF
        rw [if_neg c14] at hF
        refine lv_iload hx hb dX11_steady_88 (lv_at hl 9 rfl) ?_
        refine lv_iload hx hb dX11_steady_90 (lv_at hl 7 rfl) ?_
        refine lv_icmp_eq (tgt := 106) hx hb dX11_steady_92 (by decide) (fun c15 => ?_) (fun c15 => ?_)
        · rw [if_pos c15] at hF
          refine lv_iload hx hb dX11_steady_106 (lv_at hl 9 rfl) ?_
          refine lv_istore (lv' := [(8, .int l10), (0, .ref h), (2, .int l2), (3, .int l3), (4, .int l4), (5, .ref a_q), (6, .int l6), (7, .int l7), (9, .int l9), (10, .int l10)]) hx hb dX11_steady_108 hl (by decide) rfl (fun ls hl => ?_)
          refine lv_iinc (v := l9 + 1) (lv' := [(9, .int (l9 + 1)), (8, .int l10), (0, .ref h), (2, .int l2), (3, .int l3), (4, .int l4), (5, .ref a_q), (6, .int l6), (7, .int l7), (10, .int l10)]) hx hb dX11_steady_110 hl (k := 8) rfl rfl (by decide) rfl (fun ls hl => ?_)
          refine lv_goto (tgt := 53) hx hb dX11_steady_113 (by decide) ?_
          exact ih _ _ _ _ _ _ _ _ _ _ _ _ H locs ls hP hD hS (lv_sub hl [2, 3, 4, 5, 6, 7, 8, 1, 0] rfl) hF
        rw [if_neg c15] at hF
        refine lv_iload hx hb dX11_steady_95 (lv_at hl 6 rfl) ?_
        refine lv_bipush (v := (-5)) hx hb dX11_steady_97 (by decide) ?_
        refine lv_icmp_ne (tgt := 106) hx hb dX11_steady_99 (by decide) (fun c16 => ?_) (fun c16 => ?_)
        · rw [if_neg c16] at hF
          refine lv_iload hx hb dX11_steady_106 (lv_at hl 9 rfl) ?_
          refine lv_istore (lv' := [(8, .int l10), (0, .ref h), (2, .int l2), (3, .int l3), (4, .int l4), (5, .ref a_q), (6, .int l6), (7, .int l7), (9, .int l9), (10, .int l10)]) hx hb dX11_steady_108 hl (by decide) rfl (fun ls hl => ?_)
          refine lv_iinc (v := l9 + 1) (lv' := [(9, .int (l9 + 1)), (8, .int l10), (0, .ref h), (2, .int l2), (3, .int l3), (4, .int l4), (5, .ref a_q), (6, .int l6), (7, .int l7), (10, .int l10)]) hx hb dX11_steady_110 hl (k := 8) rfl rfl (by decide) rfl (fun ls hl => ?_)
          refine lv_goto (tgt := 53) hx hb dX11_steady_113 (by decide) ?_
          exact ih _ _ _ _ _ _ _ _ _ _ _ _ H locs ls hP hD hS (lv_sub hl [2, 3, 4, 5, 6, 7, 8, 1, 0] rfl) hF
        rw [if_pos c16] at hF
        refine lv_iload hx hb dX11_steady_102 (lv_at hl 8 rfl) ?_
        refine lv_istore (lv' := [(7, .int l9), (0, .ref h), (2, .int l2), (3, .int l3), (4, .int l4), (5, .ref a_q), (6, .int l6), (8, .int l8), (9, .int l9), (10, .int l10)]) hx hb dX11_steady_104 hl (by decide) rfl (fun ls hl => ?_)
        refine lv_iload hx hb dX11_steady_106 (lv_at hl 9 rfl) ?_
        refine lv_istore (lv' := [(8, .int l10), (7, .int l9), (0, .ref h), (2, .int l2), (3, .int l3), (4, .int l4), (5, .ref a_q), (6, .int l6), (9, .int l9), (10, .int l10)]) hx hb dX11_steady_108 hl (by decide) rfl (fun ls hl => ?_)
        refine W.eq (g2 := F0 m 110 ls []) rfl ?_
        refine lv_iinc (v := l9 + 1) (lv' := [(9, .int (l9 + 1)), (8, .int l10), (7, .int l9), (0, .ref h), (2, .int l2), (3, .int l3), (4, .int l4), (5, .ref a_q), (6, .int l6), (10, .int l10)]) hx hb dX11_steady_110 hl (k := 8) rfl rfl (by decide) rfl (fun ls hl => ?_)
        refine lv_goto (tgt := 53) hx hb dX11_steady_113 (by decide) ?_
        exact ih _ _ _ _ _ _ _ _ _ _ _ _ H locs ls hP hD hS (lv_sub hl [3, 4, 5, 6, 7, 8, 2, 1, 0] rfl) hF
      intro x_flight_hand x_flight_edge x_flight_bend x_flight_rise x_flight_last x_flight_tick x_flight_angle x_flight_lean l6 l7 l8 l9 H locs ls hP hD hS hl hF
      rw [fX11_steady_s_L53] at hF
      refine lv_iload hx hb dX11_steady_53 (lv_at hl 8 rfl) ?_
      refine lv_bipush (v := 40) hx hb dX11_steady_55 (by decide) ?_
      refine lv_icmp_gt (tgt := 116) hx hb dX11_steady_57 (by decide) (fun c10 => ?_) (fun c10 => ?_)
      · rw [if_pos c10] at hF
        exact hk116 _ _ _ _ _ _ _ _ _ _ H locs ls hP hD hS (lv_sub hl [3, 5, 6] rfl) hF
      rw [if_neg c10] at hF
      refine lv_aload_n hx hb dX11_steady_60 rfl (lv_at hl 0 rfl) ?_
      refine lv_aload hx hb dX11_steady_61 (lv_at hl 4 rfl) ?_
      refine lv_iload_n hx hb dX11_steady_63 rfl (lv_at hl 1 rfl) ?_
      refine lv_iload_n hx hb dX11_steady_64 rfl (lv_at hl 2 rfl) ?_
      refine lv_iload hx hb dX11_steady_65 (lv_at hl 8 rfl) ?_
      refine lv_iconst (v := 1) hx hb dX11_steady_67 (by decide) ?_
      obtain ⟨r11, hc12, hF⟩ := bd_some hF
      have hPc := hP.sub (ws' := [oT c_q a_q x_q_kind x_q_number x_q_v x_q_caught a_q_steps, o11 h a_now a_kept x_isKept a_reader a_flight a_latest, o2 a_flight x_flight_hand x_flight_edge x_flight_bend x_flight_rise x_flight_last x_flight_tick x_flight_angle x_flight_lean, o6 a_now x_now_coins x_now_hands x_now_laws x_now_bytes x_now_sides a_now_edge a_now_bend a_now_rise a_now_wandering a_now_thrown a_now_alike a_now_law a_now_tape a_now_side, aI G a_q_steps n_q_steps f_q_steps, aI G a_now_bend 6 f_now_bend, aI G a_now_edge 6 f_now_edge]) [0, 1, 2, 3, 4, 5, 6] rfl
      have hDc := hD.sub (ws' := [oT c_q a_q x_q_kind x_q_number x_q_v x_q_caught a_q_steps, o11 h a_now a_kept x_isKept a_reader a_flight a_latest, o2 a_flight x_flight_hand x_flight_edge x_flight_bend x_flight_rise x_flight_last x_flight_tick x_flight_angle x_flight_lean, o6 a_now x_now_coins x_now_hands x_now_laws x_now_bytes x_now_sides a_now_edge a_now_bend a_now_rise a_now_wandering a_now_thrown a_now_alike a_now_law a_now_tape a_now_side, aI G a_q_steps n_q_steps f_q_steps, aI G a_now_bend 6 f_now_bend, aI G a_now_edge 6 f_now_edge]) [0, 1, 2, 3, 4, 5, 6] (by decide) rfl
      have hFc := va_free (wc := [oT c_q a_q x_q_kind x_q_number x_q_v x_q_caught a_q_steps, o11 h a_now a_kept x_isKept a_reader a_flight a_latest, o2 a_flight x_flight_hand x_flight_edge x_flight_bend x_flight_rise x_flight_last x_flight_tick x_flight_angle x_flight_lean, o6 a_now x_now_coins x_now_hands x_now_laws x_now_bytes x_now_sides a_now_edge a_now_bend a_now_rise a_now_wandering a_now_thrown a_now_alike a_now_law a_now_tape a_now_side, aI G a_q_steps n_q_steps f_q_steps, aI G a_now_bend 6 f_now_bend, aI G a_now_edge 6 f_now_edge]) hD hS hA [0, 1, 2, 3, 4, 5, 6] rfl
      have hM := c_X11_comes l G c_q (by omega) a_q a_q_steps h a_now a_kept a_reader a_flight a_latest a_now_edge a_now_bend a_now_rise a_now_wandering a_now_thrown a_now_alike a_now_law a_now_tape a_now_side x_q_kind x_q_number x_q_v x_q_caught x_isKept x_flight_hand x_flight_edge x_flight_bend x_flight_rise x_flight_last x_flight_tick x_flight_angle x_flight_lean x_now_coins x_now_hands x_now_laws x_now_bytes x_now_sides f_q_steps f_now_bend f_now_edge n_q_steps l2 l3 l9 (1 : Int32) r11.1 r11.2.1 r11.2.2.1 r11.2.2.2.1 r11.2.2.2.2.1 r11.2.2.2.2.2.1 r11.2.2.2.2.2.2.1 r11.2.2.2.2.2.2.2.1 r11.2.2.2.2.2.2.2.2 hc12 H.size
      refine cl_i (w1 := [oT c_q a_q x_q_kind x_q_number x_q_v x_q_caught a_q_steps, o11 h a_now a_kept x_isKept a_reader a_flight a_latest, o2 a_flight r11.2.1 r11.2.2.1 r11.2.2.2.1 r11.2.2.2.2.1 r11.2.2.2.2.2.1 r11.2.2.2.2.2.2.1 r11.2.2.2.2.2.2.2.1 r11.2.2.2.2.2.2.2.2, o6 a_now x_now_coins x_now_hands x_now_laws x_now_bytes x_now_sides a_now_edge a_now_bend a_now_rise a_now_wandering a_now_thrown a_now_alike a_now_law a_now_tape a_now_side, aI G a_q_steps n_q_steps f_q_steps, aI G a_now_bend 6 f_now_bend, aI G a_now_edge 6 f_now_edge]) (ws' := [oT c_q a_q x_q_kind x_q_number x_q_v x_q_caught a_q_steps, o11 h a_now a_kept x_isKept a_reader a_flight a_latest, o2 a_flight r11.2.1 r11.2.2.1 r11.2.2.2.1 r11.2.2.2.2.1 r11.2.2.2.2.2.1 r11.2.2.2.2.2.2.1 r11.2.2.2.2.2.2.2.1 r11.2.2.2.2.2.2.2.2, o6 a_now x_now_coins x_now_hands x_now_laws x_now_bytes x_now_sides a_now_edge a_now_bend a_now_rise a_now_wandering a_now_thrown a_now_alike a_now_law a_now_tape a_now_side, aI G a_q_steps n_q_steps f_q_steps, aI G a_now_bend 6 f_now_bend, aI G a_now_edge 6 f_now_edge, aT G a_now_law 8 f_now_law]) hP hD hS hFc [0, 1, 2, 3, 4, 5, 6] rfl rfl rfl (va_runV (As := [.ref a_q, .int l2, .int l3, .int l9, .int 1]) (rest := []) ⟨hx, hb, hml, hown, hts⟩ hM (cwV 5 hts gX11_steady_X11_comes rfl rfl rfl (by decide +kernel) ⟨Nat.le_of_ble_eq_true rfl, Nat.le_of_ble_eq_true rfl⟩) (cp_V hK hE hS hPc hDc hFc (va_recv hK hPc (ci := 11) (q0 := 1) rfl rfl)) rfl rfl hl.1 rfl (lv_room (Nat.le_of_ble_eq_true rfl)) dX11_steady_68 ⟨Nat.zero_le _, Nat.zero_le _⟩) (fun H locs hP hD hS => ?_)
      refine lv_istore (lv' := [(10, .int r11.1), (0, .ref h), (2, .int l2), (3, .int l3), (4, .int l4), (5, .ref a_q), (6, .int l6), (7, .int l7), (8, .int l8), (9, .int l9)]) hx hb dX11_steady_71 hl (by decide) rfl (fun ls hl => ?_)
      refine lv_iload hx hb dX11_steady_73 (lv_at hl 0 rfl) ?_
      refine lv_iconst (v := 1) hx hb dX11_steady_75 (by decide) ?_
      refine W.eq (g2 := F0 m 76 ls [.int 1, .int r11.1]) rfl ?_
      refine lv_icmp_ne (tgt := 82) hx hb dX11_steady_76 (by decide) (fun c13 => ?_) (fun c13 => ?_)
      · rw [if_neg c13] at hF
        exact B82 _ _ _ _ _ _ _ _ _ _ _ _ _ H locs ls hP hD hS (lv_sub hl [1, 2, 3, 4, 5, 6, 7, 8, 9, 0] rfl) hF
      rw [if_pos c13] at hF
      refine lv_iinc (v := l6 + 1) (lv' := [(6, .int (l6 + 1)), (10, .int r11.1), (0, .ref h), (2, .int l2), (3, .int l3), (4, .int l4), (5, .ref a_q), (7, .int l7), (8, .int l8), (9, .int l9)]) hx hb dX11_steady_79 hl (k := 6) rfl rfl (by decide) rfl (fun ls hl => ?_)
      exact B82 _ _ _ _ _ _ _ _ _ _ _ _ _ H locs ls hP hD hS (lv_sub hl [2, 3, 4, 5, 6, 0, 7, 8, 9, 1] rfl) hF
  intro hF
  unfold fX11_steady_s at hF
  refine lv_aload_n hx hb dX11_steady_0 rfl (lv_at hl 0 rfl) ?_
  refine lv_iload_n hx hb dX11_steady_1 rfl (lv_at hl 1 rfl) ?_
  have hPc := hP.sub (ws' := [o11 h a_now a_kept x_isKept a_reader a_flight a_latest, o6 a_now x_now_coins x_now_hands x_now_laws x_now_bytes x_now_sides a_now_edge a_now_bend a_now_rise a_now_wandering a_now_thrown a_now_alike a_now_law a_now_tape a_now_side, aT G a_now_law 8 f_now_law]) [1, 3, 7] rfl
  have hDc := hD.sub (ws' := [o11 h a_now a_kept x_isKept a_reader a_flight a_latest, o6 a_now x_now_coins x_now_hands x_now_laws x_now_bytes x_now_sides a_now_edge a_now_bend a_now_rise a_now_wandering a_now_thrown a_now_alike a_now_law a_now_tape a_now_side, aT G a_now_law 8 f_now_law]) [1, 3, 7] (by decide) rfl
  have hFc := va_free (wc := [o11 h a_now a_kept x_isKept a_reader a_flight a_latest, o6 a_now x_now_coins x_now_hands x_now_laws x_now_bytes x_now_sides a_now_edge a_now_bend a_now_rise a_now_wandering a_now_thrown a_now_alike a_now_law a_now_tape a_now_side, aT G a_now_law 8 f_now_law]) hD hS hA [1, 3, 7] rfl
  have hM := c_X11_lawOf l G h a_now a_kept a_reader a_flight a_latest a_now_edge a_now_bend a_now_rise a_now_wandering a_now_thrown a_now_alike a_now_law a_now_tape a_now_side x_isKept x_now_coins x_now_hands x_now_laws x_now_bytes x_now_sides f_now_law l1 (some a_q) hlaw H.size
  refine cl_r (z := (some a_q)) (w1 := [o11 h a_now a_kept x_isKept a_reader a_flight a_latest, o6 a_now x_now_coins x_now_hands x_now_laws x_now_bytes x_now_sides a_now_edge a_now_bend a_now_rise a_now_wandering a_now_thrown a_now_alike a_now_law a_now_tape a_now_side, aT G a_now_law 8 f_now_law]) (ws' := [oT c_q a_q x_q_kind x_q_number x_q_v x_q_caught a_q_steps, o11 h a_now a_kept x_isKept a_reader a_flight a_latest, o2 a_flight x_flight_hand x_flight_edge x_flight_bend x_flight_rise x_flight_last x_flight_tick x_flight_angle x_flight_lean, o6 a_now x_now_coins x_now_hands x_now_laws x_now_bytes x_now_sides a_now_edge a_now_bend a_now_rise a_now_wandering a_now_thrown a_now_alike a_now_law a_now_tape a_now_side, aI G a_q_steps n_q_steps f_q_steps, aI G a_now_bend 6 f_now_bend, aI G a_now_edge 6 f_now_edge, aT G a_now_law 8 f_now_law]) hP hD hS hFc [1, 3, 7] rfl rfl rfl (va_runV (As := [.int l1]) (rest := []) ⟨hx, hb, hml, hown, hts⟩ hM (cwV 1 hts gX11_steady_X11_lawOf rfl rfl rfl (by decide +kernel) ⟨Nat.le_of_ble_eq_true rfl, Nat.le_of_ble_eq_true rfl⟩) (cp_V hK hE hS hPc hDc hFc (va_recv hK hPc (ci := 11) (q0 := 0) rfl rfl)) rfl rfl hl.1 rfl (lv_room (Nat.le_of_ble_eq_true rfl)) dX11_steady_2 ⟨Nat.zero_le _, Nat.zero_le _⟩) (fun H locs hP hD hS => ?_)
  refine W.eq (g2 := F0 m 5 ls [.ref a_q]) rfl ?_
  refine lv_astore (lv' := [(5, .ref a_q), (0, .ref h), (1, .int l1), (2, .int l2), (3, .int l3), (4, .int l4)]) hx hb dX11_steady_5 hl (by decide) rfl (fun ls hl => ?_)
  refine lv_aload hx hb dX11_steady_7 (lv_at hl 0 rfl) ?_
  refine lv_ifnull hx hb dX11_steady_9 ?_
  refine lv_aload_n hx hb dX11_steady_12 rfl (lv_at hl 1 rfl) ?_
  refine lv_iload_n hx hb dX11_steady_13 rfl (lv_at hl 3 rfl) ?_
  obtain ⟨r1, hc2, hF⟩ := bd_some hF
  have hPc := hP.sub (ws' := [o11 h a_now a_kept x_isKept a_reader a_flight a_latest, o6 a_now x_now_coins x_now_hands x_now_laws x_now_bytes x_now_sides a_now_edge a_now_bend a_now_rise a_now_wandering a_now_thrown a_now_alike a_now_law a_now_tape a_now_side]) [1, 3] rfl
  have hDc := hD.sub (ws' := [o11 h a_now a_kept x_isKept a_reader a_flight a_latest, o6 a_now x_now_coins x_now_hands x_now_laws x_now_bytes x_now_sides a_now_edge a_now_bend a_now_rise a_now_wandering a_now_thrown a_now_alike a_now_law a_now_tape a_now_side]) [1, 3] (by decide) rfl
  have hFc := va_free (wc := [o11 h a_now a_kept x_isKept a_reader a_flight a_latest, o6 a_now x_now_coins x_now_hands x_now_laws x_now_bytes x_now_sides a_now_edge a_now_bend a_now_rise a_now_wandering a_now_thrown a_now_alike a_now_law a_now_tape a_now_side]) hD hS hA [1, 3] rfl
  have hM := c_X11_isHand l G h a_now a_kept a_reader a_flight a_latest a_now_edge a_now_bend a_now_rise a_now_wandering a_now_thrown a_now_alike a_now_law a_now_tape a_now_side x_isKept x_now_coins x_now_hands x_now_laws x_now_bytes x_now_sides l2 r1 hc2 H.size
  refine cl_i (w1 := [o11 h a_now a_kept x_isKept a_reader a_flight a_latest, o6 a_now x_now_coins x_now_hands x_now_laws x_now_bytes x_now_sides a_now_edge a_now_bend a_now_rise a_now_wandering a_now_thrown a_now_alike a_now_law a_now_tape a_now_side]) (ws' := [oT c_q a_q x_q_kind x_q_number x_q_v x_q_caught a_q_steps, o11 h a_now a_kept x_isKept a_reader a_flight a_latest, o2 a_flight x_flight_hand x_flight_edge x_flight_bend x_flight_rise x_flight_last x_flight_tick x_flight_angle x_flight_lean, o6 a_now x_now_coins x_now_hands x_now_laws x_now_bytes x_now_sides a_now_edge a_now_bend a_now_rise a_now_wandering a_now_thrown a_now_alike a_now_law a_now_tape a_now_side, aI G a_q_steps n_q_steps f_q_steps, aI G a_now_bend 6 f_now_bend, aI G a_now_edge 6 f_now_edge, aT G a_now_law 8 f_now_law]) hP hD hS hFc [1, 3] rfl rfl rfl (va_runV (As := [.int l2]) (rest := []) ⟨hx, hb, hml, hown, hts⟩ hM (cwV 1 hts gX11_steady_X11_isHand rfl rfl rfl (by decide +kernel) ⟨Nat.le_of_ble_eq_true rfl, Nat.le_of_ble_eq_true rfl⟩) (cp_V hK hE hS hPc hDc hFc (va_recv hK hPc (ci := 11) (q0 := 0) rfl rfl)) rfl rfl hl.1 rfl (lv_room (Nat.le_of_ble_eq_true rfl)) dX11_steady_14 ⟨Nat.zero_le _, Nat.zero_le _⟩) (fun H locs hP hD hS => ?_)
  refine lv_if_eq (tgt := 38) hx hb dX11_steady_17 (by decide) (fun c3 => ?_) (fun c3 => ?_)
  · rw [if_pos c3] at hF
    refine lv_iconst (v := (-1)) hx hb dX11_steady_38 (by decide) ?_
    injection hF with hz
    injection hz with hq0 hz
    injection hz with hq1 hz
    injection hz with hq2 hz
    injection hz with hq3 hz
    injection hz with hq4 hz
    injection hz with hq5 hz
    injection hz with hq6 hz
    injection hz with hq7 hz
    subst hq0
    subst hq1
    subst hq2
    subst hq3
    subst hq4
    subst hq5
    subst hq6
    subst hq7
    subst hz
    exact cm_reti hx hb hr rfl hlk hK hP hD hS dX11_steady_39
  rw [if_neg c3] at hF
  refine lv_aload_n hx hb dX11_steady_20 rfl (lv_at hl 1 rfl) ?_
  refine lv_iload_n hx hb dX11_steady_21 rfl (lv_at hl 4 rfl) ?_
  obtain ⟨r4, hc5, hF⟩ := bd_some hF
  have hPc := hP.sub (ws' := [o11 h a_now a_kept x_isKept a_reader a_flight a_latest, o6 a_now x_now_coins x_now_hands x_now_laws x_now_bytes x_now_sides a_now_edge a_now_bend a_now_rise a_now_wandering a_now_thrown a_now_alike a_now_law a_now_tape a_now_side]) [1, 3] rfl
  have hDc := hD.sub (ws' := [o11 h a_now a_kept x_isKept a_reader a_flight a_latest, o6 a_now x_now_coins x_now_hands x_now_laws x_now_bytes x_now_sides a_now_edge a_now_bend a_now_rise a_now_wandering a_now_thrown a_now_alike a_now_law a_now_tape a_now_side]) [1, 3] (by decide) rfl
  have hFc := va_free (wc := [o11 h a_now a_kept x_isKept a_reader a_flight a_latest, o6 a_now x_now_coins x_now_hands x_now_laws x_now_bytes x_now_sides a_now_edge a_now_bend a_now_rise a_now_wandering a_now_thrown a_now_alike a_now_law a_now_tape a_now_side]) hD hS hA [1, 3] rfl
  have hM := c_X11_isCoin l G h a_now a_kept a_reader a_flight a_latest a_now_edge a_now_bend a_now_rise a_now_wandering a_now_thrown a_now_alike a_now_law a_now_tape a_now_side x_isKept x_now_coins x_now_hands x_now_laws x_now_bytes x_now_sides l3 r4 hc5 H.size
  refine cl_i (w1 := [o11 h a_now a_kept x_isKept a_reader a_flight a_latest, o6 a_now x_now_coins x_now_hands x_now_laws x_now_bytes x_now_sides a_now_edge a_now_bend a_now_rise a_now_wandering a_now_thrown a_now_alike a_now_law a_now_tape a_now_side]) (ws' := [oT c_q a_q x_q_kind x_q_number x_q_v x_q_caught a_q_steps, o11 h a_now a_kept x_isKept a_reader a_flight a_latest, o2 a_flight x_flight_hand x_flight_edge x_flight_bend x_flight_rise x_flight_last x_flight_tick x_flight_angle x_flight_lean, o6 a_now x_now_coins x_now_hands x_now_laws x_now_bytes x_now_sides a_now_edge a_now_bend a_now_rise a_now_wandering a_now_thrown a_now_alike a_now_law a_now_tape a_now_side, aI G a_q_steps n_q_steps f_q_steps, aI G a_now_bend 6 f_now_bend, aI G a_now_edge 6 f_now_edge, aT G a_now_law 8 f_now_law]) hP hD hS hFc [1, 3] rfl rfl rfl (va_runV (As := [.int l3]) (rest := []) ⟨hx, hb, hml, hown, hts⟩ hM (cwV 1 hts gX11_steady_X11_isCoin rfl rfl rfl (by decide +kernel) ⟨Nat.le_of_ble_eq_true rfl, Nat.le_of_ble_eq_true rfl⟩) (cp_V hK hE hS hPc hDc hFc (va_recv hK hPc (ci := 11) (q0 := 0) rfl rfl)) rfl rfl hl.1 rfl (lv_room (Nat.le_of_ble_eq_true rfl)) dX11_steady_22 ⟨Nat.zero_le _, Nat.zero_le _⟩) (fun H locs hP hD hS => ?_)
  refine W.eq (g2 := F0 m 25 ls [.int r4]) rfl ?_
  refine lv_if_eq (tgt := 38) hx hb dX11_steady_25 (by decide) (fun c6 => ?_) (fun c6 => ?_)
  · rw [if_pos c6] at hF
    refine lv_iconst (v := (-1)) hx hb dX11_steady_38 (by decide) ?_
    injection hF with hz
    injection hz with hq0 hz
    injection hz with hq1 hz
    injection hz with hq2 hz
    injection hz with hq3 hz
    injection hz with hq4 hz
    injection hz with hq5 hz
    injection hz with hq6 hz
    injection hz with hq7 hz
    subst hq0
    subst hq1
    subst hq2
    subst hq3
    subst hq4
    subst hq5
    subst hq6
    subst hq7
    subst hz
    exact cm_reti hx hb hr rfl hlk hK hP hD hS dX11_steady_39
  rw [if_neg c6] at hF
  refine lv_iload hx hb dX11_steady_28 (lv_at hl 5 rfl) ?_
  refine lv_iconst (v := 0) hx hb dX11_steady_30 (by decide) ?_
  refine lv_iconst (v := 1) hx hb dX11_steady_31 (by decide) ?_
  obtain ⟨r7, hc8, hF⟩ := bd_some hF
  have hPc := hP.sub (ws' := []) [] rfl
  have hDc := hD.sub (ws' := []) [] (by decide) rfl
  have hFc := va_free (wc := []) hD hS hA [] rfl
  have hM := c_X11_isWithin l G l4 (0 : Int32) (1 : Int32) r7 hc8 H.size
  refine cl_i (w1 := []) (ws' := [oT c_q a_q x_q_kind x_q_number x_q_v x_q_caught a_q_steps, o11 h a_now a_kept x_isKept a_reader a_flight a_latest, o2 a_flight x_flight_hand x_flight_edge x_flight_bend x_flight_rise x_flight_last x_flight_tick x_flight_angle x_flight_lean, o6 a_now x_now_coins x_now_hands x_now_laws x_now_bytes x_now_sides a_now_edge a_now_bend a_now_rise a_now_wandering a_now_thrown a_now_alike a_now_law a_now_tape a_now_side, aI G a_q_steps n_q_steps f_q_steps, aI G a_now_bend 6 f_now_bend, aI G a_now_edge 6 f_now_edge, aT G a_now_law 8 f_now_law]) hP hD hS hFc [] rfl rfl rfl (va_runS (As := [.int l4, .int 0, .int 1]) (rest := []) ⟨hx, hb, hml, hown, hts⟩ hM (va_cwS 3 hts gX11_steady_X11_isWithin rfl rfl rfl (by decide +kernel) ⟨Nat.le_of_ble_eq_true rfl, Nat.le_of_ble_eq_true rfl⟩) (cp_S hK hE hS hPc hDc hFc) rfl rfl hl.1 rfl (lv_room (Nat.le_of_ble_eq_true rfl)) dX11_steady_32 ⟨Nat.zero_le _, Nat.zero_le _⟩) (fun H locs hP hD hS => ?_)
  refine lv_if_ne (tgt := 40) hx hb dX11_steady_35 (by decide) (fun c9 => ?_) (fun c9 => ?_)
  · rw [if_neg c9] at hF
    refine lv_iconst (v := 0) hx hb dX11_steady_40 (by decide) ?_
    refine lv_istore (lv' := [(6, .int 0), (5, .ref a_q), (0, .ref h), (1, .int l1), (2, .int l2), (3, .int l3), (4, .int l4)]) hx hb dX11_steady_41 hl (by decide) rfl (fun ls hl => ?_)
    refine lv_bipush (v := (-5)) hx hb dX11_steady_43 (by decide) ?_
    refine lv_istore (lv' := [(7, .int (-5)), (6, .int 0), (5, .ref a_q), (0, .ref h), (1, .int l1), (2, .int l2), (3, .int l3), (4, .int l4)]) hx hb dX11_steady_45 hl (by decide) rfl (fun ls hl => ?_)
    refine lv_iconst (v := 0) hx hb dX11_steady_47 (by decide) ?_
    refine lv_istore (lv' := [(8, .int 0), (7, .int (-5)), (6, .int 0), (5, .ref a_q), (0, .ref h), (1, .int l1), (2, .int l2), (3, .int l3), (4, .int l4)]) hx hb dX11_steady_48 hl (by decide) rfl (fun ls hl => ?_)
    refine lv_iconst (v := 1) hx hb dX11_steady_50 (by decide) ?_
    refine lv_istore (lv' := [(9, .int 1), (8, .int 0), (7, .int (-5)), (6, .int 0), (5, .ref a_q), (0, .ref h), (1, .int l1), (2, .int l2), (3, .int l3), (4, .int l4)]) hx hb dX11_steady_51 hl (by decide) rfl (fun ls hl => ?_)
    refine LP53 _ _ _ _ (fun x_flight_hand_17 x_flight_edge_18 x_flight_bend_19 x_flight_rise_20 x_flight_last_21 x_flight_tick_22 x_flight_angle_23 x_flight_lean_24 l6_25 l7_26 H locs ls hP hD hS hl hF => ?_) _ _ _ _ _ _ _ _ _ _ _ _ _ H locs ls hP hD hS (lv_sub hl [5, 7, 8, 9, 4, 3, 2, 1, 0] rfl) hF
    refine W.eq (g2 := F0 m 116 ls []) rfl ?_
    refine lv_iload hx hb dX11_steady_116 (lv_at hl 0 rfl) ?_
    refine lv_if_ne (tgt := 126) hx hb dX11_steady_118 (by decide) (fun c27 => ?_) (fun c27 => ?_)
    · rw [if_neg c27] at hF
      refine lv_iload hx hb dX11_steady_126 (lv_at hl 2 rfl) ?_
      injection hF with hz
      injection hz with hq0 hz
      injection hz with hq1 hz
      injection hz with hq2 hz
      injection hz with hq3 hz
      injection hz with hq4 hz
      injection hz with hq5 hz
      injection hz with hq6 hz
      injection hz with hq7 hz
      subst hq0
      subst hq1
      subst hq2
      subst hq3
      subst hq4
      subst hq5
      subst hq6
      subst hq7
      subst hz
      exact cm_reti hx hb hr rfl hlk hK hP hD hS dX11_steady_128
    rw [if_pos c27] at hF
    refine lv_iload hx hb dX11_steady_121 (lv_at hl 1 rfl) ?_
    refine lv_goto (tgt := 128) hx hb dX11_steady_123 (by decide) ?_
    injection hF with hz
    injection hz with hq0 hz
    injection hz with hq1 hz
    injection hz with hq2 hz
    injection hz with hq3 hz
    injection hz with hq4 hz
    injection hz with hq5 hz
    injection hz with hq6 hz
    injection hz with hq7 hz
    subst hq0
    subst hq1
    subst hq2
    subst hq3
    subst hq4
    subst hq5
    subst hq6
    subst hq7
    subst hz
    exact cm_reti hx hb hr rfl hlk hK hP hD hS dX11_steady_128
  rw [if_pos c9] at hF
  refine lv_iconst (v := (-1)) hx hb dX11_steady_38 (by decide) ?_
  injection hF with hz
  injection hz with hq0 hz
  injection hz with hq1 hz
  injection hz with hq2 hz
  injection hz with hq3 hz
  injection hz with hq4 hz
  injection hz with hq5 hz
  injection hz with hq6 hz
  injection hz with hq7 hz
  subst hq0
  subst hq1
  subst hq2
  subst hq3
  subst hq4
  subst hq5
  subst hq6
  subst hq7
  subst hz
  exact cm_reti hx hb hr rfl hlk hK hP hD hS dX11_steady_39

/-! HeadsByHair.worth(IIII)I, n -/
abbrev rm_X11_worth_n : Room := { frames := 2, cells := 0, slots := 0, locals := 43 }
set_option maxHeartbeats 4000000 in
set_option maxRecDepth 100000 in
theorem c_X11_worth_n (l : Launch) (G : GG) (h a_now a_kept a_reader a_flight a_latest a_now_edge a_now_bend a_now_rise a_now_wandering a_now_thrown a_now_alike a_now_law a_now_tape a_now_side : Nat) (x_isKept x_now_coins x_now_hands x_now_laws x_now_bytes x_now_sides : Int32) (f_now_law : Nat → Option Nat) (l1 : Int32) (l2 : Int32) (l3 : Int32) (l4 : Int32) (z : Int32) (hlaw : fX11_lawOf x_now_laws f_now_law l1 = some none) (hF : fX11_worth_n x_now_laws f_now_law l1 l2 l3 l4 = some (z)) : CMi l yX11_worth wsX11_worth rm_X11_worth_n G [o11 h a_now a_kept x_isKept a_reader a_flight a_latest, o6 a_now x_now_coins x_now_hands x_now_laws x_now_bytes x_now_sides a_now_edge a_now_bend a_now_rise a_now_wandering a_now_thrown a_now_alike a_now_law a_now_tape a_now_side, aT G a_now_law 8 f_now_law] [o11 h a_now a_kept x_isKept a_reader a_flight a_latest, o6 a_now x_now_coins x_now_hands x_now_laws x_now_bytes x_now_sides a_now_edge a_now_bend a_now_rise a_now_wandering a_now_thrown a_now_alike a_now_law a_now_tape a_now_side, aT G a_now_law 8 f_now_law] [.ref h, .int l1, .int l2, .int l3, .int l4] z := by
  refine cm_start (cc := cX11_worth) (maxL := 9) (ret := (some .int)) (Qc := fun A => QI G [o11 h a_now a_kept x_isKept a_reader a_flight a_latest, o6 a_now x_now_coins x_now_hands x_now_laws x_now_bytes x_now_sides a_now_edge a_now_bend a_now_rise a_now_wandering a_now_thrown a_now_alike a_now_law a_now_tape a_now_side, aT G a_now_law 8 f_now_law] z A) (by decide +kernel) rfl (Nat.le_of_ble_eq_true rfl) ?_
  intro p e s m args below meth c A hx hb hr hlk hml hown hnm hts hA H locs hP hK hD hE hS ls hl
  have hown : s.vm.findClass RX11 = some m.cls := hown
  have hl : lv_has ls 9 [(0, .ref h), (1, .int l1), (2, .int l2), (3, .int l3), (4, .int l4)] := hl
  revert hF
  intro hF
  unfold fX11_worth_n at hF
  refine lv_aload_n hx hb dX11_worth_0 rfl (lv_at hl 0 rfl) ?_
  refine lv_iload_n hx hb dX11_worth_1 rfl (lv_at hl 1 rfl) ?_
  have hPc := hP.sub (ws' := [o11 h a_now a_kept x_isKept a_reader a_flight a_latest, o6 a_now x_now_coins x_now_hands x_now_laws x_now_bytes x_now_sides a_now_edge a_now_bend a_now_rise a_now_wandering a_now_thrown a_now_alike a_now_law a_now_tape a_now_side, aT G a_now_law 8 f_now_law]) [0, 1, 2] rfl
  have hDc := hD.sub (ws' := [o11 h a_now a_kept x_isKept a_reader a_flight a_latest, o6 a_now x_now_coins x_now_hands x_now_laws x_now_bytes x_now_sides a_now_edge a_now_bend a_now_rise a_now_wandering a_now_thrown a_now_alike a_now_law a_now_tape a_now_side, aT G a_now_law 8 f_now_law]) [0, 1, 2] (by decide) rfl
  have hFc := va_free (wc := [o11 h a_now a_kept x_isKept a_reader a_flight a_latest, o6 a_now x_now_coins x_now_hands x_now_laws x_now_bytes x_now_sides a_now_edge a_now_bend a_now_rise a_now_wandering a_now_thrown a_now_alike a_now_law a_now_tape a_now_side, aT G a_now_law 8 f_now_law]) hD hS hA [0, 1, 2] rfl
  have hM := c_X11_lawOf l G h a_now a_kept a_reader a_flight a_latest a_now_edge a_now_bend a_now_rise a_now_wandering a_now_thrown a_now_alike a_now_law a_now_tape a_now_side x_isKept x_now_coins x_now_hands x_now_laws x_now_bytes x_now_sides f_now_law l1 none hlaw H.size
  refine cl_r (z := none) (w1 := [o11 h a_now a_kept x_isKept a_reader a_flight a_latest, o6 a_now x_now_coins x_now_hands x_now_laws x_now_bytes x_now_sides a_now_edge a_now_bend a_now_rise a_now_wandering a_now_thrown a_now_alike a_now_law a_now_tape a_now_side, aT G a_now_law 8 f_now_law]) (ws' := [o11 h a_now a_kept x_isKept a_reader a_flight a_latest, o6 a_now x_now_coins x_now_hands x_now_laws x_now_bytes x_now_sides a_now_edge a_now_bend a_now_rise a_now_wandering a_now_thrown a_now_alike a_now_law a_now_tape a_now_side, aT G a_now_law 8 f_now_law]) hP hD hS hFc [0, 1, 2] rfl rfl rfl (va_runV (As := [.int l1]) (rest := []) ⟨hx, hb, hml, hown, hts⟩ hM (cwV 1 hts gX11_worth_X11_lawOf rfl rfl rfl (by decide +kernel) ⟨Nat.le_of_ble_eq_true rfl, Nat.le_of_ble_eq_true rfl⟩) (cp_V hK hE hS hPc hDc hFc (va_recv hK hPc (ci := 11) (q0 := 0) rfl rfl)) rfl rfl hl.1 rfl (lv_room (Nat.le_of_ble_eq_true rfl)) dX11_worth_2 ⟨Nat.zero_le _, Nat.zero_le _⟩) (fun H locs hP hD hS => ?_)
  refine W.eq (g2 := F0 m 5 ls [.null]) rfl ?_
  refine lv_astoreN (lv' := [(5, .null), (0, .ref h), (1, .int l1), (2, .int l2), (3, .int l3), (4, .int l4)]) hx hb dX11_worth_5 hl (by decide) rfl (fun ls hl => ?_)
  refine lv_aloadN hx hb dX11_worth_7 (lv_at hl 0 rfl) ?_
  refine lv_ifnullN (tgt := 28) hx hb dX11_worth_9 (by decide) ?_
  refine lv_sipush (v := (-1001)) hx hb dX11_worth_28 (by decide) ?_
  injection hF with hz
  subst hz
  exact cm_reti hx hb hr rfl hlk hK hP hD hS dX11_worth_31

/-! HeadsByHair.worth(IIII)I, s -/
abbrev rm_X11_worth_s : Room := { frames := 6, cells := 0, slots := 0, locals := 153 }
set_option maxHeartbeats 4000000 in
set_option maxRecDepth 100000 in
theorem c_X11_worth_s (l : Launch) (G : GG) (c_q : Nat) (hc_q : c_q = 0 ∨ c_q = 1 ∨ c_q = 4 ∨ c_q = 5 ∨ c_q = 7 ∨ c_q = 9 ∨ c_q = 10) (a_q a_q_steps h a_now a_kept a_reader a_flight a_latest a_now_edge a_now_bend a_now_rise a_now_wandering a_now_thrown a_now_alike a_now_law a_now_tape a_now_side : Nat) (x_q_kind x_q_number x_q_v x_q_caught x_isKept x_flight_hand x_flight_edge x_flight_bend x_flight_rise x_flight_last x_flight_tick x_flight_angle x_flight_lean x_now_coins x_now_hands x_now_laws x_now_bytes x_now_sides : Int32) (f_q_steps : Nat → Int32) (f_now_bend : Nat → Int32) (f_now_edge : Nat → Int32) (f_now_law : Nat → Option Nat) (f_now_rise : Nat → Int32) (f_now_wandering : Nat → Int32) (n_q_steps : Nat) (l1 : Int32) (l2 : Int32) (l3 : Int32) (l4 : Int32) (z : Int32) (z_x_flight_hand : Int32) (z_x_flight_edge : Int32) (z_x_flight_bend : Int32) (z_x_flight_rise : Int32) (z_x_flight_last : Int32) (z_x_flight_tick : Int32) (z_x_flight_angle : Int32) (z_x_flight_lean : Int32) (hlaw : fX11_lawOf x_now_laws f_now_law l1 = some (some a_q)) (hF : fX11_worth_s n_q_steps c_q x_q_v x_q_caught x_flight_hand x_flight_edge x_flight_bend x_flight_rise x_flight_last x_flight_tick x_flight_angle x_flight_lean x_now_coins x_now_hands x_now_laws f_q_steps f_now_bend f_now_edge f_now_law f_now_rise f_now_wandering l1 l2 l3 l4 = some (z, z_x_flight_hand, z_x_flight_edge, z_x_flight_bend, z_x_flight_rise, z_x_flight_last, z_x_flight_tick, z_x_flight_angle, z_x_flight_lean)) : CMi l yX11_worth wsX11_worth rm_X11_worth_s G [oT c_q a_q x_q_kind x_q_number x_q_v x_q_caught a_q_steps, o11 h a_now a_kept x_isKept a_reader a_flight a_latest, o2 a_flight x_flight_hand x_flight_edge x_flight_bend x_flight_rise x_flight_last x_flight_tick x_flight_angle x_flight_lean, o6 a_now x_now_coins x_now_hands x_now_laws x_now_bytes x_now_sides a_now_edge a_now_bend a_now_rise a_now_wandering a_now_thrown a_now_alike a_now_law a_now_tape a_now_side, aI G a_q_steps n_q_steps f_q_steps, aI G a_now_bend 6 f_now_bend, aI G a_now_edge 6 f_now_edge, aT G a_now_law 8 f_now_law, aI G a_now_rise 6 f_now_rise, aI G a_now_wandering 6 f_now_wandering] [oT c_q a_q x_q_kind x_q_number x_q_v x_q_caught a_q_steps, o11 h a_now a_kept x_isKept a_reader a_flight a_latest, o2 a_flight z_x_flight_hand z_x_flight_edge z_x_flight_bend z_x_flight_rise z_x_flight_last z_x_flight_tick z_x_flight_angle z_x_flight_lean, o6 a_now x_now_coins x_now_hands x_now_laws x_now_bytes x_now_sides a_now_edge a_now_bend a_now_rise a_now_wandering a_now_thrown a_now_alike a_now_law a_now_tape a_now_side, aI G a_q_steps n_q_steps f_q_steps, aI G a_now_bend 6 f_now_bend, aI G a_now_edge 6 f_now_edge, aT G a_now_law 8 f_now_law, aI G a_now_rise 6 f_now_rise, aI G a_now_wandering 6 f_now_wandering] [.ref h, .int l1, .int l2, .int l3, .int l4] z := by
  refine cm_start (cc := cX11_worth) (maxL := 9) (ret := (some .int)) (Qc := fun A => QI G [oT c_q a_q x_q_kind x_q_number x_q_v x_q_caught a_q_steps, o11 h a_now a_kept x_isKept a_reader a_flight a_latest, o2 a_flight z_x_flight_hand z_x_flight_edge z_x_flight_bend z_x_flight_rise z_x_flight_last z_x_flight_tick z_x_flight_angle z_x_flight_lean, o6 a_now x_now_coins x_now_hands x_now_laws x_now_bytes x_now_sides a_now_edge a_now_bend a_now_rise a_now_wandering a_now_thrown a_now_alike a_now_law a_now_tape a_now_side, aI G a_q_steps n_q_steps f_q_steps, aI G a_now_bend 6 f_now_bend, aI G a_now_edge 6 f_now_edge, aT G a_now_law 8 f_now_law, aI G a_now_rise 6 f_now_rise, aI G a_now_wandering 6 f_now_wandering] z A) (by decide +kernel) rfl (Nat.le_of_ble_eq_true rfl) ?_
  intro p e s m args below meth c A hx hb hr hlk hml hown hnm hts hA H locs hP hK hD hE hS ls hl
  have hown : s.vm.findClass RX11 = some m.cls := hown
  have hl : lv_has ls 9 [(0, .ref h), (1, .int l1), (2, .int l2), (3, .int l3), (4, .int l4)] := hl
  have hin11 : ∀ w ∈ wsX110, w ∈ wsX11_worth := by decide +kernel
  have lk_12 := hts (.fieldLink RX11 12 "HeadsByHair" "now" "LHeadsByHair$Stock;") (by decide +kernel)
  have lm_215 := hts (.methodLink RX11 215 Lib.Math.abs.name) (by decide +kernel)
  have ms_abs := hts (.static Lib.Math.abs.name) (by decide +kernel)
  have mi := hts (.initialized "java/lang/Math") (by decide +kernel)
  have mc_abs := hts (.code Lib.Math.abs.name Lib.Math.abs.code 1 (some .int)) (by decide +kernel)
  revert hF
  intro hF
  unfold fX11_worth_s at hF
  refine lv_aload_n hx hb dX11_worth_0 rfl (lv_at hl 0 rfl) ?_
  refine lv_iload_n hx hb dX11_worth_1 rfl (lv_at hl 1 rfl) ?_
  have hPc := hP.sub (ws' := [o11 h a_now a_kept x_isKept a_reader a_flight a_latest, o6 a_now x_now_coins x_now_hands x_now_laws x_now_bytes x_now_sides a_now_edge a_now_bend a_now_rise a_now_wandering a_now_thrown a_now_alike a_now_law a_now_tape a_now_side, aT G a_now_law 8 f_now_law]) [1, 3, 7] rfl
  have hDc := hD.sub (ws' := [o11 h a_now a_kept x_isKept a_reader a_flight a_latest, o6 a_now x_now_coins x_now_hands x_now_laws x_now_bytes x_now_sides a_now_edge a_now_bend a_now_rise a_now_wandering a_now_thrown a_now_alike a_now_law a_now_tape a_now_side, aT G a_now_law 8 f_now_law]) [1, 3, 7] (by decide) rfl
  have hFc := va_free (wc := [o11 h a_now a_kept x_isKept a_reader a_flight a_latest, o6 a_now x_now_coins x_now_hands x_now_laws x_now_bytes x_now_sides a_now_edge a_now_bend a_now_rise a_now_wandering a_now_thrown a_now_alike a_now_law a_now_tape a_now_side, aT G a_now_law 8 f_now_law]) hD hS hA [1, 3, 7] rfl
  have hM := c_X11_lawOf l G h a_now a_kept a_reader a_flight a_latest a_now_edge a_now_bend a_now_rise a_now_wandering a_now_thrown a_now_alike a_now_law a_now_tape a_now_side x_isKept x_now_coins x_now_hands x_now_laws x_now_bytes x_now_sides f_now_law l1 (some a_q) hlaw H.size
  refine cl_r (z := (some a_q)) (w1 := [o11 h a_now a_kept x_isKept a_reader a_flight a_latest, o6 a_now x_now_coins x_now_hands x_now_laws x_now_bytes x_now_sides a_now_edge a_now_bend a_now_rise a_now_wandering a_now_thrown a_now_alike a_now_law a_now_tape a_now_side, aT G a_now_law 8 f_now_law]) (ws' := [oT c_q a_q x_q_kind x_q_number x_q_v x_q_caught a_q_steps, o11 h a_now a_kept x_isKept a_reader a_flight a_latest, o2 a_flight x_flight_hand x_flight_edge x_flight_bend x_flight_rise x_flight_last x_flight_tick x_flight_angle x_flight_lean, o6 a_now x_now_coins x_now_hands x_now_laws x_now_bytes x_now_sides a_now_edge a_now_bend a_now_rise a_now_wandering a_now_thrown a_now_alike a_now_law a_now_tape a_now_side, aI G a_q_steps n_q_steps f_q_steps, aI G a_now_bend 6 f_now_bend, aI G a_now_edge 6 f_now_edge, aT G a_now_law 8 f_now_law, aI G a_now_rise 6 f_now_rise, aI G a_now_wandering 6 f_now_wandering]) hP hD hS hFc [1, 3, 7] rfl rfl rfl (va_runV (As := [.int l1]) (rest := []) ⟨hx, hb, hml, hown, hts⟩ hM (cwV 1 hts gX11_worth_X11_lawOf rfl rfl rfl (by decide +kernel) ⟨Nat.le_of_ble_eq_true rfl, Nat.le_of_ble_eq_true rfl⟩) (cp_V hK hE hS hPc hDc hFc (va_recv hK hPc (ci := 11) (q0 := 0) rfl rfl)) rfl rfl hl.1 rfl (lv_room (Nat.le_of_ble_eq_true rfl)) dX11_worth_2 ⟨Nat.zero_le _, Nat.zero_le _⟩) (fun H locs hP hD hS => ?_)
  refine W.eq (g2 := F0 m 5 ls [.ref a_q]) rfl ?_
  refine lv_astore (lv' := [(5, .ref a_q), (0, .ref h), (1, .int l1), (2, .int l2), (3, .int l3), (4, .int l4)]) hx hb dX11_worth_5 hl (by decide) rfl (fun ls hl => ?_)
  refine lv_aload hx hb dX11_worth_7 (lv_at hl 0 rfl) ?_
  refine lv_ifnull hx hb dX11_worth_9 ?_
  refine lv_aload_n hx hb dX11_worth_12 rfl (lv_at hl 1 rfl) ?_
  refine lv_iload_n hx hb dX11_worth_13 rfl (lv_at hl 3 rfl) ?_
  obtain ⟨r1, hc2, hF⟩ := bd_some hF
  have hPc := hP.sub (ws' := [o11 h a_now a_kept x_isKept a_reader a_flight a_latest, o6 a_now x_now_coins x_now_hands x_now_laws x_now_bytes x_now_sides a_now_edge a_now_bend a_now_rise a_now_wandering a_now_thrown a_now_alike a_now_law a_now_tape a_now_side]) [1, 3] rfl
  have hDc := hD.sub (ws' := [o11 h a_now a_kept x_isKept a_reader a_flight a_latest, o6 a_now x_now_coins x_now_hands x_now_laws x_now_bytes x_now_sides a_now_edge a_now_bend a_now_rise a_now_wandering a_now_thrown a_now_alike a_now_law a_now_tape a_now_side]) [1, 3] (by decide) rfl
  have hFc := va_free (wc := [o11 h a_now a_kept x_isKept a_reader a_flight a_latest, o6 a_now x_now_coins x_now_hands x_now_laws x_now_bytes x_now_sides a_now_edge a_now_bend a_now_rise a_now_wandering a_now_thrown a_now_alike a_now_law a_now_tape a_now_side]) hD hS hA [1, 3] rfl
  have hM := c_X11_isHand l G h a_now a_kept a_reader a_flight a_latest a_now_edge a_now_bend a_now_rise a_now_wandering a_now_thrown a_now_alike a_now_law a_now_tape a_now_side x_isKept x_now_coins x_now_hands x_now_laws x_now_bytes x_now_sides l2 r1 hc2 H.size
  refine cl_i (w1 := [o11 h a_now a_kept x_isKept a_reader a_flight a_latest, o6 a_now x_now_coins x_now_hands x_now_laws x_now_bytes x_now_sides a_now_edge a_now_bend a_now_rise a_now_wandering a_now_thrown a_now_alike a_now_law a_now_tape a_now_side]) (ws' := [oT c_q a_q x_q_kind x_q_number x_q_v x_q_caught a_q_steps, o11 h a_now a_kept x_isKept a_reader a_flight a_latest, o2 a_flight x_flight_hand x_flight_edge x_flight_bend x_flight_rise x_flight_last x_flight_tick x_flight_angle x_flight_lean, o6 a_now x_now_coins x_now_hands x_now_laws x_now_bytes x_now_sides a_now_edge a_now_bend a_now_rise a_now_wandering a_now_thrown a_now_alike a_now_law a_now_tape a_now_side, aI G a_q_steps n_q_steps f_q_steps, aI G a_now_bend 6 f_now_bend, aI G a_now_edge 6 f_now_edge, aT G a_now_law 8 f_now_law, aI G a_now_rise 6 f_now_rise, aI G a_now_wandering 6 f_now_wandering]) hP hD hS hFc [1, 3] rfl rfl rfl (va_runV (As := [.int l2]) (rest := []) ⟨hx, hb, hml, hown, hts⟩ hM (cwV 1 hts gX11_worth_X11_isHand rfl rfl rfl (by decide +kernel) ⟨Nat.le_of_ble_eq_true rfl, Nat.le_of_ble_eq_true rfl⟩) (cp_V hK hE hS hPc hDc hFc (va_recv hK hPc (ci := 11) (q0 := 0) rfl rfl)) rfl rfl hl.1 rfl (lv_room (Nat.le_of_ble_eq_true rfl)) dX11_worth_14 ⟨Nat.zero_le _, Nat.zero_le _⟩) (fun H locs hP hD hS => ?_)
  refine lv_if_eq (tgt := 28) hx hb dX11_worth_17 (by decide) (fun c3 => ?_) (fun c3 => ?_)
  · rw [if_pos c3] at hF
    refine lv_sipush (v := (-1001)) hx hb dX11_worth_28 (by decide) ?_
    injection hF with hz
    injection hz with hq0 hz
    injection hz with hq1 hz
    injection hz with hq2 hz
    injection hz with hq3 hz
    injection hz with hq4 hz
    injection hz with hq5 hz
    injection hz with hq6 hz
    injection hz with hq7 hz
    subst hq0
    subst hq1
    subst hq2
    subst hq3
    subst hq4
    subst hq5
    subst hq6
    subst hq7
    subst hz
    exact cm_reti hx hb hr rfl hlk hK hP hD hS dX11_worth_31
  rw [if_neg c3] at hF
  refine lv_aload_n hx hb dX11_worth_20 rfl (lv_at hl 1 rfl) ?_
  refine lv_iload_n hx hb dX11_worth_21 rfl (lv_at hl 4 rfl) ?_
  obtain ⟨r4, hc5, hF⟩ := bd_some hF
  have hPc := hP.sub (ws' := [o11 h a_now a_kept x_isKept a_reader a_flight a_latest, o6 a_now x_now_coins x_now_hands x_now_laws x_now_bytes x_now_sides a_now_edge a_now_bend a_now_rise a_now_wandering a_now_thrown a_now_alike a_now_law a_now_tape a_now_side]) [1, 3] rfl
  have hDc := hD.sub (ws' := [o11 h a_now a_kept x_isKept a_reader a_flight a_latest, o6 a_now x_now_coins x_now_hands x_now_laws x_now_bytes x_now_sides a_now_edge a_now_bend a_now_rise a_now_wandering a_now_thrown a_now_alike a_now_law a_now_tape a_now_side]) [1, 3] (by decide) rfl
  have hFc := va_free (wc := [o11 h a_now a_kept x_isKept a_reader a_flight a_latest, o6 a_now x_now_coins x_now_hands x_now_laws x_now_bytes x_now_sides a_now_edge a_now_bend a_now_rise a_now_wandering a_now_thrown a_now_alike a_now_law a_now_tape a_now_side]) hD hS hA [1, 3] rfl
  have hM := c_X11_isCoin l G h a_now a_kept a_reader a_flight a_latest a_now_edge a_now_bend a_now_rise a_now_wandering a_now_thrown a_now_alike a_now_law a_now_tape a_now_side x_isKept x_now_coins x_now_hands x_now_laws x_now_bytes x_now_sides l3 r4 hc5 H.size
  refine cl_i (w1 := [o11 h a_now a_kept x_isKept a_reader a_flight a_latest, o6 a_now x_now_coins x_now_hands x_now_laws x_now_bytes x_now_sides a_now_edge a_now_bend a_now_rise a_now_wandering a_now_thrown a_now_alike a_now_law a_now_tape a_now_side]) (ws' := [oT c_q a_q x_q_kind x_q_number x_q_v x_q_caught a_q_steps, o11 h a_now a_kept x_isKept a_reader a_flight a_latest, o2 a_flight x_flight_hand x_flight_edge x_flight_bend x_flight_rise x_flight_last x_flight_tick x_flight_angle x_flight_lean, o6 a_now x_now_coins x_now_hands x_now_laws x_now_bytes x_now_sides a_now_edge a_now_bend a_now_rise a_now_wandering a_now_thrown a_now_alike a_now_law a_now_tape a_now_side, aI G a_q_steps n_q_steps f_q_steps, aI G a_now_bend 6 f_now_bend, aI G a_now_edge 6 f_now_edge, aT G a_now_law 8 f_now_law, aI G a_now_rise 6 f_now_rise, aI G a_now_wandering 6 f_now_wandering]) hP hD hS hFc [1, 3] rfl rfl rfl (va_runV (As := [.int l3]) (rest := []) ⟨hx, hb, hml, hown, hts⟩ hM (cwV 1 hts gX11_worth_X11_isCoin rfl rfl rfl (by decide +kernel) ⟨Nat.le_of_ble_eq_true rfl, Nat.le_of_ble_eq_true rfl⟩) (cp_V hK hE hS hPc hDc hFc (va_recv hK hPc (ci := 11) (q0 := 0) rfl rfl)) rfl rfl hl.1 rfl (lv_room (Nat.le_of_ble_eq_true rfl)) dX11_worth_22 ⟨Nat.zero_le _, Nat.zero_le _⟩) (fun H locs hP hD hS => ?_)
  refine W.eq (g2 := F0 m 25 ls [.int r4]) rfl ?_
  refine lv_if_ne (tgt := 32) hx hb dX11_worth_25 (by decide) (fun c6 => ?_) (fun c6 => ?_)
  · rw [if_neg c6] at hF
    refine lv_iload hx hb dX11_worth_32 (lv_at hl 5 rfl) ?_
    obtain ⟨r7, hc8, hF⟩ := bd_some hF
    have hPc := hP.sub (ws' := []) [] rfl
    have hDc := hD.sub (ws' := []) [] (by decide) rfl
    have hFc := va_free (wc := []) hD hS hA [] rfl
    have hM := c_X11_isPercent l G l4 r7 hc8 H.size
    refine cl_i (w1 := []) (ws' := [oT c_q a_q x_q_kind x_q_number x_q_v x_q_caught a_q_steps, o11 h a_now a_kept x_isKept a_reader a_flight a_latest, o2 a_flight x_flight_hand x_flight_edge x_flight_bend x_flight_rise x_flight_last x_flight_tick x_flight_angle x_flight_lean, o6 a_now x_now_coins x_now_hands x_now_laws x_now_bytes x_now_sides a_now_edge a_now_bend a_now_rise a_now_wandering a_now_thrown a_now_alike a_now_law a_now_tape a_now_side, aI G a_q_steps n_q_steps f_q_steps, aI G a_now_bend 6 f_now_bend, aI G a_now_edge 6 f_now_edge, aT G a_now_law 8 f_now_law, aI G a_now_rise 6 f_now_rise, aI G a_now_wandering 6 f_now_wandering]) hP hD hS hFc [] rfl rfl rfl (va_runS (As := [.int l4]) (rest := []) ⟨hx, hb, hml, hown, hts⟩ hM (va_cwS 1 hts gX11_worth_X11_isPercent rfl rfl rfl (by decide +kernel) ⟨Nat.le_of_ble_eq_true rfl, Nat.le_of_ble_eq_true rfl⟩) (cp_S hK hE hS hPc hDc hFc) rfl rfl hl.1 rfl (lv_room (Nat.le_of_ble_eq_true rfl)) dX11_worth_34 ⟨Nat.zero_le _, Nat.zero_le _⟩) (fun H locs hP hD hS => ?_)
    refine lv_if_ne (tgt := 44) hx hb dX11_worth_37 (by decide) (fun c9 => ?_) (fun c9 => ?_)
    · rw [if_neg c9] at hF
      refine lv_aload_n hx hb dX11_worth_44 rfl (lv_at hl 1 rfl) ?_
      refine va_get (D := G.1) (ci := 11) (v := .ref a_now) (C := RX11) (T := TX11) (N := 6) hx hb hts hin11 hown hK hP 1 rfl rfl 0 (by decide) lk_12 (fun _ h9 => h9) rfl dX11_worth_45 ?_
      refine lv_iload_n hx hb dX11_worth_48 rfl (lv_at hl 3 rfl) ?_
      obtain ⟨r10, hc11, hF⟩ := bd_some hF
      have hPc := hP.sub (ws' := [o6 a_now x_now_coins x_now_hands x_now_laws x_now_bytes x_now_sides a_now_edge a_now_bend a_now_rise a_now_wandering a_now_thrown a_now_alike a_now_law a_now_tape a_now_side, aI G a_now_wandering 6 f_now_wandering]) [3, 9] rfl
      have hDc := hD.sub (ws' := [o6 a_now x_now_coins x_now_hands x_now_laws x_now_bytes x_now_sides a_now_edge a_now_bend a_now_rise a_now_wandering a_now_thrown a_now_alike a_now_law a_now_tape a_now_side, aI G a_now_wandering 6 f_now_wandering]) [3, 9] (by decide) rfl
      have hFc := va_free (wc := [o6 a_now x_now_coins x_now_hands x_now_laws x_now_bytes x_now_sides a_now_edge a_now_bend a_now_rise a_now_wandering a_now_thrown a_now_alike a_now_law a_now_tape a_now_side, aI G a_now_wandering 6 f_now_wandering]) hD hS hA [3, 9] rfl
      have hM := c_X6_rises l G a_now a_now_edge a_now_bend a_now_rise a_now_wandering a_now_thrown a_now_alike a_now_law a_now_tape a_now_side x_now_coins x_now_hands x_now_laws x_now_bytes x_now_sides f_now_wandering l2 r10 hc11 H.size
      refine cl_i (w1 := [o6 a_now x_now_coins x_now_hands x_now_laws x_now_bytes x_now_sides a_now_edge a_now_bend a_now_rise a_now_wandering a_now_thrown a_now_alike a_now_law a_now_tape a_now_side, aI G a_now_wandering 6 f_now_wandering]) (ws' := [oT c_q a_q x_q_kind x_q_number x_q_v x_q_caught a_q_steps, o11 h a_now a_kept x_isKept a_reader a_flight a_latest, o2 a_flight x_flight_hand x_flight_edge x_flight_bend x_flight_rise x_flight_last x_flight_tick x_flight_angle x_flight_lean, o6 a_now x_now_coins x_now_hands x_now_laws x_now_bytes x_now_sides a_now_edge a_now_bend a_now_rise a_now_wandering a_now_thrown a_now_alike a_now_law a_now_tape a_now_side, aI G a_q_steps n_q_steps f_q_steps, aI G a_now_bend 6 f_now_bend, aI G a_now_edge 6 f_now_edge, aT G a_now_law 8 f_now_law, aI G a_now_rise 6 f_now_rise, aI G a_now_wandering 6 f_now_wandering]) hP hD hS hFc [3, 9] rfl rfl rfl (va_runVN (As := [.int l2]) (rest := []) ⟨hx, hb, hml, hown, hts⟩ hM ⟨va_cnB 1 hts gX11_worth_X6_rises_n162 rfl rfl rfl (hE.nw (.methodLinkNest RX11 162 yX6_rises "HeadsByHair") (by decide +kernel)) (hts (.initialized RX6) (by decide +kernel)) (by decide +kernel) ⟨Nat.le_of_ble_eq_true rfl, Nat.le_of_ble_eq_true rfl⟩, hts (.instanceMethod yX6_rises) (by decide +kernel), hts (.selects RX6 yX6_rises yX6_rises) (by decide +kernel)⟩ (cp_V hK hE hS hPc hDc hFc (va_recv hK hPc (ci := 6) (q0 := 0) rfl rfl)) rfl rfl hl.1 rfl (lv_room (Nat.le_of_ble_eq_true rfl)) dX11_worth_49 ⟨Nat.zero_le _, Nat.zero_le _⟩) (fun H locs hP hD hS => ?_)
      refine lv_istore (lv' := [(6, .int r10), (5, .ref a_q), (0, .ref h), (1, .int l1), (2, .int l2), (3, .int l3), (4, .int l4)]) hx hb dX11_worth_52 hl (by decide) rfl (fun ls hl => ?_)
      refine lv_aload_n hx hb dX11_worth_54 rfl (lv_at hl 2 rfl) ?_
      refine lv_aload hx hb dX11_worth_55 (lv_at hl 1 rfl) ?_
      refine lv_iload_n hx hb dX11_worth_57 rfl (lv_at hl 4 rfl) ?_
      refine lv_iload_n hx hb dX11_worth_58 rfl (lv_at hl 5 rfl) ?_
      refine lv_iconst (v := 1) hx hb dX11_worth_59 (by decide) ?_
      refine W.eq (g2 := F0 m 60 ls [.int 1, .int l3, .int l2, .ref a_q, .ref h]) rfl ?_
      obtain ⟨r12, hc13, hF⟩ := bd_some hF
      have hPc := hP.sub (ws' := [oT c_q a_q x_q_kind x_q_number x_q_v x_q_caught a_q_steps, o11 h a_now a_kept x_isKept a_reader a_flight a_latest, o2 a_flight x_flight_hand x_flight_edge x_flight_bend x_flight_rise x_flight_last x_flight_tick x_flight_angle x_flight_lean, o6 a_now x_now_coins x_now_hands x_now_laws x_now_bytes x_now_sides a_now_edge a_now_bend a_now_rise a_now_wandering a_now_thrown a_now_alike a_now_law a_now_tape a_now_side, aI G a_q_steps n_q_steps f_q_steps, aI G a_now_bend 6 f_now_bend, aI G a_now_edge 6 f_now_edge, aI G a_now_rise 6 f_now_rise, aI G a_now_wandering 6 f_now_wandering]) [0, 1, 2, 3, 4, 5, 6, 8, 9] rfl
      have hDc := hD.sub (ws' := [oT c_q a_q x_q_kind x_q_number x_q_v x_q_caught a_q_steps, o11 h a_now a_kept x_isKept a_reader a_flight a_latest, o2 a_flight x_flight_hand x_flight_edge x_flight_bend x_flight_rise x_flight_last x_flight_tick x_flight_angle x_flight_lean, o6 a_now x_now_coins x_now_hands x_now_laws x_now_bytes x_now_sides a_now_edge a_now_bend a_now_rise a_now_wandering a_now_thrown a_now_alike a_now_law a_now_tape a_now_side, aI G a_q_steps n_q_steps f_q_steps, aI G a_now_bend 6 f_now_bend, aI G a_now_edge 6 f_now_edge, aI G a_now_rise 6 f_now_rise, aI G a_now_wandering 6 f_now_wandering]) [0, 1, 2, 3, 4, 5, 6, 8, 9] (by decide) rfl
      have hFc := va_free (wc := [oT c_q a_q x_q_kind x_q_number x_q_v x_q_caught a_q_steps, o11 h a_now a_kept x_isKept a_reader a_flight a_latest, o2 a_flight x_flight_hand x_flight_edge x_flight_bend x_flight_rise x_flight_last x_flight_tick x_flight_angle x_flight_lean, o6 a_now x_now_coins x_now_hands x_now_laws x_now_bytes x_now_sides a_now_edge a_now_bend a_now_rise a_now_wandering a_now_thrown a_now_alike a_now_law a_now_tape a_now_side, aI G a_q_steps n_q_steps f_q_steps, aI G a_now_bend 6 f_now_bend, aI G a_now_edge 6 f_now_edge, aI G a_now_rise 6 f_now_rise, aI G a_now_wandering 6 f_now_wandering]) hD hS hA [0, 1, 2, 3, 4, 5, 6, 8, 9] rfl
      have hM := c_X11_timesHeads l G c_q (by omega) a_q a_q_steps h a_now a_kept a_reader a_flight a_latest a_now_edge a_now_bend a_now_rise a_now_wandering a_now_thrown a_now_alike a_now_law a_now_tape a_now_side x_q_kind x_q_number x_q_v x_q_caught x_isKept x_flight_hand x_flight_edge x_flight_bend x_flight_rise x_flight_last x_flight_tick x_flight_angle x_flight_lean x_now_coins x_now_hands x_now_laws x_now_bytes x_now_sides f_q_steps f_now_bend f_now_edge f_now_rise f_now_wandering n_q_steps l2 l3 (1 : Int32) r12.1 r12.2.1 r12.2.2.1 r12.2.2.2.1 r12.2.2.2.2.1 r12.2.2.2.2.2.1 r12.2.2.2.2.2.2.1 r12.2.2.2.2.2.2.2.1 r12.2.2.2.2.2.2.2.2 hc13 H.size
      refine cl_i (w1 := [oT c_q a_q x_q_kind x_q_number x_q_v x_q_caught a_q_steps, o11 h a_now a_kept x_isKept a_reader a_flight a_latest, o2 a_flight r12.2.1 r12.2.2.1 r12.2.2.2.1 r12.2.2.2.2.1 r12.2.2.2.2.2.1 r12.2.2.2.2.2.2.1 r12.2.2.2.2.2.2.2.1 r12.2.2.2.2.2.2.2.2, o6 a_now x_now_coins x_now_hands x_now_laws x_now_bytes x_now_sides a_now_edge a_now_bend a_now_rise a_now_wandering a_now_thrown a_now_alike a_now_law a_now_tape a_now_side, aI G a_q_steps n_q_steps f_q_steps, aI G a_now_bend 6 f_now_bend, aI G a_now_edge 6 f_now_edge, aI G a_now_rise 6 f_now_rise, aI G a_now_wandering 6 f_now_wandering]) (ws' := [oT c_q a_q x_q_kind x_q_number x_q_v x_q_caught a_q_steps, o11 h a_now a_kept x_isKept a_reader a_flight a_latest, o2 a_flight r12.2.1 r12.2.2.1 r12.2.2.2.1 r12.2.2.2.2.1 r12.2.2.2.2.2.1 r12.2.2.2.2.2.2.1 r12.2.2.2.2.2.2.2.1 r12.2.2.2.2.2.2.2.2, o6 a_now x_now_coins x_now_hands x_now_laws x_now_bytes x_now_sides a_now_edge a_now_bend a_now_rise a_now_wandering a_now_thrown a_now_alike a_now_law a_now_tape a_now_side, aI G a_q_steps n_q_steps f_q_steps, aI G a_now_bend 6 f_now_bend, aI G a_now_edge 6 f_now_edge, aT G a_now_law 8 f_now_law, aI G a_now_rise 6 f_now_rise, aI G a_now_wandering 6 f_now_wandering]) hP hD hS hFc [0, 1, 2, 3, 4, 5, 6, 8, 9] rfl rfl rfl (va_runV (As := [.ref a_q, .int l2, .int l3, .int 1]) (rest := []) ⟨hx, hb, hml, hown, hts⟩ hM (cwV 4 hts gX11_worth_X11_timesHeads rfl rfl rfl (by decide +kernel) ⟨Nat.le_of_ble_eq_true rfl, Nat.le_of_ble_eq_true rfl⟩) (cp_V hK hE hS hPc hDc hFc (va_recv hK hPc (ci := 11) (q0 := 1) rfl rfl)) rfl rfl hl.1 rfl (lv_room (Nat.le_of_ble_eq_true rfl)) dX11_worth_60 ⟨Nat.zero_le _, Nat.zero_le _⟩) (fun H locs hP hD hS => ?_)
      refine lv_istore (lv' := [(7, .int r12.1), (6, .int r10), (5, .ref a_q), (0, .ref h), (1, .int l1), (2, .int l2), (3, .int l3), (4, .int l4)]) hx hb dX11_worth_63 hl (by decide) rfl (fun ls hl => ?_)
      refine lv_iconst (v := 2) hx hb dX11_worth_65 (by decide) ?_
      refine lv_iload hx hb dX11_worth_66 (lv_at hl 0 rfl) ?_
      refine lv_imul hx hb dX11_worth_68 ?_
      refine lv_iload hx hb dX11_worth_69 (lv_at hl 1 rfl) ?_
      refine lv_isub hx hb dX11_worth_71 ?_
      refine va_mabs hx hb (hml.trans hl.1.symm) hown lm_215 ms_abs mi mc_abs (Nat.le_of_ble_eq_true rfl) (Nat.le_of_ble_eq_true rfl) (Nat.zero_le _) (Nat.zero_le _) dX11_worth_72 ?_
      refine lv_istore (lv' := [(8, .int (if 0 ≤ ((2 * r12.1) - r10) then ((2 * r12.1) - r10) else 0 - ((2 * r12.1) - r10))), (7, .int r12.1), (6, .int r10), (5, .ref a_q), (0, .ref h), (1, .int l1), (2, .int l2), (3, .int l3), (4, .int l4)]) hx hb dX11_worth_75 hl (by decide) rfl (fun ls hl => ?_)
      refine lv_bipush (v := 10) hx hb dX11_worth_77 (by decide) ?_
      refine lv_iload hx hb dX11_worth_79 (lv_at hl 0 rfl) ?_
      refine lv_imul hx hb dX11_worth_81 ?_
      refine lv_bipush (v := 100) hx hb dX11_worth_82 (by decide) ?_
      refine lv_iconst (v := 2) hx hb dX11_worth_84 (by decide) ?_
      refine W.eq (g2 := F0 m 85 ls [.int 2, .int 100, .int (10 * (if 0 ≤ ((2 * r12.1) - r10) then ((2 * r12.1) - r10) else 0 - ((2 * r12.1) - r10)))]) rfl ?_
      refine lv_iload hx hb dX11_worth_85 (lv_at hl 8 rfl) ?_
      refine lv_imul hx hb dX11_worth_87 ?_
      refine lv_isub hx hb dX11_worth_88 ?_
      refine lv_imul hx hb dX11_worth_89 ?_
      refine lv_iload hx hb dX11_worth_90 (lv_at hl 2 rfl) ?_
      obtain ⟨hz14, hF⟩ := ck_some hF
      refine lv_idiv hx hb dX11_worth_92 hz14 ?_
      injection hF with hz
      injection hz with hq0 hz
      injection hz with hq1 hz
      injection hz with hq2 hz
      injection hz with hq3 hz
      injection hz with hq4 hz
      injection hz with hq5 hz
      injection hz with hq6 hz
      injection hz with hq7 hz
      subst hq0
      subst hq1
      subst hq2
      subst hq3
      subst hq4
      subst hq5
      subst hq6
      subst hq7
      subst hz
      exact cm_reti hx hb hr rfl hlk hK hP hD hS dX11_worth_93
    rw [if_pos c9] at hF
    refine lv_sipush (v := (-1002)) hx hb dX11_worth_40 (by decide) ?_
    injection hF with hz
    injection hz with hq0 hz
    injection hz with hq1 hz
    injection hz with hq2 hz
    injection hz with hq3 hz
    injection hz with hq4 hz
    injection hz with hq5 hz
    injection hz with hq6 hz
    injection hz with hq7 hz
    subst hq0
    subst hq1
    subst hq2
    subst hq3
    subst hq4
    subst hq5
    subst hq6
    subst hq7
    subst hz
    exact cm_reti hx hb hr rfl hlk hK hP hD hS dX11_worth_43
  rw [if_pos c6] at hF
  refine lv_sipush (v := (-1001)) hx hb dX11_worth_28 (by decide) ?_
  injection hF with hz
  injection hz with hq0 hz
  injection hz with hq1 hz
  injection hz with hq2 hz
  injection hz with hq3 hz
  injection hz with hq4 hz
  injection hz with hq5 hz
  injection hz with hq6 hz
  injection hz with hq7 hz
  subst hq0
  subst hq1
  subst hq2
  subst hq3
  subst hq4
  subst hq5
  subst hq6
  subst hq7
  subst hz
  exact cm_reti hx hb hr rfl hlk hK hP hD hS dX11_worth_31

/-! HeadsByHair.act(III)I, n -/
abbrev rm_X11_act_n : Room := { frames := 2, cells := 0, slots := 0, locals := 43 }
set_option maxHeartbeats 4000000 in
set_option maxRecDepth 100000 in
theorem c_X11_act_n (l : Launch) (G : GG) (h a_now a_kept a_reader a_flight a_latest a_latest_body a_now_edge a_now_bend a_now_rise a_now_wandering a_now_thrown a_now_alike a_now_law a_now_tape a_now_side : Nat) (x_isKept x_latest_ran x_now_coins x_now_hands x_now_laws x_now_bytes x_now_sides : Int32) (f_now_law : Nat → Option Nat) (l1 : Int32) (l2 : Int32) (l3 : Int32) (z : Int32) (z_x_latest_ran : Int32) (hlaw : fX11_lawOf x_now_laws f_now_law l1 = some none) (hF : fX11_act_n x_latest_ran x_now_laws f_now_law l1 l2 l3 = some (z, z_x_latest_ran)) : CMi l yX11_act wsX11_act rm_X11_act_n G [o11 h a_now a_kept x_isKept a_reader a_flight a_latest, o8 a_latest a_latest_body x_latest_ran, o6 a_now x_now_coins x_now_hands x_now_laws x_now_bytes x_now_sides a_now_edge a_now_bend a_now_rise a_now_wandering a_now_thrown a_now_alike a_now_law a_now_tape a_now_side, aT G a_now_law 8 f_now_law] [o11 h a_now a_kept x_isKept a_reader a_flight a_latest, o8 a_latest a_latest_body z_x_latest_ran, o6 a_now x_now_coins x_now_hands x_now_laws x_now_bytes x_now_sides a_now_edge a_now_bend a_now_rise a_now_wandering a_now_thrown a_now_alike a_now_law a_now_tape a_now_side, aT G a_now_law 8 f_now_law] [.ref h, .int l1, .int l2, .int l3] z := by
  refine cm_start (cc := cX11_act) (maxL := 5) (ret := (some .int)) (Qc := fun A => QI G [o11 h a_now a_kept x_isKept a_reader a_flight a_latest, o8 a_latest a_latest_body z_x_latest_ran, o6 a_now x_now_coins x_now_hands x_now_laws x_now_bytes x_now_sides a_now_edge a_now_bend a_now_rise a_now_wandering a_now_thrown a_now_alike a_now_law a_now_tape a_now_side, aT G a_now_law 8 f_now_law] z A) (by decide +kernel) rfl (Nat.le_of_ble_eq_true rfl) ?_
  intro p e s m args below meth c A hx hb hr hlk hml hown hnm hts hA H locs hP hK hD hE hS ls hl
  have hown : s.vm.findClass RX11 = some m.cls := hown
  have hl : lv_has ls 5 [(0, .ref h), (1, .int l1), (2, .int l2), (3, .int l3)] := hl
  have hin11 : ∀ w ∈ wsX110, w ∈ wsX11_act := by decide +kernel
  have hin8 : ∀ w ∈ wsX80, w ∈ wsX11_act := by decide +kernel
  have lk_38 := hts (.fieldLink RX11 38 "HeadsByHair" "latest" "LHeadsByHair$Trace;") (by decide +kernel)
  have lk_220 := va_Nw.use (A := args) rfl (hE.nw (.fieldLinkNest "HeadsByHair" 220 "HeadsByHair$Trace" "ran" "I" "HeadsByHair") (by decide +kernel))
  revert hF
  intro hF
  unfold fX11_act_n at hF
  refine lv_aload_n hx hb dX11_act_0 rfl (lv_at hl 0 rfl) ?_
  refine va_get (D := G.1) (ci := 11) (v := .ref a_latest) (C := RX11) (T := TX11) (N := 6) hx hb hts hin11 hown hK hP 0 rfl rfl 5 (by decide) lk_38 (fun _ h9 => h9) rfl dX11_act_1 ?_
  refine lv_iconst (v := 0) hx hb dX11_act_4 (by decide) ?_
  refine va_putN (D := G.1) (ci := 8) (v := .int 0) (ty := .int) (C := RX8) (T := TX8) (N := 2) hx hb hts hin8 tyX8 tyX8_ok nmX8 hown hK hP hD hS 1 rfl rfl 1 (by decide) lk_220 (fun _ h9 => h9) rfl (tyX8_ok 1 (by decide)) rfl rfl (Nat.le_of_ble_eq_true rfl) dX11_act_5 (fun H locs hP hD hS => ?_)
  have hP : va_P G.1 vwCl [o11 h a_now a_kept x_isKept a_reader a_flight a_latest, o8 a_latest a_latest_body 0, o6 a_now x_now_coins x_now_hands x_now_laws x_now_bytes x_now_sides a_now_edge a_now_bend a_now_rise a_now_wandering a_now_thrown a_now_alike a_now_law a_now_tape a_now_side, aT G a_now_law 8 f_now_law] H := hP
  have hD : va_D A [o11 h a_now a_kept x_isKept a_reader a_flight a_latest, o8 a_latest a_latest_body 0, o6 a_now x_now_coins x_now_hands x_now_laws x_now_bytes x_now_sides a_now_edge a_now_bend a_now_rise a_now_wandering a_now_thrown a_now_alike a_now_law a_now_tape a_now_side, aT G a_now_law 8 f_now_law] := hD
  refine lv_aload_n hx hb dX11_act_8 rfl (lv_at hl 0 rfl) ?_
  refine lv_iload_n hx hb dX11_act_9 rfl (lv_at hl 1 rfl) ?_
  have hPc := hP.sub (ws' := [o11 h a_now a_kept x_isKept a_reader a_flight a_latest, o6 a_now x_now_coins x_now_hands x_now_laws x_now_bytes x_now_sides a_now_edge a_now_bend a_now_rise a_now_wandering a_now_thrown a_now_alike a_now_law a_now_tape a_now_side, aT G a_now_law 8 f_now_law]) [0, 2, 3] rfl
  have hDc := hD.sub (ws' := [o11 h a_now a_kept x_isKept a_reader a_flight a_latest, o6 a_now x_now_coins x_now_hands x_now_laws x_now_bytes x_now_sides a_now_edge a_now_bend a_now_rise a_now_wandering a_now_thrown a_now_alike a_now_law a_now_tape a_now_side, aT G a_now_law 8 f_now_law]) [0, 2, 3] (by decide) rfl
  have hFc := va_free (wc := [o11 h a_now a_kept x_isKept a_reader a_flight a_latest, o6 a_now x_now_coins x_now_hands x_now_laws x_now_bytes x_now_sides a_now_edge a_now_bend a_now_rise a_now_wandering a_now_thrown a_now_alike a_now_law a_now_tape a_now_side, aT G a_now_law 8 f_now_law]) hD hS hA [0, 2, 3] rfl
  have hM := c_X11_lawOf l G h a_now a_kept a_reader a_flight a_latest a_now_edge a_now_bend a_now_rise a_now_wandering a_now_thrown a_now_alike a_now_law a_now_tape a_now_side x_isKept x_now_coins x_now_hands x_now_laws x_now_bytes x_now_sides f_now_law l1 none hlaw H.size
  refine cl_r (z := none) (w1 := [o11 h a_now a_kept x_isKept a_reader a_flight a_latest, o6 a_now x_now_coins x_now_hands x_now_laws x_now_bytes x_now_sides a_now_edge a_now_bend a_now_rise a_now_wandering a_now_thrown a_now_alike a_now_law a_now_tape a_now_side, aT G a_now_law 8 f_now_law]) (ws' := [o11 h a_now a_kept x_isKept a_reader a_flight a_latest, o8 a_latest a_latest_body 0, o6 a_now x_now_coins x_now_hands x_now_laws x_now_bytes x_now_sides a_now_edge a_now_bend a_now_rise a_now_wandering a_now_thrown a_now_alike a_now_law a_now_tape a_now_side, aT G a_now_law 8 f_now_law]) hP hD hS hFc [0, 2, 3] rfl rfl rfl (va_runV (As := [.int l1]) (rest := []) ⟨hx, hb, hml, hown, hts⟩ hM (cwV 1 hts gX11_act_X11_lawOf rfl rfl rfl (by decide +kernel) ⟨Nat.le_of_ble_eq_true rfl, Nat.le_of_ble_eq_true rfl⟩) (cp_V hK hE hS hPc hDc hFc (va_recv hK hPc (ci := 11) (q0 := 0) rfl rfl)) rfl rfl hl.1 rfl (lv_room (Nat.le_of_ble_eq_true rfl)) dX11_act_10 ⟨Nat.zero_le _, Nat.zero_le _⟩) (fun H locs hP hD hS => ?_)
  refine W.eq (g2 := F0 m 13 ls [.null]) rfl ?_
  refine lv_astoreN (lv' := [(4, .null), (0, .ref h), (1, .int l1), (2, .int l2), (3, .int l3)]) hx hb dX11_act_13 hl (by decide) rfl (fun ls hl => ?_)
  refine lv_aloadN hx hb dX11_act_15 (lv_at hl 0 rfl) ?_
  refine lv_ifnonnullN hx hb dX11_act_17 ?_
  refine lv_iconst (v := 0) hx hb dX11_act_20 (by decide) ?_
  injection hF with hz
  injection hz with hq0 hz
  subst hq0
  subst hz
  exact cm_reti hx hb hr rfl hlk hK hP hD hS dX11_act_21

/-! HeadsByHair.act(III)I, s -/
abbrev rm_X11_act_s : Room := { frames := 9, cells := 0, slots := 0, locals := 197 }
set_option maxHeartbeats 4000000 in
set_option maxRecDepth 100000 in
theorem c_X11_act_s (l : Launch) (G : GG) (c_q : Nat) (hc_q : c_q = 0 ∨ c_q = 1 ∨ c_q = 4 ∨ c_q = 5 ∨ c_q = 7 ∨ c_q = 9 ∨ c_q = 10) (a_q a_q_steps h a_now a_kept a_reader a_flight a_latest a_latest_body a_now_edge a_now_bend a_now_rise a_now_wandering a_now_thrown a_now_alike a_now_law a_now_tape a_now_side : Nat) (x_q_kind x_q_number x_q_v x_q_caught x_isKept x_latest_ran x_now_coins x_now_hands x_now_laws x_now_bytes x_now_sides : Int32) (f_latest_body : Nat → Int32) (f_now_law : Nat → Option Nat) (l1 : Int32) (l2 : Int32) (l3 : Int32) (z : Int32) (z_x_latest_ran : Int32) (z_f_latest_body : Nat → Int32) (hlaw : fX11_lawOf x_now_laws f_now_law l1 = some (some a_q)) (hF : fX11_act_s c_q x_q_number x_q_v x_latest_ran x_now_laws f_latest_body f_now_law l1 l2 l3 = some (z, z_x_latest_ran, z_f_latest_body)) : CMi l yX11_act wsX11_act rm_X11_act_s G [oT c_q a_q x_q_kind x_q_number x_q_v x_q_caught a_q_steps, o11 h a_now a_kept x_isKept a_reader a_flight a_latest, o8 a_latest a_latest_body x_latest_ran, o6 a_now x_now_coins x_now_hands x_now_laws x_now_bytes x_now_sides a_now_edge a_now_bend a_now_rise a_now_wandering a_now_thrown a_now_alike a_now_law a_now_tape a_now_side, aI G a_latest_body 20 f_latest_body, aT G a_now_law 8 f_now_law] [oT c_q a_q x_q_kind x_q_number x_q_v x_q_caught a_q_steps, o11 h a_now a_kept x_isKept a_reader a_flight a_latest, o8 a_latest a_latest_body z_x_latest_ran, o6 a_now x_now_coins x_now_hands x_now_laws x_now_bytes x_now_sides a_now_edge a_now_bend a_now_rise a_now_wandering a_now_thrown a_now_alike a_now_law a_now_tape a_now_side, aI G a_latest_body 20 z_f_latest_body, aT G a_now_law 8 f_now_law] [.ref h, .int l1, .int l2, .int l3] z := by
  refine cm_start (cc := cX11_act) (maxL := 5) (ret := (some .int)) (Qc := fun A => QI G [oT c_q a_q x_q_kind x_q_number x_q_v x_q_caught a_q_steps, o11 h a_now a_kept x_isKept a_reader a_flight a_latest, o8 a_latest a_latest_body z_x_latest_ran, o6 a_now x_now_coins x_now_hands x_now_laws x_now_bytes x_now_sides a_now_edge a_now_bend a_now_rise a_now_wandering a_now_thrown a_now_alike a_now_law a_now_tape a_now_side, aI G a_latest_body 20 z_f_latest_body, aT G a_now_law 8 f_now_law] z A) (by decide +kernel) rfl (Nat.le_of_ble_eq_true rfl) ?_
  intro p e s m args below meth c A hx hb hr hlk hml hown hnm hts hA H locs hP hK hD hE hS ls hl
  have hown : s.vm.findClass RX11 = some m.cls := hown
  have hl : lv_has ls 5 [(0, .ref h), (1, .int l1), (2, .int l2), (3, .int l3)] := hl
  have hin11 : ∀ w ∈ wsX110, w ∈ wsX11_act := by decide +kernel
  have hin8 : ∀ w ∈ wsX80, w ∈ wsX11_act := by decide +kernel
  have lk_38 := hts (.fieldLink RX11 38 "HeadsByHair" "latest" "LHeadsByHair$Trace;") (by decide +kernel)
  have lk_220 := va_Nw.use (A := args) rfl (hE.nw (.fieldLinkNest "HeadsByHair" 220 "HeadsByHair$Trace" "ran" "I" "HeadsByHair") (by decide +kernel))
  revert hF
  intro hF
  unfold fX11_act_s at hF
  refine lv_aload_n hx hb dX11_act_0 rfl (lv_at hl 0 rfl) ?_
  refine va_get (D := G.1) (ci := 11) (v := .ref a_latest) (C := RX11) (T := TX11) (N := 6) hx hb hts hin11 hown hK hP 1 rfl rfl 5 (by decide) lk_38 (fun _ h9 => h9) rfl dX11_act_1 ?_
  refine lv_iconst (v := 0) hx hb dX11_act_4 (by decide) ?_
  refine va_putN (D := G.1) (ci := 8) (v := .int 0) (ty := .int) (C := RX8) (T := TX8) (N := 2) hx hb hts hin8 tyX8 tyX8_ok nmX8 hown hK hP hD hS 2 rfl rfl 1 (by decide) lk_220 (fun _ h9 => h9) rfl (tyX8_ok 1 (by decide)) rfl rfl (Nat.le_of_ble_eq_true rfl) dX11_act_5 (fun H locs hP hD hS => ?_)
  have hP : va_P G.1 vwCl [oT c_q a_q x_q_kind x_q_number x_q_v x_q_caught a_q_steps, o11 h a_now a_kept x_isKept a_reader a_flight a_latest, o8 a_latest a_latest_body 0, o6 a_now x_now_coins x_now_hands x_now_laws x_now_bytes x_now_sides a_now_edge a_now_bend a_now_rise a_now_wandering a_now_thrown a_now_alike a_now_law a_now_tape a_now_side, aI G a_latest_body 20 f_latest_body, aT G a_now_law 8 f_now_law] H := hP
  have hD : va_D A [oT c_q a_q x_q_kind x_q_number x_q_v x_q_caught a_q_steps, o11 h a_now a_kept x_isKept a_reader a_flight a_latest, o8 a_latest a_latest_body 0, o6 a_now x_now_coins x_now_hands x_now_laws x_now_bytes x_now_sides a_now_edge a_now_bend a_now_rise a_now_wandering a_now_thrown a_now_alike a_now_law a_now_tape a_now_side, aI G a_latest_body 20 f_latest_body, aT G a_now_law 8 f_now_law] := hD
  refine lv_aload_n hx hb dX11_act_8 rfl (lv_at hl 0 rfl) ?_
  refine lv_iload_n hx hb dX11_act_9 rfl (lv_at hl 1 rfl) ?_
  have hPc := hP.sub (ws' := [o11 h a_now a_kept x_isKept a_reader a_flight a_latest, o6 a_now x_now_coins x_now_hands x_now_laws x_now_bytes x_now_sides a_now_edge a_now_bend a_now_rise a_now_wandering a_now_thrown a_now_alike a_now_law a_now_tape a_now_side, aT G a_now_law 8 f_now_law]) [1, 3, 5] rfl
  have hDc := hD.sub (ws' := [o11 h a_now a_kept x_isKept a_reader a_flight a_latest, o6 a_now x_now_coins x_now_hands x_now_laws x_now_bytes x_now_sides a_now_edge a_now_bend a_now_rise a_now_wandering a_now_thrown a_now_alike a_now_law a_now_tape a_now_side, aT G a_now_law 8 f_now_law]) [1, 3, 5] (by decide) rfl
  have hFc := va_free (wc := [o11 h a_now a_kept x_isKept a_reader a_flight a_latest, o6 a_now x_now_coins x_now_hands x_now_laws x_now_bytes x_now_sides a_now_edge a_now_bend a_now_rise a_now_wandering a_now_thrown a_now_alike a_now_law a_now_tape a_now_side, aT G a_now_law 8 f_now_law]) hD hS hA [1, 3, 5] rfl
  have hM := c_X11_lawOf l G h a_now a_kept a_reader a_flight a_latest a_now_edge a_now_bend a_now_rise a_now_wandering a_now_thrown a_now_alike a_now_law a_now_tape a_now_side x_isKept x_now_coins x_now_hands x_now_laws x_now_bytes x_now_sides f_now_law l1 (some a_q) hlaw H.size
  refine cl_r (z := (some a_q)) (w1 := [o11 h a_now a_kept x_isKept a_reader a_flight a_latest, o6 a_now x_now_coins x_now_hands x_now_laws x_now_bytes x_now_sides a_now_edge a_now_bend a_now_rise a_now_wandering a_now_thrown a_now_alike a_now_law a_now_tape a_now_side, aT G a_now_law 8 f_now_law]) (ws' := [oT c_q a_q x_q_kind x_q_number x_q_v x_q_caught a_q_steps, o11 h a_now a_kept x_isKept a_reader a_flight a_latest, o8 a_latest a_latest_body 0, o6 a_now x_now_coins x_now_hands x_now_laws x_now_bytes x_now_sides a_now_edge a_now_bend a_now_rise a_now_wandering a_now_thrown a_now_alike a_now_law a_now_tape a_now_side, aI G a_latest_body 20 f_latest_body, aT G a_now_law 8 f_now_law]) hP hD hS hFc [1, 3, 5] rfl rfl rfl (va_runV (As := [.int l1]) (rest := []) ⟨hx, hb, hml, hown, hts⟩ hM (cwV 1 hts gX11_act_X11_lawOf rfl rfl rfl (by decide +kernel) ⟨Nat.le_of_ble_eq_true rfl, Nat.le_of_ble_eq_true rfl⟩) (cp_V hK hE hS hPc hDc hFc (va_recv hK hPc (ci := 11) (q0 := 0) rfl rfl)) rfl rfl hl.1 rfl (lv_room (Nat.le_of_ble_eq_true rfl)) dX11_act_10 ⟨Nat.zero_le _, Nat.zero_le _⟩) (fun H locs hP hD hS => ?_)
  refine W.eq (g2 := F0 m 13 ls [.ref a_q]) rfl ?_
  refine lv_astore (lv' := [(4, .ref a_q), (0, .ref h), (1, .int l1), (2, .int l2), (3, .int l3)]) hx hb dX11_act_13 hl (by decide) rfl (fun ls hl => ?_)
  refine lv_aload hx hb dX11_act_15 (lv_at hl 0 rfl) ?_
  refine lv_ifnonnull (tgt := 22) hx hb dX11_act_17 (by decide) ?_
  refine lv_iload_n hx hb dX11_act_22 rfl (lv_at hl 3 rfl) ?_
  by_cases c1 : l2 = 0
  · rw [if_pos c1] at hF
    refine lv_eqi c1 ?_
    refine lv_tableIn (tgt := 48) (off := 25) hx hb dX11_act_23 (by decide) (by decide) (by decide) (by decide) ?_
    refine lv_aload hx hb dX11_act_48 (lv_at hl 0 rfl) ?_
    refine W.eq (g2 := F0 m 50 ls [.ref a_q]) rfl ?_
    refine lv_iload_n hx hb dX11_act_50 rfl (lv_at hl 4 rfl) ?_
    refine lv_aload_n hx hb dX11_act_51 rfl (lv_at hl 1 rfl) ?_
    refine va_get (D := G.1) (ci := 11) (v := .ref a_latest) (C := RX11) (T := TX11) (N := 6) hx hb hts hin11 hown hK hP 1 rfl rfl 5 (by decide) lk_38 (fun _ h9 => h9) rfl dX11_act_52 ?_
    obtain ⟨r2, hc3, hF⟩ := bd_some hF
    have hPc := hP.sub (ws' := [o8 a_latest a_latest_body 0, oT c_q a_q x_q_kind x_q_number x_q_v x_q_caught a_q_steps, aI G a_latest_body 20 f_latest_body]) [2, 0, 4] rfl
    have hDc := hD.sub (ws' := [o8 a_latest a_latest_body 0, oT c_q a_q x_q_kind x_q_number x_q_v x_q_caught a_q_steps, aI G a_latest_body 20 f_latest_body]) [2, 0, 4] (by decide) rfl
    have hFc := va_free (wc := [o8 a_latest a_latest_body 0, oT c_q a_q x_q_kind x_q_number x_q_v x_q_caught a_q_steps, aI G a_latest_body 20 f_latest_body]) hD hS hA [2, 0, 4] rfl
    have hrun : va_Run p l e (rm_X11_act_s) s m args below meth c H locs 0 0 0 0 (F0 m 55 ls [.ref a_latest, .int l3, .ref a_q]) [] (QI G [o8 a_latest a_latest_body r2.2.1, oT c_q a_q x_q_kind x_q_number x_q_v x_q_caught a_q_steps, aI G a_latest_body 20 r2.2.2] r2.1 (va_A [o8 a_latest a_latest_body 0, oT c_q a_q x_q_kind x_q_number x_q_v x_q_caught a_q_steps, aI G a_latest_body 20 f_latest_body] H.size) (Value.ref a_q :: [.int l3, .ref a_latest]).toArray) (va_A [o8 a_latest a_latest_body 0, oT c_q a_q x_q_kind x_q_number x_q_v x_q_caught a_q_steps, aI G a_latest_body 20 f_latest_body] H.size) := by
      rcases hc_q with rfl | rfl | rfl | rfl | rfl | rfl | rfl
      · have hM := c_X7_turns l G 0 (by decide) a_latest a_latest_body a_q a_q_steps 0 x_q_kind x_q_number x_q_v x_q_caught f_latest_body l3 r2.1 r2.2.1 r2.2.2 (show fX7_turns 0 0 x_q_number f_latest_body l3 = some (r2.1, r2.2.1, r2.2.2) from hc3) H.size
        exact va_runU (As := [.int l3, .ref a_latest]) (rest := []) ⟨hx, hb, hml, hown, hts⟩ hM (va_cwU 2 hts gX11_act_X7_turns_u223X0 rfl rfl rfl rfl (by decide +kernel) ⟨Nat.le_of_ble_eq_true rfl, Nat.le_of_ble_eq_true rfl⟩) (cp_V hK hE hS hPc hDc hFc (va_recv hK hPc (ci := 0) (q0 := 1) rfl rfl)) rfl rfl hl.1 rfl (lv_room (Nat.le_of_ble_eq_true rfl)) dX11_act_55 ⟨Nat.zero_le _, Nat.zero_le _⟩
      · have hM := c_X7_turns l G 1 (by decide) a_latest a_latest_body a_q a_q_steps 0 x_q_kind x_q_number x_q_v x_q_caught f_latest_body l3 r2.1 r2.2.1 r2.2.2 (show fX7_turns 1 0 x_q_number f_latest_body l3 = some (r2.1, r2.2.1, r2.2.2) from hc3) H.size
        exact va_runU (As := [.int l3, .ref a_latest]) (rest := []) ⟨hx, hb, hml, hown, hts⟩ hM (va_cwU 2 hts gX11_act_X7_turns_u223X1 rfl rfl rfl rfl (by decide +kernel) ⟨Nat.le_of_ble_eq_true rfl, Nat.le_of_ble_eq_true rfl⟩) (cp_V hK hE hS hPc hDc hFc (va_recv hK hPc (ci := 1) (q0 := 1) rfl rfl)) rfl rfl hl.1 rfl (lv_room (Nat.le_of_ble_eq_true rfl)) dX11_act_55 ⟨Nat.zero_le _, Nat.zero_le _⟩
      · have hM := c_X4_turns l G a_latest a_latest_body a_q a_q_steps 0 x_q_kind x_q_number x_q_v x_q_caught f_latest_body l3 r2.1 r2.2.1 r2.2.2 (show fX4_turns 0 x_q_number f_latest_body l3 = some (r2.1, r2.2.1, r2.2.2) from hc3) H.size
        exact va_runU (As := [.int l3, .ref a_latest]) (rest := []) ⟨hx, hb, hml, hown, hts⟩ hM (va_cwO 2 hts gX11_act_X4_turns_u223X4 rfl rfl rfl (b0 := cX7_turns) (m0 := 3) (r0 := (some .int)) (by decide +kernel) (by decide +kernel) ⟨Nat.le_of_ble_eq_true rfl, Nat.le_of_ble_eq_true rfl⟩) (cp_V hK hE hS hPc hDc hFc (va_recv hK hPc (ci := 4) (q0 := 1) rfl rfl)) rfl rfl hl.1 rfl (lv_room (Nat.le_of_ble_eq_true rfl)) dX11_act_55 ⟨Nat.zero_le _, Nat.zero_le _⟩
      · have hM := c_X7_turns l G 5 (by decide) a_latest a_latest_body a_q a_q_steps 0 x_q_kind x_q_number x_q_v x_q_caught f_latest_body l3 r2.1 r2.2.1 r2.2.2 (show fX7_turns 5 0 x_q_number f_latest_body l3 = some (r2.1, r2.2.1, r2.2.2) from hc3) H.size
        exact va_runU (As := [.int l3, .ref a_latest]) (rest := []) ⟨hx, hb, hml, hown, hts⟩ hM (va_cwU 2 hts gX11_act_X7_turns_u223X5 rfl rfl rfl rfl (by decide +kernel) ⟨Nat.le_of_ble_eq_true rfl, Nat.le_of_ble_eq_true rfl⟩) (cp_V hK hE hS hPc hDc hFc (va_recv hK hPc (ci := 5) (q0 := 1) rfl rfl)) rfl rfl hl.1 rfl (lv_room (Nat.le_of_ble_eq_true rfl)) dX11_act_55 ⟨Nat.zero_le _, Nat.zero_le _⟩
      · have hM := c_X7_turns l G 7 (by decide) a_latest a_latest_body a_q a_q_steps 0 x_q_kind x_q_number x_q_v x_q_caught f_latest_body l3 r2.1 r2.2.1 r2.2.2 (show fX7_turns 7 0 x_q_number f_latest_body l3 = some (r2.1, r2.2.1, r2.2.2) from hc3) H.size
        exact va_runV (As := [.int l3, .ref a_latest]) (rest := []) ⟨hx, hb, hml, hown, hts⟩ hM (cwV 2 hts gX11_act_X7_turns rfl rfl rfl (by decide +kernel) ⟨Nat.le_of_ble_eq_true rfl, Nat.le_of_ble_eq_true rfl⟩) (cp_V hK hE hS hPc hDc hFc (va_recv hK hPc (ci := 7) (q0 := 1) rfl rfl)) rfl rfl hl.1 rfl (lv_room (Nat.le_of_ble_eq_true rfl)) dX11_act_55 ⟨Nat.zero_le _, Nat.zero_le _⟩
      · have hM := c_X9_turns l G 9 (by decide) a_latest a_latest_body a_q a_q_steps 0 x_q_kind x_q_number x_q_v x_q_caught f_latest_body l3 r2.1 r2.2.1 r2.2.2 (show fX9_turns 9 0 x_q_number f_latest_body l3 = some (r2.1, r2.2.1, r2.2.2) from hc3) H.size
        exact va_runU (As := [.int l3, .ref a_latest]) (rest := []) ⟨hx, hb, hml, hown, hts⟩ hM (va_cwO 2 hts gX11_act_X9_turns_u223X9 rfl rfl rfl (b0 := cX7_turns) (m0 := 3) (r0 := (some .int)) (by decide +kernel) (by decide +kernel) ⟨Nat.le_of_ble_eq_true rfl, Nat.le_of_ble_eq_true rfl⟩) (cp_V hK hE hS hPc hDc hFc (va_recv hK hPc (ci := 9) (q0 := 1) rfl rfl)) rfl rfl hl.1 rfl (lv_room (Nat.le_of_ble_eq_true rfl)) dX11_act_55 ⟨Nat.zero_le _, Nat.zero_le _⟩
      · have hM := c_X9_turns l G 10 (by decide) a_latest a_latest_body a_q a_q_steps 0 x_q_kind x_q_number x_q_v x_q_caught f_latest_body l3 r2.1 r2.2.1 r2.2.2 (show fX9_turns 10 0 x_q_number f_latest_body l3 = some (r2.1, r2.2.1, r2.2.2) from hc3) H.size
        exact va_runU (As := [.int l3, .ref a_latest]) (rest := []) ⟨hx, hb, hml, hown, hts⟩ hM (va_cwO 2 hts gX11_act_X9_turns_u223X10 rfl rfl rfl (b0 := cX7_turns) (m0 := 3) (r0 := (some .int)) (by decide +kernel) (by decide +kernel) ⟨Nat.le_of_ble_eq_true rfl, Nat.le_of_ble_eq_true rfl⟩) (cp_V hK hE hS hPc hDc hFc (va_recv hK hPc (ci := 10) (q0 := 1) rfl rfl)) rfl rfl hl.1 rfl (lv_room (Nat.le_of_ble_eq_true rfl)) dX11_act_55 ⟨Nat.zero_le _, Nat.zero_le _⟩
    refine cl_i (w1 := [o8 a_latest a_latest_body r2.2.1, oT c_q a_q x_q_kind x_q_number x_q_v x_q_caught a_q_steps, aI G a_latest_body 20 r2.2.2]) (ws' := [oT c_q a_q x_q_kind x_q_number x_q_v x_q_caught a_q_steps, o11 h a_now a_kept x_isKept a_reader a_flight a_latest, o8 a_latest a_latest_body r2.2.1, o6 a_now x_now_coins x_now_hands x_now_laws x_now_bytes x_now_sides a_now_edge a_now_bend a_now_rise a_now_wandering a_now_thrown a_now_alike a_now_law a_now_tape a_now_side, aI G a_latest_body 20 r2.2.2, aT G a_now_law 8 f_now_law]) hP hD hS hFc [2, 0, 4] rfl rfl rfl hrun (fun H locs hP hD hS => ?_)
    injection hF with hz
    injection hz with hq0 hz
    injection hz with hq1 hz
    subst hq0
    subst hq1
    subst hz
    exact cm_reti hx hb hr rfl hlk hK hP hD hS dX11_act_58
  rw [if_neg c1] at hF
  by_cases c4 : l2 = 1
  · rw [if_pos c4] at hF
    refine lv_eqi c4 ?_
    refine lv_tableIn (tgt := 59) (off := 36) hx hb dX11_act_23 (by decide) (by decide) (by decide) (by decide) ?_
    refine lv_aload hx hb dX11_act_59 (lv_at hl 0 rfl) ?_
    refine W.eq (g2 := F0 m 61 ls [.ref a_q]) rfl ?_
    refine lv_iload_n hx hb dX11_act_61 rfl (lv_at hl 4 rfl) ?_
    refine lv_aload_n hx hb dX11_act_62 rfl (lv_at hl 1 rfl) ?_
    refine va_get (D := G.1) (ci := 11) (v := .ref a_latest) (C := RX11) (T := TX11) (N := 6) hx hb hts hin11 hown hK hP 1 rfl rfl 5 (by decide) lk_38 (fun _ h9 => h9) rfl dX11_act_63 ?_
    obtain ⟨r5, hc6, hF⟩ := bd_some hF
    have hPc := hP.sub (ws' := [o8 a_latest a_latest_body 0, oT c_q a_q x_q_kind x_q_number x_q_v x_q_caught a_q_steps, aI G a_latest_body 20 f_latest_body]) [2, 0, 4] rfl
    have hDc := hD.sub (ws' := [o8 a_latest a_latest_body 0, oT c_q a_q x_q_kind x_q_number x_q_v x_q_caught a_q_steps, aI G a_latest_body 20 f_latest_body]) [2, 0, 4] (by decide) rfl
    have hFc := va_free (wc := [o8 a_latest a_latest_body 0, oT c_q a_q x_q_kind x_q_number x_q_v x_q_caught a_q_steps, aI G a_latest_body 20 f_latest_body]) hD hS hA [2, 0, 4] rfl
    have hrun : va_Run p l e (rm_X11_act_s) s m args below meth c H locs 0 0 0 0 (F0 m 66 ls [.ref a_latest, .int l3, .ref a_q]) [] (QI G [o8 a_latest a_latest_body r5.2.1, oT c_q a_q x_q_kind x_q_number x_q_v x_q_caught a_q_steps, aI G a_latest_body 20 r5.2.2] r5.1 (va_A [o8 a_latest a_latest_body 0, oT c_q a_q x_q_kind x_q_number x_q_v x_q_caught a_q_steps, aI G a_latest_body 20 f_latest_body] H.size) (Value.ref a_q :: [.int l3, .ref a_latest]).toArray) (va_A [o8 a_latest a_latest_body 0, oT c_q a_q x_q_kind x_q_number x_q_v x_q_caught a_q_steps, aI G a_latest_body 20 f_latest_body] H.size) := by
      rcases hc_q with rfl | rfl | rfl | rfl | rfl | rfl | rfl
      · have hM := c_X0_lands l G 0 (by decide) a_latest a_latest_body a_q a_q_steps 0 x_q_kind x_q_number x_q_v x_q_caught f_latest_body l3 r5.1 r5.2.1 r5.2.2 (show fX0_lands 0 0 x_q_number x_q_v f_latest_body l3 = some (r5.1, r5.2.1, r5.2.2) from hc6) H.size
        exact va_runU (As := [.int l3, .ref a_latest]) (rest := []) ⟨hx, hb, hml, hown, hts⟩ hM (va_cwO 2 hts gX11_act_X0_lands_u227X0 rfl rfl rfl (b0 := cX7_lands) (m0 := 3) (r0 := (some .int)) (by decide +kernel) (by decide +kernel) ⟨Nat.le_of_ble_eq_true rfl, Nat.le_of_ble_eq_true rfl⟩) (cp_V hK hE hS hPc hDc hFc (va_recv hK hPc (ci := 0) (q0 := 1) rfl rfl)) rfl rfl hl.1 rfl (lv_room (Nat.le_of_ble_eq_true rfl)) dX11_act_66 ⟨Nat.zero_le _, Nat.zero_le _⟩
      · have hM := c_X1_lands l G a_latest a_latest_body a_q a_q_steps 0 x_q_kind x_q_number x_q_v x_q_caught f_latest_body l3 r5.1 r5.2.1 r5.2.2 (show fX1_lands 0 x_q_number x_q_v f_latest_body l3 = some (r5.1, r5.2.1, r5.2.2) from hc6) H.size
        exact va_runU (As := [.int l3, .ref a_latest]) (rest := []) ⟨hx, hb, hml, hown, hts⟩ hM (va_cwO 2 hts gX11_act_X1_lands_u227X1 rfl rfl rfl (b0 := cX7_lands) (m0 := 3) (r0 := (some .int)) (by decide +kernel) (by decide +kernel) ⟨Nat.le_of_ble_eq_true rfl, Nat.le_of_ble_eq_true rfl⟩) (cp_V hK hE hS hPc hDc hFc (va_recv hK hPc (ci := 1) (q0 := 1) rfl rfl)) rfl rfl hl.1 rfl (lv_room (Nat.le_of_ble_eq_true rfl)) dX11_act_66 ⟨Nat.zero_le _, Nat.zero_le _⟩
      · have hM := c_X7_lands l G 4 (by decide) a_latest a_latest_body a_q a_q_steps 0 x_q_kind x_q_number x_q_v x_q_caught f_latest_body l3 r5.1 r5.2.1 r5.2.2 (show fX7_lands 4 0 x_q_number x_q_v f_latest_body l3 = some (r5.1, r5.2.1, r5.2.2) from hc6) H.size
        exact va_runU (As := [.int l3, .ref a_latest]) (rest := []) ⟨hx, hb, hml, hown, hts⟩ hM (va_cwU 2 hts gX11_act_X7_lands_u227X4 rfl rfl rfl rfl (by decide +kernel) ⟨Nat.le_of_ble_eq_true rfl, Nat.le_of_ble_eq_true rfl⟩) (cp_V hK hE hS hPc hDc hFc (va_recv hK hPc (ci := 4) (q0 := 1) rfl rfl)) rfl rfl hl.1 rfl (lv_room (Nat.le_of_ble_eq_true rfl)) dX11_act_66 ⟨Nat.zero_le _, Nat.zero_le _⟩
      · have hM := c_X7_lands l G 5 (by decide) a_latest a_latest_body a_q a_q_steps 0 x_q_kind x_q_number x_q_v x_q_caught f_latest_body l3 r5.1 r5.2.1 r5.2.2 (show fX7_lands 5 0 x_q_number x_q_v f_latest_body l3 = some (r5.1, r5.2.1, r5.2.2) from hc6) H.size
        exact va_runU (As := [.int l3, .ref a_latest]) (rest := []) ⟨hx, hb, hml, hown, hts⟩ hM (va_cwU 2 hts gX11_act_X7_lands_u227X5 rfl rfl rfl rfl (by decide +kernel) ⟨Nat.le_of_ble_eq_true rfl, Nat.le_of_ble_eq_true rfl⟩) (cp_V hK hE hS hPc hDc hFc (va_recv hK hPc (ci := 5) (q0 := 1) rfl rfl)) rfl rfl hl.1 rfl (lv_room (Nat.le_of_ble_eq_true rfl)) dX11_act_66 ⟨Nat.zero_le _, Nat.zero_le _⟩
      · have hM := c_X7_lands l G 7 (by decide) a_latest a_latest_body a_q a_q_steps 0 x_q_kind x_q_number x_q_v x_q_caught f_latest_body l3 r5.1 r5.2.1 r5.2.2 (show fX7_lands 7 0 x_q_number x_q_v f_latest_body l3 = some (r5.1, r5.2.1, r5.2.2) from hc6) H.size
        exact va_runV (As := [.int l3, .ref a_latest]) (rest := []) ⟨hx, hb, hml, hown, hts⟩ hM (cwV 2 hts gX11_act_X7_lands rfl rfl rfl (by decide +kernel) ⟨Nat.le_of_ble_eq_true rfl, Nat.le_of_ble_eq_true rfl⟩) (cp_V hK hE hS hPc hDc hFc (va_recv hK hPc (ci := 7) (q0 := 1) rfl rfl)) rfl rfl hl.1 rfl (lv_room (Nat.le_of_ble_eq_true rfl)) dX11_act_66 ⟨Nat.zero_le _, Nat.zero_le _⟩
      · have hM := c_X7_lands l G 9 (by decide) a_latest a_latest_body a_q a_q_steps 0 x_q_kind x_q_number x_q_v x_q_caught f_latest_body l3 r5.1 r5.2.1 r5.2.2 (show fX7_lands 9 0 x_q_number x_q_v f_latest_body l3 = some (r5.1, r5.2.1, r5.2.2) from hc6) H.size
        exact va_runU (As := [.int l3, .ref a_latest]) (rest := []) ⟨hx, hb, hml, hown, hts⟩ hM (va_cwU 2 hts gX11_act_X7_lands_u227X9 rfl rfl rfl rfl (by decide +kernel) ⟨Nat.le_of_ble_eq_true rfl, Nat.le_of_ble_eq_true rfl⟩) (cp_V hK hE hS hPc hDc hFc (va_recv hK hPc (ci := 9) (q0 := 1) rfl rfl)) rfl rfl hl.1 rfl (lv_room (Nat.le_of_ble_eq_true rfl)) dX11_act_66 ⟨Nat.zero_le _, Nat.zero_le _⟩
      · have hM := c_X7_lands l G 10 (by decide) a_latest a_latest_body a_q a_q_steps 0 x_q_kind x_q_number x_q_v x_q_caught f_latest_body l3 r5.1 r5.2.1 r5.2.2 (show fX7_lands 10 0 x_q_number x_q_v f_latest_body l3 = some (r5.1, r5.2.1, r5.2.2) from hc6) H.size
        exact va_runU (As := [.int l3, .ref a_latest]) (rest := []) ⟨hx, hb, hml, hown, hts⟩ hM (va_cwU 2 hts gX11_act_X7_lands_u227X10 rfl rfl rfl rfl (by decide +kernel) ⟨Nat.le_of_ble_eq_true rfl, Nat.le_of_ble_eq_true rfl⟩) (cp_V hK hE hS hPc hDc hFc (va_recv hK hPc (ci := 10) (q0 := 1) rfl rfl)) rfl rfl hl.1 rfl (lv_room (Nat.le_of_ble_eq_true rfl)) dX11_act_66 ⟨Nat.zero_le _, Nat.zero_le _⟩
    refine cl_i (w1 := [o8 a_latest a_latest_body r5.2.1, oT c_q a_q x_q_kind x_q_number x_q_v x_q_caught a_q_steps, aI G a_latest_body 20 r5.2.2]) (ws' := [oT c_q a_q x_q_kind x_q_number x_q_v x_q_caught a_q_steps, o11 h a_now a_kept x_isKept a_reader a_flight a_latest, o8 a_latest a_latest_body r5.2.1, o6 a_now x_now_coins x_now_hands x_now_laws x_now_bytes x_now_sides a_now_edge a_now_bend a_now_rise a_now_wandering a_now_thrown a_now_alike a_now_law a_now_tape a_now_side, aI G a_latest_body 20 r5.2.2, aT G a_now_law 8 f_now_law]) hP hD hS hFc [2, 0, 4] rfl rfl rfl hrun (fun H locs hP hD hS => ?_)
    injection hF with hz
    injection hz with hq0 hz
    injection hz with hq1 hz
    subst hq0
    subst hq1
    subst hz
    exact cm_reti hx hb hr rfl hlk hK hP hD hS dX11_act_69
  rw [if_neg c4] at hF
  by_cases c7 : l2 = 2
  · rw [if_pos c7] at hF
    refine lv_eqi c7 ?_
    refine lv_tableIn (tgt := 70) (off := 47) hx hb dX11_act_23 (by decide) (by decide) (by decide) (by decide) ?_
    refine lv_aload hx hb dX11_act_70 (lv_at hl 0 rfl) ?_
    refine W.eq (g2 := F0 m 72 ls [.ref a_q]) rfl ?_
    refine lv_iload_n hx hb dX11_act_72 rfl (lv_at hl 4 rfl) ?_
    refine lv_aload_n hx hb dX11_act_73 rfl (lv_at hl 1 rfl) ?_
    refine va_get (D := G.1) (ci := 11) (v := .ref a_latest) (C := RX11) (T := TX11) (N := 6) hx hb hts hin11 hown hK hP 1 rfl rfl 5 (by decide) lk_38 (fun _ h9 => h9) rfl dX11_act_74 ?_
    obtain ⟨r8, hc9, hF⟩ := bd_some hF
    have hPc := hP.sub (ws' := [o8 a_latest a_latest_body 0, oT c_q a_q x_q_kind x_q_number x_q_v x_q_caught a_q_steps, aI G a_latest_body 20 f_latest_body]) [2, 0, 4] rfl
    have hDc := hD.sub (ws' := [o8 a_latest a_latest_body 0, oT c_q a_q x_q_kind x_q_number x_q_v x_q_caught a_q_steps, aI G a_latest_body 20 f_latest_body]) [2, 0, 4] (by decide) rfl
    have hFc := va_free (wc := [o8 a_latest a_latest_body 0, oT c_q a_q x_q_kind x_q_number x_q_v x_q_caught a_q_steps, aI G a_latest_body 20 f_latest_body]) hD hS hA [2, 0, 4] rfl
    have hrun : va_Run p l e (rm_X11_act_s) s m args below meth c H locs 0 0 0 0 (F0 m 77 ls [.ref a_latest, .int l3, .ref a_q]) [] (QI G [o8 a_latest a_latest_body r8.2.1, oT c_q a_q x_q_kind x_q_number x_q_v x_q_caught a_q_steps, aI G a_latest_body 20 r8.2.2] r8.1 (va_A [o8 a_latest a_latest_body 0, oT c_q a_q x_q_kind x_q_number x_q_v x_q_caught a_q_steps, aI G a_latest_body 20 f_latest_body] H.size) (Value.ref a_q :: [.int l3, .ref a_latest]).toArray) (va_A [o8 a_latest a_latest_body 0, oT c_q a_q x_q_kind x_q_number x_q_v x_q_caught a_q_steps, aI G a_latest_body 20 f_latest_body] H.size) := by
      rcases hc_q with rfl | rfl | rfl | rfl | rfl | rfl | rfl
      · have hM := c_X7_leans l G 0 (by decide) a_latest a_latest_body a_q a_q_steps 0 x_q_kind x_q_number x_q_v x_q_caught f_latest_body l3 r8.1 r8.2.1 r8.2.2 (show fX7_leans 0 0 x_q_number x_q_v f_latest_body l3 = some (r8.1, r8.2.1, r8.2.2) from hc9) H.size
        exact va_runU (As := [.int l3, .ref a_latest]) (rest := []) ⟨hx, hb, hml, hown, hts⟩ hM (va_cwU 2 hts gX11_act_X7_leans_u230X0 rfl rfl rfl rfl (by decide +kernel) ⟨Nat.le_of_ble_eq_true rfl, Nat.le_of_ble_eq_true rfl⟩) (cp_V hK hE hS hPc hDc hFc (va_recv hK hPc (ci := 0) (q0 := 1) rfl rfl)) rfl rfl hl.1 rfl (lv_room (Nat.le_of_ble_eq_true rfl)) dX11_act_77 ⟨Nat.zero_le _, Nat.zero_le _⟩
      · have hM := c_X7_leans l G 1 (by decide) a_latest a_latest_body a_q a_q_steps 0 x_q_kind x_q_number x_q_v x_q_caught f_latest_body l3 r8.1 r8.2.1 r8.2.2 (show fX7_leans 1 0 x_q_number x_q_v f_latest_body l3 = some (r8.1, r8.2.1, r8.2.2) from hc9) H.size
        exact va_runU (As := [.int l3, .ref a_latest]) (rest := []) ⟨hx, hb, hml, hown, hts⟩ hM (va_cwU 2 hts gX11_act_X7_leans_u230X1 rfl rfl rfl rfl (by decide +kernel) ⟨Nat.le_of_ble_eq_true rfl, Nat.le_of_ble_eq_true rfl⟩) (cp_V hK hE hS hPc hDc hFc (va_recv hK hPc (ci := 1) (q0 := 1) rfl rfl)) rfl rfl hl.1 rfl (lv_room (Nat.le_of_ble_eq_true rfl)) dX11_act_77 ⟨Nat.zero_le _, Nat.zero_le _⟩
      · have hM := c_X10_leans l G 4 (by decide) a_latest a_latest_body a_q a_q_steps 0 x_q_kind x_q_number x_q_v x_q_caught f_latest_body l3 r8.1 r8.2.1 r8.2.2 (show fX10_leans 4 0 x_q_number x_q_v f_latest_body l3 = some (r8.1, r8.2.1, r8.2.2) from hc9) H.size
        exact va_runU (As := [.int l3, .ref a_latest]) (rest := []) ⟨hx, hb, hml, hown, hts⟩ hM (va_cwO 2 hts gX11_act_X10_leans_u230X4 rfl rfl rfl (b0 := cX7_leans) (m0 := 3) (r0 := (some .int)) (by decide +kernel) (by decide +kernel) ⟨Nat.le_of_ble_eq_true rfl, Nat.le_of_ble_eq_true rfl⟩) (cp_V hK hE hS hPc hDc hFc (va_recv hK hPc (ci := 4) (q0 := 1) rfl rfl)) rfl rfl hl.1 rfl (lv_room (Nat.le_of_ble_eq_true rfl)) dX11_act_77 ⟨Nat.zero_le _, Nat.zero_le _⟩
      · have hM := c_X5_leans l G a_latest a_latest_body a_q a_q_steps 0 x_q_kind x_q_number x_q_v x_q_caught f_latest_body l3 r8.1 r8.2.1 r8.2.2 (show fX5_leans 0 x_q_number x_q_v f_latest_body l3 = some (r8.1, r8.2.1, r8.2.2) from hc9) H.size
        exact va_runU (As := [.int l3, .ref a_latest]) (rest := []) ⟨hx, hb, hml, hown, hts⟩ hM (va_cwO 2 hts gX11_act_X5_leans_u230X5 rfl rfl rfl (b0 := cX7_leans) (m0 := 3) (r0 := (some .int)) (by decide +kernel) (by decide +kernel) ⟨Nat.le_of_ble_eq_true rfl, Nat.le_of_ble_eq_true rfl⟩) (cp_V hK hE hS hPc hDc hFc (va_recv hK hPc (ci := 5) (q0 := 1) rfl rfl)) rfl rfl hl.1 rfl (lv_room (Nat.le_of_ble_eq_true rfl)) dX11_act_77 ⟨Nat.zero_le _, Nat.zero_le _⟩
      · have hM := c_X7_leans l G 7 (by decide) a_latest a_latest_body a_q a_q_steps 0 x_q_kind x_q_number x_q_v x_q_caught f_latest_body l3 r8.1 r8.2.1 r8.2.2 (show fX7_leans 7 0 x_q_number x_q_v f_latest_body l3 = some (r8.1, r8.2.1, r8.2.2) from hc9) H.size
        exact va_runV (As := [.int l3, .ref a_latest]) (rest := []) ⟨hx, hb, hml, hown, hts⟩ hM (cwV 2 hts gX11_act_X7_leans rfl rfl rfl (by decide +kernel) ⟨Nat.le_of_ble_eq_true rfl, Nat.le_of_ble_eq_true rfl⟩) (cp_V hK hE hS hPc hDc hFc (va_recv hK hPc (ci := 7) (q0 := 1) rfl rfl)) rfl rfl hl.1 rfl (lv_room (Nat.le_of_ble_eq_true rfl)) dX11_act_77 ⟨Nat.zero_le _, Nat.zero_le _⟩
      · have hM := c_X7_leans l G 9 (by decide) a_latest a_latest_body a_q a_q_steps 0 x_q_kind x_q_number x_q_v x_q_caught f_latest_body l3 r8.1 r8.2.1 r8.2.2 (show fX7_leans 9 0 x_q_number x_q_v f_latest_body l3 = some (r8.1, r8.2.1, r8.2.2) from hc9) H.size
        exact va_runU (As := [.int l3, .ref a_latest]) (rest := []) ⟨hx, hb, hml, hown, hts⟩ hM (va_cwU 2 hts gX11_act_X7_leans_u230X9 rfl rfl rfl rfl (by decide +kernel) ⟨Nat.le_of_ble_eq_true rfl, Nat.le_of_ble_eq_true rfl⟩) (cp_V hK hE hS hPc hDc hFc (va_recv hK hPc (ci := 9) (q0 := 1) rfl rfl)) rfl rfl hl.1 rfl (lv_room (Nat.le_of_ble_eq_true rfl)) dX11_act_77 ⟨Nat.zero_le _, Nat.zero_le _⟩
      · have hM := c_X10_leans l G 10 (by decide) a_latest a_latest_body a_q a_q_steps 0 x_q_kind x_q_number x_q_v x_q_caught f_latest_body l3 r8.1 r8.2.1 r8.2.2 (show fX10_leans 10 0 x_q_number x_q_v f_latest_body l3 = some (r8.1, r8.2.1, r8.2.2) from hc9) H.size
        exact va_runU (As := [.int l3, .ref a_latest]) (rest := []) ⟨hx, hb, hml, hown, hts⟩ hM (va_cwO 2 hts gX11_act_X10_leans_u230X10 rfl rfl rfl (b0 := cX7_leans) (m0 := 3) (r0 := (some .int)) (by decide +kernel) (by decide +kernel) ⟨Nat.le_of_ble_eq_true rfl, Nat.le_of_ble_eq_true rfl⟩) (cp_V hK hE hS hPc hDc hFc (va_recv hK hPc (ci := 10) (q0 := 1) rfl rfl)) rfl rfl hl.1 rfl (lv_room (Nat.le_of_ble_eq_true rfl)) dX11_act_77 ⟨Nat.zero_le _, Nat.zero_le _⟩
    refine cl_i (w1 := [o8 a_latest a_latest_body r8.2.1, oT c_q a_q x_q_kind x_q_number x_q_v x_q_caught a_q_steps, aI G a_latest_body 20 r8.2.2]) (ws' := [oT c_q a_q x_q_kind x_q_number x_q_v x_q_caught a_q_steps, o11 h a_now a_kept x_isKept a_reader a_flight a_latest, o8 a_latest a_latest_body r8.2.1, o6 a_now x_now_coins x_now_hands x_now_laws x_now_bytes x_now_sides a_now_edge a_now_bend a_now_rise a_now_wandering a_now_thrown a_now_alike a_now_law a_now_tape a_now_side, aI G a_latest_body 20 r8.2.2, aT G a_now_law 8 f_now_law]) hP hD hS hFc [2, 0, 4] rfl rfl rfl hrun (fun H locs hP hD hS => ?_)
    injection hF with hz
    injection hz with hq0 hz
    injection hz with hq1 hz
    subst hq0
    subst hq1
    subst hz
    exact cm_reti hx hb hr rfl hlk hK hP hD hS dX11_act_80
  rw [if_neg c7] at hF
  refine lv_tableOut (tgt := 81) hx hb dX11_act_23 (by have a0 := lv_neT (k := 0) (a := 0) c1 (by decide); have a1 := lv_neT (k := 1) (a := 1) c4 (by decide); have a2 := lv_neT (k := 2) (a := 2) c7 (by decide); omega) (by decide) ?_
  refine lv_iconst (v := 0) hx hb dX11_act_81 (by decide) ?_
  refine W.eq (g2 := F0 m 82 ls [.int 0]) rfl ?_
  injection hF with hz
  injection hz with hq0 hz
  injection hz with hq1 hz
  subst hq0
  subst hq1
  subst hz
  exact cm_reti hx hb hr rfl hlk hK hP hD hS dX11_act_82

/-! HeadsByHair.as(II)I, n -/
abbrev rm_X11_as_n : Room := { frames := 2, cells := 0, slots := 0, locals := 43 }
set_option maxHeartbeats 4000000 in
set_option maxRecDepth 100000 in
theorem c_X11_as_n (l : Launch) (G : GG) (h a_now a_kept a_reader a_flight a_latest a_now_edge a_now_bend a_now_rise a_now_wandering a_now_thrown a_now_alike a_now_law a_now_tape a_now_side : Nat) (x_isKept x_now_coins x_now_hands x_now_laws x_now_bytes x_now_sides : Int32) (f_now_law : Nat → Option Nat) (l1 : Int32) (l2 : Int32) (z : Int32) (hlaw : fX11_lawOf x_now_laws f_now_law l1 = some none) (hF : fX11_as_n x_now_laws f_now_law l1 l2 = some (z)) : CMi l yX11_as wsX11_as rm_X11_as_n G [o11 h a_now a_kept x_isKept a_reader a_flight a_latest, o6 a_now x_now_coins x_now_hands x_now_laws x_now_bytes x_now_sides a_now_edge a_now_bend a_now_rise a_now_wandering a_now_thrown a_now_alike a_now_law a_now_tape a_now_side, aT G a_now_law 8 f_now_law] [o11 h a_now a_kept x_isKept a_reader a_flight a_latest, o6 a_now x_now_coins x_now_hands x_now_laws x_now_bytes x_now_sides a_now_edge a_now_bend a_now_rise a_now_wandering a_now_thrown a_now_alike a_now_law a_now_tape a_now_side, aT G a_now_law 8 f_now_law] [.ref h, .int l1, .int l2] z := by
  refine cm_start (cc := cX11_as) (maxL := 4) (ret := (some .int)) (Qc := fun A => QI G [o11 h a_now a_kept x_isKept a_reader a_flight a_latest, o6 a_now x_now_coins x_now_hands x_now_laws x_now_bytes x_now_sides a_now_edge a_now_bend a_now_rise a_now_wandering a_now_thrown a_now_alike a_now_law a_now_tape a_now_side, aT G a_now_law 8 f_now_law] z A) (by decide +kernel) rfl (Nat.le_of_ble_eq_true rfl) ?_
  intro p e s m args below meth c A hx hb hr hlk hml hown hnm hts hA H locs hP hK hD hE hS ls hl
  have hown : s.vm.findClass RX11 = some m.cls := hown
  have hl : lv_has ls 4 [(0, .ref h), (1, .int l1), (2, .int l2)] := hl
  revert hF
  intro hF
  unfold fX11_as_n at hF
  refine lv_aload_n hx hb dX11_as_0 rfl (lv_at hl 0 rfl) ?_
  refine lv_iload_n hx hb dX11_as_1 rfl (lv_at hl 1 rfl) ?_
  have hPc := hP.sub (ws' := [o11 h a_now a_kept x_isKept a_reader a_flight a_latest, o6 a_now x_now_coins x_now_hands x_now_laws x_now_bytes x_now_sides a_now_edge a_now_bend a_now_rise a_now_wandering a_now_thrown a_now_alike a_now_law a_now_tape a_now_side, aT G a_now_law 8 f_now_law]) [0, 1, 2] rfl
  have hDc := hD.sub (ws' := [o11 h a_now a_kept x_isKept a_reader a_flight a_latest, o6 a_now x_now_coins x_now_hands x_now_laws x_now_bytes x_now_sides a_now_edge a_now_bend a_now_rise a_now_wandering a_now_thrown a_now_alike a_now_law a_now_tape a_now_side, aT G a_now_law 8 f_now_law]) [0, 1, 2] (by decide) rfl
  have hFc := va_free (wc := [o11 h a_now a_kept x_isKept a_reader a_flight a_latest, o6 a_now x_now_coins x_now_hands x_now_laws x_now_bytes x_now_sides a_now_edge a_now_bend a_now_rise a_now_wandering a_now_thrown a_now_alike a_now_law a_now_tape a_now_side, aT G a_now_law 8 f_now_law]) hD hS hA [0, 1, 2] rfl
  have hM := c_X11_lawOf l G h a_now a_kept a_reader a_flight a_latest a_now_edge a_now_bend a_now_rise a_now_wandering a_now_thrown a_now_alike a_now_law a_now_tape a_now_side x_isKept x_now_coins x_now_hands x_now_laws x_now_bytes x_now_sides f_now_law l1 none hlaw H.size
  refine cl_r (z := none) (w1 := [o11 h a_now a_kept x_isKept a_reader a_flight a_latest, o6 a_now x_now_coins x_now_hands x_now_laws x_now_bytes x_now_sides a_now_edge a_now_bend a_now_rise a_now_wandering a_now_thrown a_now_alike a_now_law a_now_tape a_now_side, aT G a_now_law 8 f_now_law]) (ws' := [o11 h a_now a_kept x_isKept a_reader a_flight a_latest, o6 a_now x_now_coins x_now_hands x_now_laws x_now_bytes x_now_sides a_now_edge a_now_bend a_now_rise a_now_wandering a_now_thrown a_now_alike a_now_law a_now_tape a_now_side, aT G a_now_law 8 f_now_law]) hP hD hS hFc [0, 1, 2] rfl rfl rfl (va_runV (As := [.int l1]) (rest := []) ⟨hx, hb, hml, hown, hts⟩ hM (cwV 1 hts gX11_as_X11_lawOf rfl rfl rfl (by decide +kernel) ⟨Nat.le_of_ble_eq_true rfl, Nat.le_of_ble_eq_true rfl⟩) (cp_V hK hE hS hPc hDc hFc (va_recv hK hPc (ci := 11) (q0 := 0) rfl rfl)) rfl rfl hl.1 rfl (lv_room (Nat.le_of_ble_eq_true rfl)) dX11_as_2 ⟨Nat.zero_le _, Nat.zero_le _⟩) (fun H locs hP hD hS => ?_)
  refine W.eq (g2 := F0 m 5 ls [.null]) rfl ?_
  refine lv_astore_nN (lv' := [(3, .null), (0, .ref h), (1, .int l1), (2, .int l2)]) hx hb dX11_as_5 rfl hl (by decide) rfl (fun ls hl => ?_)
  refine lv_aload_nN hx hb dX11_as_6 rfl (lv_at hl 0 rfl) ?_
  refine lv_ifnullN (tgt := 20) hx hb dX11_as_7 (by decide) ?_
  refine lv_iconst (v := (-1)) hx hb dX11_as_20 (by decide) ?_
  injection hF with hz
  subst hz
  exact cm_reti hx hb hr rfl hlk hK hP hD hS dX11_as_21

/-! HeadsByHair.as(II)I, s -/
abbrev rm_X11_as_s : Room := { frames := 2, cells := 0, slots := 0, locals := 43 }
set_option maxHeartbeats 4000000 in
set_option maxRecDepth 100000 in
theorem c_X11_as_s (l : Launch) (G : GG) (c_q : Nat) (hc_q : c_q = 0 ∨ c_q = 1 ∨ c_q = 4 ∨ c_q = 5 ∨ c_q = 7 ∨ c_q = 9 ∨ c_q = 10) (a_q a_q_steps h a_now a_kept a_reader a_flight a_latest a_now_edge a_now_bend a_now_rise a_now_wandering a_now_thrown a_now_alike a_now_law a_now_tape a_now_side : Nat) (x_q_kind x_q_number x_q_v x_q_caught x_isKept x_now_coins x_now_hands x_now_laws x_now_bytes x_now_sides : Int32) (f_now_law : Nat → Option Nat) (l1 : Int32) (l2 : Int32) (z : Int32) (hlaw : fX11_lawOf x_now_laws f_now_law l1 = some (some a_q)) (hF : fX11_as_s c_q x_q_v x_now_laws f_now_law l1 l2 = some (z)) : CMi l yX11_as wsX11_as rm_X11_as_s G [oT c_q a_q x_q_kind x_q_number x_q_v x_q_caught a_q_steps, o11 h a_now a_kept x_isKept a_reader a_flight a_latest, o6 a_now x_now_coins x_now_hands x_now_laws x_now_bytes x_now_sides a_now_edge a_now_bend a_now_rise a_now_wandering a_now_thrown a_now_alike a_now_law a_now_tape a_now_side, aT G a_now_law 8 f_now_law] [oT c_q a_q x_q_kind x_q_number x_q_v x_q_caught a_q_steps, o11 h a_now a_kept x_isKept a_reader a_flight a_latest, o6 a_now x_now_coins x_now_hands x_now_laws x_now_bytes x_now_sides a_now_edge a_now_bend a_now_rise a_now_wandering a_now_thrown a_now_alike a_now_law a_now_tape a_now_side, aT G a_now_law 8 f_now_law] [.ref h, .int l1, .int l2] z := by
  refine cm_start (cc := cX11_as) (maxL := 4) (ret := (some .int)) (Qc := fun A => QI G [oT c_q a_q x_q_kind x_q_number x_q_v x_q_caught a_q_steps, o11 h a_now a_kept x_isKept a_reader a_flight a_latest, o6 a_now x_now_coins x_now_hands x_now_laws x_now_bytes x_now_sides a_now_edge a_now_bend a_now_rise a_now_wandering a_now_thrown a_now_alike a_now_law a_now_tape a_now_side, aT G a_now_law 8 f_now_law] z A) (by decide +kernel) rfl (Nat.le_of_ble_eq_true rfl) ?_
  intro p e s m args below meth c A hx hb hr hlk hml hown hnm hts hA H locs hP hK hD hE hS ls hl
  have hown : s.vm.findClass RX11 = some m.cls := hown
  have hl : lv_has ls 4 [(0, .ref h), (1, .int l1), (2, .int l2)] := hl
  have hT_c_q : isT c_q := by unfold isT; omega
  have hin_c_q : ∀ w ∈ u_ws (tC c_q) TX7 5, w ∈ wsX11_as := by rcases hc_q with rfl | rfl | rfl | rfl | rfl | rfl | rfl <;> decide +kernel
  have lk_122 := hts (.fieldLink RX11 122 "HeadsByHair$Throw" "v" "I") (by decide +kernel)
  revert hF
  intro hF
  unfold fX11_as_s at hF
  refine lv_aload_n hx hb dX11_as_0 rfl (lv_at hl 0 rfl) ?_
  refine lv_iload_n hx hb dX11_as_1 rfl (lv_at hl 1 rfl) ?_
  have hPc := hP.sub (ws' := [o11 h a_now a_kept x_isKept a_reader a_flight a_latest, o6 a_now x_now_coins x_now_hands x_now_laws x_now_bytes x_now_sides a_now_edge a_now_bend a_now_rise a_now_wandering a_now_thrown a_now_alike a_now_law a_now_tape a_now_side, aT G a_now_law 8 f_now_law]) [1, 2, 3] rfl
  have hDc := hD.sub (ws' := [o11 h a_now a_kept x_isKept a_reader a_flight a_latest, o6 a_now x_now_coins x_now_hands x_now_laws x_now_bytes x_now_sides a_now_edge a_now_bend a_now_rise a_now_wandering a_now_thrown a_now_alike a_now_law a_now_tape a_now_side, aT G a_now_law 8 f_now_law]) [1, 2, 3] (by decide) rfl
  have hFc := va_free (wc := [o11 h a_now a_kept x_isKept a_reader a_flight a_latest, o6 a_now x_now_coins x_now_hands x_now_laws x_now_bytes x_now_sides a_now_edge a_now_bend a_now_rise a_now_wandering a_now_thrown a_now_alike a_now_law a_now_tape a_now_side, aT G a_now_law 8 f_now_law]) hD hS hA [1, 2, 3] rfl
  have hM := c_X11_lawOf l G h a_now a_kept a_reader a_flight a_latest a_now_edge a_now_bend a_now_rise a_now_wandering a_now_thrown a_now_alike a_now_law a_now_tape a_now_side x_isKept x_now_coins x_now_hands x_now_laws x_now_bytes x_now_sides f_now_law l1 (some a_q) hlaw H.size
  refine cl_r (z := (some a_q)) (w1 := [o11 h a_now a_kept x_isKept a_reader a_flight a_latest, o6 a_now x_now_coins x_now_hands x_now_laws x_now_bytes x_now_sides a_now_edge a_now_bend a_now_rise a_now_wandering a_now_thrown a_now_alike a_now_law a_now_tape a_now_side, aT G a_now_law 8 f_now_law]) (ws' := [oT c_q a_q x_q_kind x_q_number x_q_v x_q_caught a_q_steps, o11 h a_now a_kept x_isKept a_reader a_flight a_latest, o6 a_now x_now_coins x_now_hands x_now_laws x_now_bytes x_now_sides a_now_edge a_now_bend a_now_rise a_now_wandering a_now_thrown a_now_alike a_now_law a_now_tape a_now_side, aT G a_now_law 8 f_now_law]) hP hD hS hFc [1, 2, 3] rfl rfl rfl (va_runV (As := [.int l1]) (rest := []) ⟨hx, hb, hml, hown, hts⟩ hM (cwV 1 hts gX11_as_X11_lawOf rfl rfl rfl (by decide +kernel) ⟨Nat.le_of_ble_eq_true rfl, Nat.le_of_ble_eq_true rfl⟩) (cp_V hK hE hS hPc hDc hFc (va_recv hK hPc (ci := 11) (q0 := 0) rfl rfl)) rfl rfl hl.1 rfl (lv_room (Nat.le_of_ble_eq_true rfl)) dX11_as_2 ⟨Nat.zero_le _, Nat.zero_le _⟩) (fun H locs hP hD hS => ?_)
  refine W.eq (g2 := F0 m 5 ls [.ref a_q]) rfl ?_
  refine lv_astore_n (lv' := [(3, .ref a_q), (0, .ref h), (1, .int l1), (2, .int l2)]) hx hb dX11_as_5 rfl hl (by decide) rfl (fun ls hl => ?_)
  refine lv_aload_n hx hb dX11_as_6 rfl (lv_at hl 0 rfl) ?_
  refine lv_ifnull hx hb dX11_as_7 ?_
  refine lv_iload_n hx hb dX11_as_10 rfl (lv_at hl 3 rfl) ?_
  refine lv_iconst (v := 0) hx hb dX11_as_11 (by decide) ?_
  refine lv_bipush (v := 6) hx hb dX11_as_12 (by decide) ?_
  obtain ⟨r1, hc2, hF⟩ := bd_some hF
  have hPc := hP.sub (ws' := []) [] rfl
  have hDc := hD.sub (ws' := []) [] (by decide) rfl
  have hFc := va_free (wc := []) hD hS hA [] rfl
  have hM := c_X11_isWithin l G l2 (0 : Int32) (6 : Int32) r1 hc2 H.size
  refine cl_i (w1 := []) (ws' := [oT c_q a_q x_q_kind x_q_number x_q_v x_q_caught a_q_steps, o11 h a_now a_kept x_isKept a_reader a_flight a_latest, o6 a_now x_now_coins x_now_hands x_now_laws x_now_bytes x_now_sides a_now_edge a_now_bend a_now_rise a_now_wandering a_now_thrown a_now_alike a_now_law a_now_tape a_now_side, aT G a_now_law 8 f_now_law]) hP hD hS hFc [] rfl rfl rfl (va_runS (As := [.int l2, .int 0, .int 6]) (rest := []) ⟨hx, hb, hml, hown, hts⟩ hM (va_cwS 3 hts gX11_as_X11_isWithin rfl rfl rfl (by decide +kernel) ⟨Nat.le_of_ble_eq_true rfl, Nat.le_of_ble_eq_true rfl⟩) (cp_S hK hE hS hPc hDc hFc) rfl rfl hl.1 rfl (lv_room (Nat.le_of_ble_eq_true rfl)) dX11_as_14 ⟨Nat.zero_le _, Nat.zero_le _⟩) (fun H locs hP hD hS => ?_)
  refine lv_if_ne (tgt := 22) hx hb dX11_as_17 (by decide) (fun c3 => ?_) (fun c3 => ?_)
  · rw [if_neg c3] at hF
    refine lv_aload_n hx hb dX11_as_22 rfl (lv_at hl 0 rfl) ?_
    refine lv_iload_n hx hb dX11_as_23 rfl (lv_at hl 3 rfl) ?_
    refine W.eq (g2 := F0 m 24 ls [.int l2, .ref a_q]) rfl ?_
    obtain ⟨r4, hc5, hF⟩ := bd_some hF
    have hPc := hP.sub (ws' := [oT c_q a_q x_q_kind x_q_number x_q_v x_q_caught a_q_steps]) [0] rfl
    have hDc := hD.sub (ws' := [oT c_q a_q x_q_kind x_q_number x_q_v x_q_caught a_q_steps]) [0] (by decide) rfl
    have hFc := va_free (wc := [oT c_q a_q x_q_kind x_q_number x_q_v x_q_caught a_q_steps]) hD hS hA [0] rfl
    have hM := c_X11_isOfKind l G c_q (by omega) a_q a_q_steps x_q_kind x_q_number x_q_v x_q_caught l2 r4 hc5 H.size
    refine cl_i (w1 := [oT c_q a_q x_q_kind x_q_number x_q_v x_q_caught a_q_steps]) (ws' := [oT c_q a_q x_q_kind x_q_number x_q_v x_q_caught a_q_steps, o11 h a_now a_kept x_isKept a_reader a_flight a_latest, o6 a_now x_now_coins x_now_hands x_now_laws x_now_bytes x_now_sides a_now_edge a_now_bend a_now_rise a_now_wandering a_now_thrown a_now_alike a_now_law a_now_tape a_now_side, aT G a_now_law 8 f_now_law]) hP hD hS hFc [0] rfl rfl rfl (va_runS (As := [.ref a_q, .int l2]) (rest := []) ⟨hx, hb, hml, hown, hts⟩ hM (va_cwS 2 hts gX11_as_X11_isOfKind rfl rfl rfl (by decide +kernel) ⟨Nat.le_of_ble_eq_true rfl, Nat.le_of_ble_eq_true rfl⟩) (cp_S hK hE hS hPc hDc hFc) rfl rfl hl.1 rfl (lv_room (Nat.le_of_ble_eq_true rfl)) dX11_as_24 ⟨Nat.zero_le _, Nat.zero_le _⟩) (fun H locs hP hD hS => ?_)
    refine lv_if_eq (tgt := 37) hx hb dX11_as_27 (by decide) (fun c6 => ?_) (fun c6 => ?_)
    · rw [if_pos c6] at hF
      refine lv_bipush (v := (-6)) hx hb dX11_as_37 (by decide) ?_
      injection hF with hz
      subst hz
      exact cm_reti hx hb hr rfl hlk hK hP hD hS dX11_as_39
    rw [if_neg c6] at hF
    refine lv_aload_n hx hb dX11_as_30 rfl (lv_at hl 0 rfl) ?_
    refine va_get (D := G.1) (ci := c_q) (v := .int x_q_v) (C := tC c_q) (T := TX7) (N := 5) hx hb hts hin_c_q hown hK hP 0 rfl (tC_at hT_c_q) 2 (by decide) lk_122 (fun _ h9 => h9) rfl dX11_as_31 ?_
    refine lv_goto (tgt := 39) hx hb dX11_as_34 (by decide) ?_
    injection hF with hz
    subst hz
    exact cm_reti hx hb hr rfl hlk hK hP hD hS dX11_as_39
  rw [if_pos c3] at hF
  refine lv_iconst (v := (-1)) hx hb dX11_as_20 (by decide) ?_
  injection hF with hz
  subst hz
  exact cm_reti hx hb hr rfl hlk hK hP hD hS dX11_as_21
