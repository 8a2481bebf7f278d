abbrev rg_tM (d : Nat) : Room := { frames := 10 + d, cells := 0, slots := 0, locals := 300 + 60 * d }
/-! HeadsByHairModel.factor()V -/
set_option maxHeartbeats 4000000 in
set_option maxRecDepth 100000 in
theorem c_X12_factor (l : Launch) (G : GG) (d : Nat) (g_X12_factor : Int32 → Int32 → Int32 → Int32 → Int32 → (Nat → Int32) → Option (Int32 × Int32 × Int32 × (Nat → Int32))) (hg_X12_factor : ∀ (h a_s a_image a_by a_truths a_bodies : Nat) (x_thrown x_hasImage x_act x_spot x_end x_isWrong x_open x_turn x_lean x_last x_angle x_asLay x_ticks x_ran x_kind x_number x_tellsV : Int32) (f_s : Nat → Int32) (z_x_spot : Int32) (z_x_isWrong : Int32) (z_x_open : Int32) (z_f_s : Nat → Int32), g_X12_factor x_act x_spot x_end x_isWrong x_open f_s = some (z_x_spot, z_x_isWrong, z_x_open, z_f_s) → CMv l yX12_factor wsX12_factor (rg_tM d) G [o12 h x_thrown a_s a_image x_hasImage x_act x_spot x_end x_isWrong x_open a_by a_truths x_turn x_lean x_last x_angle x_asLay x_ticks a_bodies x_ran x_kind x_number x_tellsV, aI G a_s 1394 f_s] [o12 h x_thrown a_s a_image x_hasImage x_act z_x_spot x_end z_x_isWrong z_x_open a_by a_truths x_turn x_lean x_last x_angle x_asLay x_ticks a_bodies x_ran x_kind x_number x_tellsV, aI G a_s 1394 z_f_s] [.ref h]) (g_X12_every : Int32 → Int32 → Int32 → Int32 → Int32 → (Nat → Int32) → Option (Int32 × Int32 × Int32 × (Nat → Int32))) (hg_X12_every : ∀ (h a_s a_image a_by a_truths a_bodies : Nat) (x_thrown x_hasImage x_act x_spot x_end x_isWrong x_open x_turn x_lean x_last x_angle x_asLay x_ticks x_ran x_kind x_number x_tellsV : Int32) (f_s : Nat → Int32) (z_x_spot : Int32) (z_x_isWrong : Int32) (z_x_open : Int32) (z_f_s : Nat → Int32), g_X12_every x_act x_spot x_end x_isWrong x_open f_s = some (z_x_spot, z_x_isWrong, z_x_open, z_f_s) → CMv l yX12_every wsX12_every (rg_tM d) G [o12 h x_thrown a_s a_image x_hasImage x_act x_spot x_end x_isWrong x_open a_by a_truths x_turn x_lean x_last x_angle x_asLay x_ticks a_bodies x_ran x_kind x_number x_tellsV, aI G a_s 1394 f_s] [o12 h x_thrown a_s a_image x_hasImage x_act z_x_spot x_end z_x_isWrong z_x_open a_by a_truths x_turn x_lean x_last x_angle x_asLay x_ticks a_bodies x_ran x_kind x_number x_tellsV, aI G a_s 1394 z_f_s] [.ref h]) (g_X12_some : Int32 → Int32 → Int32 → Int32 → Int32 → (Nat → Int32) → Option (Int32 × Int32 × Int32 × (Nat → Int32))) (hg_X12_some : ∀ (h a_s a_image a_by a_truths a_bodies : Nat) (x_thrown x_hasImage x_act x_spot x_end x_isWrong x_open x_turn x_lean x_last x_angle x_asLay x_ticks x_ran x_kind x_number x_tellsV : Int32) (f_s : Nat → Int32) (z_x_spot : Int32) (z_x_isWrong : Int32) (z_x_open : Int32) (z_f_s : Nat → Int32), g_X12_some x_act x_spot x_end x_isWrong x_open f_s = some (z_x_spot, z_x_isWrong, z_x_open, z_f_s) → CMv l yX12_some wsX12_some (rg_tM d) G [o12 h x_thrown a_s a_image x_hasImage x_act x_spot x_end x_isWrong x_open a_by a_truths x_turn x_lean x_last x_angle x_asLay x_ticks a_bodies x_ran x_kind x_number x_tellsV, aI G a_s 1394 f_s] [o12 h x_thrown a_s a_image x_hasImage x_act z_x_spot x_end z_x_isWrong z_x_open a_by a_truths x_turn x_lean x_last x_angle x_asLay x_ticks a_bodies x_ran x_kind x_number x_tellsV, aI G a_s 1394 z_f_s] [.ref h]) (h a_s a_image a_by a_truths a_bodies : Nat) (x_thrown x_hasImage x_act x_spot x_end x_isWrong x_open x_turn x_lean x_last x_angle x_asLay x_ticks x_ran x_kind x_number x_tellsV : Int32) (f_s : Nat → Int32) (z_x_spot : Int32) (z_x_isWrong : Int32) (z_x_open : Int32) (z_f_s : Nat → Int32) (hF : fX12_factor g_X12_factor g_X12_every g_X12_some x_act x_spot x_end x_isWrong x_open f_s = some (z_x_spot, z_x_isWrong, z_x_open, z_f_s)) : CMv l yX12_factor wsX12_factor (rg_tM (d + 1)) G [o12 h x_thrown a_s a_image x_hasImage x_act x_spot x_end x_isWrong x_open a_by a_truths x_turn x_lean x_last x_angle x_asLay x_ticks a_bodies x_ran x_kind x_number x_tellsV, aI G a_s 1394 f_s] [o12 h x_thrown a_s a_image x_hasImage x_act z_x_spot x_end z_x_isWrong z_x_open a_by a_truths x_turn x_lean x_last x_angle x_asLay x_ticks a_bodies x_ran x_kind x_number x_tellsV, aI G a_s 1394 z_f_s] [.ref h] := by
  refine cm_start (cc := cX12_factor) (maxL := 5) (ret := none) (Qc := fun A => QV G [o12 h x_thrown a_s a_image x_hasImage x_act z_x_spot x_end z_x_isWrong z_x_open a_by a_truths x_turn x_lean x_last x_angle x_asLay x_ticks a_bodies x_ran x_kind x_number x_tellsV, aI G a_s 1394 z_f_s] A) (by decide +kernel) rfl (Nat.le_of_ble_eq_true rfl) ?_
  intro p e s m args below meth c A hx hb hr hlk hml hown hnm hts hA H locs hP hK hD hE hS ls hl
  have hown : s.vm.findClass RX12 = some m.cls := hown
  have hl : lv_has ls 5 [(0, .ref h)] := hl
  have hin12 : ∀ w ∈ wsX120, w ∈ wsX12_factor := by decide +kernel
  have lk_62 := hts (.fieldLink RX12 62 "HeadsByHairModel" "isWrong" "Z") (by decide +kernel)
  have lk_86 := hts (.fieldLink RX12 86 "HeadsByHairModel" "open" "I") (by decide +kernel)
  have lk_56 := hts (.fieldLink RX12 56 "HeadsByHairModel" "spot" "I") (by decide +kernel)
  revert hF
  have B69 : ∀ (x_spot : Int32) (x_isWrong : Int32) (x_open : Int32) (f_s : Nat → Int32) (l1 : Int32) (s1 : Int32) (s2 : Int32) (H : Heap) (locs : List Loc) (ls : Array Slot), va_P G.1 vwCl [o12 h x_thrown a_s a_image x_hasImage x_act x_spot x_end x_isWrong x_open a_by a_truths x_turn x_lean x_last x_angle x_asLay x_ticks a_bodies x_ran x_kind x_number x_tellsV, aI G a_s 1394 f_s] H → va_D A [o12 h x_thrown a_s a_image x_hasImage x_act x_spot x_end x_isWrong x_open a_by a_truths x_turn x_lean x_last x_angle x_asLay x_ticks a_bodies x_ran x_kind x_number x_tellsV, aI G a_s 1394 f_s] → va_S A s.heap H locs → lv_has ls 5 [(0, .ref h), (1, .int l1)] → fX12_factor_b69 g_X12_factor g_X12_every g_X12_some x_act x_spot x_end x_isWrong x_open f_s l1 s1 s2 = some (z_x_spot, z_x_isWrong, z_x_open, z_f_s) → W p l e ((rg_tM (d + 1))) s m args below meth c H locs 0 0 (MQ below (QV G [o12 h x_thrown a_s a_image x_hasImage x_act z_x_spot x_end z_x_isWrong z_x_open a_by a_truths x_turn x_lean x_last x_angle x_asLay x_ticks a_bodies x_ran x_kind x_number x_tellsV, aI G a_s 1394 z_f_s] A) args s 0 0 A) (F0 m 69 ls [.int s2, .int s1, .ref h]) := by
    intro x_spot x_isWrong x_open f_s l1 s1 s2 H locs ls hP hD hS hl hF
    unfold fX12_factor_b69 at hF
    refine lv_iadd hx hb dX12_factor_69 ?_
    refine va_put (D := G.1) (ci := 12) (v := .int (s1 + s2)) (ty := .int) (C := RX12) (T := TX12) (N := 22) hx hb hts hin12 tyX12 tyX12_ok nmX12 hown hK hP hD hS 0 rfl rfl 5 (by decide) lk_56 (fun _ h9 => h9) rfl (tyX12_ok 5 (by decide)) rfl rfl (Nat.le_of_ble_eq_true rfl) dX12_factor_70 (fun H locs hP hD hS => ?_)
    have hP : va_P G.1 vwCl [o12 h x_thrown a_s a_image x_hasImage x_act (s1 + s2) x_end x_isWrong x_open a_by a_truths x_turn x_lean x_last x_angle x_asLay x_ticks a_bodies x_ran x_kind x_number x_tellsV, aI G a_s 1394 f_s] H := hP
    have hD : va_D A [o12 h x_thrown a_s a_image x_hasImage x_act (s1 + s2) x_end x_isWrong x_open a_by a_truths x_turn x_lean x_last x_angle x_asLay x_ticks a_bodies x_ran x_kind x_number x_tellsV, aI G a_s 1394 f_s] := hD
    refine lv_iload_n hx hb dX12_factor_73 rfl (lv_at hl 1 rfl) ?_
    refine lv_bipush (v := 33) hx hb dX12_factor_74 (by decide) ?_
    refine lv_icmp_ne (tgt := 91) hx hb dX12_factor_76 (by decide) (fun c8 => ?_) (fun c8 => ?_)
    · rw [if_neg c8] at hF
      refine lv_aload_n hx hb dX12_factor_91 rfl (lv_at hl 0 rfl) ?_
      obtain ⟨r9, hc10, hF⟩ := bd_some hF
      have hPc := hP.sub (ws' := [o12 h x_thrown a_s a_image x_hasImage x_act (s1 + s2) x_end x_isWrong x_open a_by a_truths x_turn x_lean x_last x_angle x_asLay x_ticks a_bodies x_ran x_kind x_number x_tellsV, aI G a_s 1394 f_s]) [0, 1] rfl
      have hDc := hD.sub (ws' := [o12 h x_thrown a_s a_image x_hasImage x_act (s1 + s2) x_end x_isWrong x_open a_by a_truths x_turn x_lean x_last x_angle x_asLay x_ticks a_bodies x_ran x_kind x_number x_tellsV, aI G a_s 1394 f_s]) [0, 1] (by decide) rfl
      have hFc := va_free (wc := [o12 h x_thrown a_s a_image x_hasImage x_act (s1 + s2) x_end x_isWrong x_open a_by a_truths x_turn x_lean x_last x_angle x_asLay x_ticks a_bodies x_ran x_kind x_number x_tellsV, aI G a_s 1394 f_s]) hD hS hA [0, 1] rfl
      have hM := hg_X12_some h a_s a_image a_by a_truths a_bodies x_thrown x_hasImage x_act (s1 + s2) x_end x_isWrong x_open x_turn x_lean x_last x_angle x_asLay x_ticks x_ran x_kind x_number x_tellsV f_s r9.1 r9.2.1 r9.2.2.1 r9.2.2.2 hc10 H.size
      refine cl_v (w1 := [o12 h x_thrown a_s a_image x_hasImage x_act r9.1 x_end r9.2.1 r9.2.2.1 a_by a_truths x_turn x_lean x_last x_angle x_asLay x_ticks a_bodies x_ran x_kind x_number x_tellsV, aI G a_s 1394 r9.2.2.2]) (ws' := [o12 h x_thrown a_s a_image x_hasImage x_act r9.1 x_end r9.2.1 r9.2.2.1 a_by a_truths x_turn x_lean x_last x_angle x_asLay x_ticks a_bodies x_ran x_kind x_number x_tellsV, aI G a_s 1394 r9.2.2.2]) hP hD hS hFc [0, 1] rfl rfl rfl (va_runV (As := []) (rest := []) ⟨hx, hb, hml, hown, hts⟩ hM (cwV 0 hts gX12_factor_X12_some rfl rfl rfl (by decide +kernel) ⟨(by show (10 + d) + 1 ≤ 10 + (d + 1); omega), (by show 8 + (1 + 11) + (300 + 60 * d) ≤ 300 + 60 * (d + 1); omega)⟩) (cp_V hK hE hS hPc hDc hFc (va_recv hK hPc (ci := 12) (q0 := 0) rfl rfl)) rfl rfl hl.1 rfl (lv_room (Nat.le_of_ble_eq_true rfl)) dX12_factor_92 ⟨Nat.zero_le _, Nat.zero_le _⟩) (fun H locs hP hD hS => ?_)
      refine lv_aload_n hx hb dX12_factor_95 rfl (lv_at hl 0 rfl) ?_
      refine lv_bipush (v := 41) hx hb dX12_factor_96 (by decide) ?_
      obtain ⟨r11, hc12, hF⟩ := bd_some hF
      have hPc := hP.sub (ws' := [o12 h x_thrown a_s a_image x_hasImage x_act r9.1 x_end r9.2.1 r9.2.2.1 a_by a_truths x_turn x_lean x_last x_angle x_asLay x_ticks a_bodies x_ran x_kind x_number x_tellsV, aI G a_s 1394 r9.2.2.2]) [0, 1] rfl
      have hDc := hD.sub (ws' := [o12 h x_thrown a_s a_image x_hasImage x_act r9.1 x_end r9.2.1 r9.2.2.1 a_by a_truths x_turn x_lean x_last x_angle x_asLay x_ticks a_bodies x_ran x_kind x_number x_tellsV, aI G a_s 1394 r9.2.2.2]) [0, 1] (by decide) rfl
      have hFc := va_free (wc := [o12 h x_thrown a_s a_image x_hasImage x_act r9.1 x_end r9.2.1 r9.2.2.1 a_by a_truths x_turn x_lean x_last x_angle x_asLay x_ticks a_bodies x_ran x_kind x_number x_tellsV, aI G a_s 1394 r9.2.2.2]) hD hS hA [0, 1] rfl
      have hM := c_X12_must l G h a_s a_image a_by a_truths a_bodies x_thrown x_hasImage x_act r9.1 x_end r9.2.1 r9.2.2.1 x_turn x_lean x_last x_angle x_asLay x_ticks x_ran x_kind x_number x_tellsV r9.2.2.2 (41 : Int32) r11.1 r11.2 hc12 H.size
      refine cl_v (w1 := [o12 h x_thrown a_s a_image x_hasImage x_act r11.1 x_end r11.2 r9.2.2.1 a_by a_truths x_turn x_lean x_last x_angle x_asLay x_ticks a_bodies x_ran x_kind x_number x_tellsV, aI G a_s 1394 r9.2.2.2]) (ws' := [o12 h x_thrown a_s a_image x_hasImage x_act r11.1 x_end r11.2 r9.2.2.1 a_by a_truths x_turn x_lean x_last x_angle x_asLay x_ticks a_bodies x_ran x_kind x_number x_tellsV, aI G a_s 1394 r9.2.2.2]) hP hD hS hFc [0, 1] rfl rfl rfl (va_runV (As := [.int 41]) (rest := []) ⟨hx, hb, hml, hown, hts⟩ hM (cwV 1 hts gX12_factor_X12_must rfl rfl rfl (by decide +kernel) ⟨(by show 1 + 1 ≤ 10 + (d + 1); omega), (by show 8 + (2 + 11) + 20 ≤ 300 + 60 * (d + 1); omega)⟩) (cp_V hK hE hS hPc hDc hFc (va_recv hK hPc (ci := 12) (q0 := 0) rfl rfl)) rfl rfl hl.1 rfl (lv_room (Nat.le_of_ble_eq_true rfl)) dX12_factor_98 ⟨Nat.zero_le _, Nat.zero_le _⟩) (fun H locs hP hD hS => ?_)
      refine lv_aload_n hx hb dX12_factor_101 rfl (lv_at hl 0 rfl) ?_
      refine lv_dup hx hb dX12_factor_102 rfl ?_
      refine va_get (D := G.1) (ci := 12) (v := .int r9.2.2.1) (C := RX12) (T := TX12) (N := 22) hx hb hts hin12 hown hK hP 0 rfl rfl 8 (by decide) lk_86 (fun _ h9 => h9) rfl dX12_factor_103 ?_
      refine W.eq (g2 := F0 m 106 ls [.int r9.2.2.1, .ref h]) rfl ?_
      refine lv_iconst (v := 1) hx hb dX12_factor_106 (by decide) ?_
      refine lv_isub hx hb dX12_factor_107 ?_
      refine va_put (D := G.1) (ci := 12) (v := .int (r9.2.2.1 - 1)) (ty := .int) (C := RX12) (T := TX12) (N := 22) hx hb hts hin12 tyX12 tyX12_ok nmX12 hown hK hP hD hS 0 rfl rfl 8 (by decide) lk_86 (fun _ h9 => h9) rfl (tyX12_ok 8 (by decide)) rfl rfl (Nat.le_of_ble_eq_true rfl) dX12_factor_108 (fun H locs hP hD hS => ?_)
      have hP : va_P G.1 vwCl [o12 h x_thrown a_s a_image x_hasImage x_act r11.1 x_end r11.2 (r9.2.2.1 - 1) a_by a_truths x_turn x_lean x_last x_angle x_asLay x_ticks a_bodies x_ran x_kind x_number x_tellsV, aI G a_s 1394 r9.2.2.2] H := hP
      have hD : va_D A [o12 h x_thrown a_s a_image x_hasImage x_act r11.1 x_end r11.2 (r9.2.2.1 - 1) a_by a_truths x_turn x_lean x_last x_angle x_asLay x_ticks a_bodies x_ran x_kind x_number x_tellsV, aI G a_s 1394 r9.2.2.2] := hD
      injection hF with hz
      injection hz with hq0 hz
      injection hz with hq1 hz
      injection hz with hq2 hz
      subst hq0
      subst hq1
      subst hq2
      subst hz
      exact cm_retv hx hb hr hlk hK hP hD hS dX12_factor_111
    rw [if_pos c8] at hF
    refine lv_aload_n hx hb dX12_factor_79 rfl (lv_at hl 0 rfl) ?_
    obtain ⟨r13, hc14, hF⟩ := bd_some hF
    have hPc := hP.sub (ws' := [o12 h x_thrown a_s a_image x_hasImage x_act (s1 + s2) x_end x_isWrong x_open a_by a_truths x_turn x_lean x_last x_angle x_asLay x_ticks a_bodies x_ran x_kind x_number x_tellsV, aI G a_s 1394 f_s]) [0, 1] rfl
    have hDc := hD.sub (ws' := [o12 h x_thrown a_s a_image x_hasImage x_act (s1 + s2) x_end x_isWrong x_open a_by a_truths x_turn x_lean x_last x_angle x_asLay x_ticks a_bodies x_ran x_kind x_number x_tellsV, aI G a_s 1394 f_s]) [0, 1] (by decide) rfl
    have hFc := va_free (wc := [o12 h x_thrown a_s a_image x_hasImage x_act (s1 + s2) x_end x_isWrong x_open a_by a_truths x_turn x_lean x_last x_angle x_asLay x_ticks a_bodies x_ran x_kind x_number x_tellsV, aI G a_s 1394 f_s]) hD hS hA [0, 1] rfl
    have hM := hg_X12_factor h a_s a_image a_by a_truths a_bodies x_thrown x_hasImage x_act (s1 + s2) x_end x_isWrong x_open x_turn x_lean x_last x_angle x_asLay x_ticks x_ran x_kind x_number x_tellsV f_s r13.1 r13.2.1 r13.2.2.1 r13.2.2.2 hc14 H.size
    refine cl_v (w1 := [o12 h x_thrown a_s a_image x_hasImage x_act r13.1 x_end r13.2.1 r13.2.2.1 a_by a_truths x_turn x_lean x_last x_angle x_asLay x_ticks a_bodies x_ran x_kind x_number x_tellsV, aI G a_s 1394 r13.2.2.2]) (ws' := [o12 h x_thrown a_s a_image x_hasImage x_act r13.1 x_end r13.2.1 r13.2.2.1 a_by a_truths x_turn x_lean x_last x_angle x_asLay x_ticks a_bodies x_ran x_kind x_number x_tellsV, aI G a_s 1394 r13.2.2.2]) hP hD hS hFc [0, 1] rfl rfl rfl (va_runV (As := []) (rest := []) ⟨hx, hb, hml, hown, hts⟩ hM (cwV 0 hts gX12_factor_X12_factor rfl rfl rfl (by decide +kernel) ⟨(by show (10 + d) + 1 ≤ 10 + (d + 1); omega), (by show 8 + (5 + 11) + (300 + 60 * d) ≤ 300 + 60 * (d + 1); omega)⟩) (cp_V hK hE hS hPc hDc hFc (va_recv hK hPc (ci := 12) (q0 := 0) rfl rfl)) rfl rfl hl.1 rfl (lv_room (Nat.le_of_ble_eq_true rfl)) dX12_factor_80 ⟨Nat.zero_le _, Nat.zero_le _⟩) (fun H locs hP hD hS => ?_)
    refine lv_aload_n hx hb dX12_factor_83 rfl (lv_at hl 0 rfl) ?_
    refine lv_iconst (v := (-1)) hx hb dX12_factor_84 (by decide) ?_
    obtain ⟨r15, hc16, hF⟩ := bd_some hF
    have hPc := hP.sub (ws' := [o12 h x_thrown a_s a_image x_hasImage x_act r13.1 x_end r13.2.1 r13.2.2.1 a_by a_truths x_turn x_lean x_last x_angle x_asLay x_ticks a_bodies x_ran x_kind x_number x_tellsV, aI G a_s 1394 r13.2.2.2]) [0, 1] rfl
    have hDc := hD.sub (ws' := [o12 h x_thrown a_s a_image x_hasImage x_act r13.1 x_end r13.2.1 r13.2.2.1 a_by a_truths x_turn x_lean x_last x_angle x_asLay x_ticks a_bodies x_ran x_kind x_number x_tellsV, aI G a_s 1394 r13.2.2.2]) [0, 1] (by decide) rfl
    have hFc := va_free (wc := [o12 h x_thrown a_s a_image x_hasImage x_act r13.1 x_end r13.2.1 r13.2.2.1 a_by a_truths x_turn x_lean x_last x_angle x_asLay x_ticks a_bodies x_ran x_kind x_number x_tellsV, aI G a_s 1394 r13.2.2.2]) hD hS hA [0, 1] rfl
    have hM := c_X12_emits l G h a_s a_image a_by a_truths a_bodies x_thrown x_hasImage x_act r13.1 x_end r13.2.1 r13.2.2.1 x_turn x_lean x_last x_angle x_asLay x_ticks x_ran x_kind x_number x_tellsV r13.2.2.2 ((-1) : Int32) r15 hc16 H.size
    refine cl_v (w1 := [o12 h x_thrown a_s a_image x_hasImage x_act r13.1 x_end r13.2.1 r13.2.2.1 a_by a_truths x_turn x_lean x_last x_angle x_asLay x_ticks a_bodies x_ran x_kind x_number x_tellsV, aI G a_s 1394 r15]) (ws' := [o12 h x_thrown a_s a_image x_hasImage x_act r13.1 x_end r13.2.1 r13.2.2.1 a_by a_truths x_turn x_lean x_last x_angle x_asLay x_ticks a_bodies x_ran x_kind x_number x_tellsV, aI G a_s 1394 r15]) hP hD hS hFc [0, 1] rfl rfl rfl (va_runV (As := [.int (-1)]) (rest := []) ⟨hx, hb, hml, hown, hts⟩ hM (cwV 1 hts gX12_factor_X12_emits rfl rfl rfl (by decide +kernel) ⟨(by show 0 + 1 ≤ 10 + (d + 1); omega), (by show 8 + (2 + 11) + 0 ≤ 300 + 60 * (d + 1); omega)⟩) (cp_V hK hE hS hPc hDc hFc (va_recv hK hPc (ci := 12) (q0 := 0) rfl rfl)) rfl rfl hl.1 rfl (lv_room (Nat.le_of_ble_eq_true rfl)) dX12_factor_85 ⟨Nat.zero_le _, Nat.zero_le _⟩) (fun H locs hP hD hS => ?_)
    refine lv_goto (tgt := 101) hx hb dX12_factor_88 (by decide) ?_
    refine lv_aload_n hx hb dX12_factor_101 rfl (lv_at hl 0 rfl) ?_
    refine lv_dup hx hb dX12_factor_102 rfl ?_
    refine W.eq (g2 := F0 m 103 ls [.ref h, .ref h]) rfl ?_
    refine va_get (D := G.1) (ci := 12) (v := .int r13.2.2.1) (C := RX12) (T := TX12) (N := 22) hx hb hts hin12 hown hK hP 0 rfl rfl 8 (by decide) lk_86 (fun _ h9 => h9) rfl dX12_factor_103 ?_
    refine lv_iconst (v := 1) hx hb dX12_factor_106 (by decide) ?_
    refine lv_isub hx hb dX12_factor_107 ?_
    refine va_put (D := G.1) (ci := 12) (v := .int (r13.2.2.1 - 1)) (ty := .int) (C := RX12) (T := TX12) (N := 22) hx hb hts hin12 tyX12 tyX12_ok nmX12 hown hK hP hD hS 0 rfl rfl 8 (by decide) lk_86 (fun _ h9 => h9) rfl (tyX12_ok 8 (by decide)) rfl rfl (Nat.le_of_ble_eq_true rfl) dX12_factor_108 (fun H locs hP hD hS => ?_)
    have hP : va_P G.1 vwCl [o12 h x_thrown a_s a_image x_hasImage x_act r13.1 x_end r13.2.1 (r13.2.2.1 - 1) a_by a_truths x_turn x_lean x_last x_angle x_asLay x_ticks a_bodies x_ran x_kind x_number x_tellsV, aI G a_s 1394 r15] H := hP
    have hD : va_D A [o12 h x_thrown a_s a_image x_hasImage x_act r13.1 x_end r13.2.1 (r13.2.2.1 - 1) a_by a_truths x_turn x_lean x_last x_angle x_asLay x_ticks a_bodies x_ran x_kind x_number x_tellsV, aI G a_s 1394 r15] := hD
    injection hF with hz
    injection hz with hq0 hz
    injection hz with hq1 hz
    injection hz with hq2 hz
    subst hq0
    subst hq1
    subst hq2
    subst hz
    exact cm_retv hx hb hr hlk hK hP hD hS dX12_factor_111
  have B39 : ∀ (x_spot : Int32) (x_isWrong : Int32) (x_open : Int32) (f_s : Nat → Int32) (l1 : Int32) (s1 : Int32) (H : Heap) (locs : List Loc) (ls : Array Slot), va_P G.1 vwCl [o12 h x_thrown a_s a_image x_hasImage x_act x_spot x_end x_isWrong x_open a_by a_truths x_turn x_lean x_last x_angle x_asLay x_ticks a_bodies x_ran x_kind x_number x_tellsV, aI G a_s 1394 f_s] H → va_D A [o12 h x_thrown a_s a_image x_hasImage x_act x_spot x_end x_isWrong x_open a_by a_truths x_turn x_lean x_last x_angle x_asLay x_ticks a_bodies x_ran x_kind x_number x_tellsV, aI G a_s 1394 f_s] → va_S A s.heap H locs → lv_has ls 5 [(0, .ref h), (1, .int l1)] → fX12_factor_b39 g_X12_factor g_X12_every g_X12_some x_act x_spot x_end x_isWrong x_open f_s l1 s1 = some (z_x_spot, z_x_isWrong, z_x_open, z_f_s) → W p l e ((rg_tM (d + 1))) s m args below meth c H locs 0 0 (MQ below (QV G [o12 h x_thrown a_s a_image x_hasImage x_act z_x_spot x_end z_x_isWrong z_x_open a_by a_truths x_turn x_lean x_last x_angle x_asLay x_ticks a_bodies x_ran x_kind x_number x_tellsV, aI G a_s 1394 z_f_s] A) args s 0 0 A) (F0 m 39 ls [.int s1, .ref h]) := by
    intro x_spot x_isWrong x_open f_s l1 s1 H locs ls hP hD hS hl hF
    unfold fX12_factor_b39 at hF
    obtain ⟨hb6, hF⟩ := ck_some hF
    refine va_put (D := G.1) (ci := 12) (v := .int s1) (ty := .boolean) (C := RX12) (T := TX12) (N := 22) hx hb hts hin12 tyX12 tyX12_ok nmX12 hown hK hP hD hS 0 rfl rfl 7 (by decide) lk_62 (fun _ h9 => h9) rfl (tyX12_ok 7 (by decide)) (nb_ok hb6).1 (nb_ok hb6).2 (Nat.le_of_ble_eq_true rfl) dX12_factor_39 (fun H locs hP hD hS => ?_)
    have hP : va_P G.1 vwCl [o12 h x_thrown a_s a_image x_hasImage x_act x_spot x_end s1 x_open a_by a_truths x_turn x_lean x_last x_angle x_asLay x_ticks a_bodies x_ran x_kind x_number x_tellsV, aI G a_s 1394 f_s] H := hP
    have hD : va_D A [o12 h x_thrown a_s a_image x_hasImage x_act x_spot x_end s1 x_open a_by a_truths x_turn x_lean x_last x_angle x_asLay x_ticks a_bodies x_ran x_kind x_number x_tellsV, aI G a_s 1394 f_s] := hD
    refine lv_aload_n hx hb dX12_factor_42 rfl (lv_at hl 0 rfl) ?_
    refine lv_dup hx hb dX12_factor_43 rfl ?_
    refine va_get (D := G.1) (ci := 12) (v := .int x_open) (C := RX12) (T := TX12) (N := 22) hx hb hts hin12 hown hK hP 0 rfl rfl 8 (by decide) lk_86 (fun _ h9 => h9) rfl dX12_factor_44 ?_
    refine lv_iconst (v := 1) hx hb dX12_factor_47 (by decide) ?_
    refine lv_iadd hx hb dX12_factor_48 ?_
    refine va_put (D := G.1) (ci := 12) (v := .int (x_open + 1)) (ty := .int) (C := RX12) (T := TX12) (N := 22) hx hb hts hin12 tyX12 tyX12_ok nmX12 hown hK hP hD hS 0 rfl rfl 8 (by decide) lk_86 (fun _ h9 => h9) rfl (tyX12_ok 8 (by decide)) rfl rfl (Nat.le_of_ble_eq_true rfl) dX12_factor_49 (fun H locs hP hD hS => ?_)
    have hP : va_P G.1 vwCl [o12 h x_thrown a_s a_image x_hasImage x_act x_spot x_end s1 (x_open + 1) a_by a_truths x_turn x_lean x_last x_angle x_asLay x_ticks a_bodies x_ran x_kind x_number x_tellsV, aI G a_s 1394 f_s] H := hP
    have hD : va_D A [o12 h x_thrown a_s a_image x_hasImage x_act x_spot x_end s1 (x_open + 1) a_by a_truths x_turn x_lean x_last x_angle x_asLay x_ticks a_bodies x_ran x_kind x_number x_tellsV, aI G a_s 1394 f_s] := hD
    refine lv_aload_n hx hb dX12_factor_52 rfl (lv_at hl 0 rfl) ?_
    refine lv_dup hx hb dX12_factor_53 rfl ?_
    refine va_get (D := G.1) (ci := 12) (v := .int x_spot) (C := RX12) (T := TX12) (N := 22) hx hb hts hin12 hown hK hP 0 rfl rfl 5 (by decide) lk_56 (fun _ h9 => h9) rfl dX12_factor_54 ?_
    refine lv_aload_n hx hb dX12_factor_57 rfl (lv_at hl 0 rfl) ?_
    refine va_get (D := G.1) (ci := 12) (v := .int s1) (C := RX12) (T := TX12) (N := 22) hx hb hts hin12 hown hK hP 0 rfl rfl 7 (by decide) lk_62 (fun _ h9 => h9) rfl dX12_factor_58 ?_
    refine lv_if_eq (tgt := 68) hx hb dX12_factor_61 (by decide) (fun c7 => ?_) (fun c7 => ?_)
    · rw [if_pos c7] at hF
      refine W.eq (g2 := F0 m 68 ls [.int x_spot, .ref h]) rfl ?_
      refine lv_iconst (v := 1) hx hb dX12_factor_68 (by decide) ?_
      exact B69 _ _ _ _ _ _ _ H locs ls hP hD hS (lv_sub hl [0, 1] rfl) hF
    rw [if_neg c7] at hF
    refine W.eq (g2 := F0 m 64 ls [.int x_spot, .ref h]) rfl ?_
    refine lv_iconst (v := 0) hx hb dX12_factor_64 (by decide) ?_
    refine lv_goto (tgt := 69) hx hb dX12_factor_65 (by decide) ?_
    exact B69 _ _ _ _ _ _ _ H locs ls hP hD hS (lv_sub hl [0, 1] rfl) hF
  have B25 : ∀ (x_spot : Int32) (x_isWrong : Int32) (x_open : Int32) (f_s : Nat → Int32) (l1 : Int32) (H : Heap) (locs : List Loc) (ls : Array Slot), va_P G.1 vwCl [o12 h x_thrown a_s a_image x_hasImage x_act x_spot x_end x_isWrong x_open a_by a_truths x_turn x_lean x_last x_angle x_asLay x_ticks a_bodies x_ran x_kind x_number x_tellsV, aI G a_s 1394 f_s] H → va_D A [o12 h x_thrown a_s a_image x_hasImage x_act x_spot x_end x_isWrong x_open a_by a_truths x_turn x_lean x_last x_angle x_asLay x_ticks a_bodies x_ran x_kind x_number x_tellsV, aI G a_s 1394 f_s] → va_S A s.heap H locs → lv_has ls 5 [(0, .ref h), (1, .int l1)] → fX12_factor_b25 g_X12_factor g_X12_every g_X12_some x_act x_spot x_end x_isWrong x_open f_s l1 = some (z_x_spot, z_x_isWrong, z_x_open, z_f_s) → W p l e ((rg_tM (d + 1))) s m args below meth c H locs 0 0 (MQ below (QV G [o12 h x_thrown a_s a_image x_hasImage x_act z_x_spot x_end z_x_isWrong z_x_open a_by a_truths x_turn x_lean x_last x_angle x_asLay x_ticks a_bodies x_ran x_kind x_number x_tellsV, aI G a_s 1394 z_f_s] A) args s 0 0 A) (F0 m 25 ls []) := by
    intro x_spot x_isWrong x_open f_s l1 H locs ls hP hD hS hl hF
    unfold fX12_factor_b25 at hF
    refine lv_aload_n hx hb dX12_factor_25 rfl (lv_at hl 0 rfl) ?_
    refine lv_aload_n hx hb dX12_factor_26 rfl (lv_at hl 0 rfl) ?_
    refine va_get (D := G.1) (ci := 12) (v := .int x_open) (C := RX12) (T := TX12) (N := 22) hx hb hts hin12 hown hK hP 0 rfl rfl 8 (by decide) lk_86 (fun _ h9 => h9) rfl dX12_factor_27 ?_
    refine lv_iconst (v := 5) hx hb dX12_factor_30 (by decide) ?_
    refine lv_icmp_ne (tgt := 38) hx hb dX12_factor_31 (by decide) (fun c5 => ?_) (fun c5 => ?_)
    · rw [if_neg c5] at hF
      refine lv_iconst (v := 0) hx hb dX12_factor_38 (by decide) ?_
      exact B39 _ _ _ _ _ _ H locs ls hP hD hS (lv_sub hl [0, 1] rfl) hF
    rw [if_pos c5] at hF
    refine lv_iconst (v := 1) hx hb dX12_factor_34 (by decide) ?_
    refine lv_goto (tgt := 39) hx hb dX12_factor_35 (by decide) ?_
    exact B39 _ _ _ _ _ _ H locs ls hP hD hS (lv_sub hl [0, 1] rfl) hF
  have B169 : ∀ (x_spot : Int32) (x_isWrong : Int32) (x_open : Int32) (f_s : Nat → Int32) (l2 : Int32) (l3 : Int32) (s1 : Int32) (H : Heap) (locs : List Loc) (ls : Array Slot), va_P G.1 vwCl [o12 h x_thrown a_s a_image x_hasImage x_act x_spot x_end x_isWrong x_open a_by a_truths x_turn x_lean x_last x_angle x_asLay x_ticks a_bodies x_ran x_kind x_number x_tellsV, aI G a_s 1394 f_s] H → va_D A [o12 h x_thrown a_s a_image x_hasImage x_act x_spot x_end x_isWrong x_open a_by a_truths x_turn x_lean x_last x_angle x_asLay x_ticks a_bodies x_ran x_kind x_number x_tellsV, aI G a_s 1394 f_s] → va_S A s.heap H locs → lv_has ls 5 [(0, .ref h), (2, .int l2), (3, .int l3)] → fX12_factor_b169 g_X12_factor g_X12_every g_X12_some x_act x_spot x_end x_isWrong x_open f_s l2 l3 s1 = some (z_x_spot, z_x_isWrong, z_x_open, z_f_s) → W p l e ((rg_tM (d + 1))) s m args below meth c H locs 0 0 (MQ below (QV G [o12 h x_thrown a_s a_image x_hasImage x_act z_x_spot x_end z_x_isWrong z_x_open a_by a_truths x_turn x_lean x_last x_angle x_asLay x_ticks a_bodies x_ran x_kind x_number x_tellsV, aI G a_s 1394 z_f_s] A) args s 0 0 A) (F0 m 169 ls [.int s1, .ref h]) := by
    intro x_spot x_isWrong x_open f_s l2 l3 s1 H locs ls hP hD hS hl hF
    unfold fX12_factor_b169 at hF
    obtain ⟨hb26, hF⟩ := ck_some hF
    refine va_put (D := G.1) (ci := 12) (v := .int s1) (ty := .boolean) (C := RX12) (T := TX12) (N := 22) hx hb hts hin12 tyX12 tyX12_ok nmX12 hown hK hP hD hS 0 rfl rfl 7 (by decide) lk_62 (fun _ h9 => h9) rfl (tyX12_ok 7 (by decide)) (nb_ok hb26).1 (nb_ok hb26).2 (Nat.le_of_ble_eq_true rfl) dX12_factor_169 (fun H locs hP hD hS => ?_)
    have hP : va_P G.1 vwCl [o12 h x_thrown a_s a_image x_hasImage x_act x_spot x_end s1 x_open a_by a_truths x_turn x_lean x_last x_angle x_asLay x_ticks a_bodies x_ran x_kind x_number x_tellsV, aI G a_s 1394 f_s] H := hP
    have hD : va_D A [o12 h x_thrown a_s a_image x_hasImage x_act x_spot x_end s1 x_open a_by a_truths x_turn x_lean x_last x_angle x_asLay x_ticks a_bodies x_ran x_kind x_number x_tellsV, aI G a_s 1394 f_s] := hD
    refine lv_aload_n hx hb dX12_factor_172 rfl (lv_at hl 0 rfl) ?_
    obtain ⟨r27, hc28, hF⟩ := bd_some hF
    have hPc := hP.sub (ws' := [o12 h x_thrown a_s a_image x_hasImage x_act x_spot x_end s1 x_open a_by a_truths x_turn x_lean x_last x_angle x_asLay x_ticks a_bodies x_ran x_kind x_number x_tellsV, aI G a_s 1394 f_s]) [0, 1] rfl
    have hDc := hD.sub (ws' := [o12 h x_thrown a_s a_image x_hasImage x_act x_spot x_end s1 x_open a_by a_truths x_turn x_lean x_last x_angle x_asLay x_ticks a_bodies x_ran x_kind x_number x_tellsV, aI G a_s 1394 f_s]) [0, 1] (by decide) rfl
    have hFc := va_free (wc := [o12 h x_thrown a_s a_image x_hasImage x_act x_spot x_end s1 x_open a_by a_truths x_turn x_lean x_last x_angle x_asLay x_ticks a_bodies x_ran x_kind x_number x_tellsV, aI G a_s 1394 f_s]) hD hS hA [0, 1] rfl
    have hM := c_X12_figures l G h a_s a_image a_by a_truths a_bodies x_thrown x_hasImage x_act x_spot x_end s1 x_open x_turn x_lean x_last x_angle x_asLay x_ticks x_ran x_kind x_number x_tellsV f_s r27.1 r27.2.1 r27.2.2 hc28 H.size
    refine cl_i (w1 := [o12 h x_thrown a_s a_image x_hasImage x_act r27.2.1 x_end r27.2.2 x_open a_by a_truths x_turn x_lean x_last x_angle x_asLay x_ticks a_bodies x_ran x_kind x_number x_tellsV, aI G a_s 1394 f_s]) (ws' := [o12 h x_thrown a_s a_image x_hasImage x_act r27.2.1 x_end r27.2.2 x_open a_by a_truths x_turn x_lean x_last x_angle x_asLay x_ticks a_bodies x_ran x_kind x_number x_tellsV, aI G a_s 1394 f_s]) hP hD hS hFc [0, 1] rfl rfl rfl (va_runV (As := []) (rest := []) ⟨hx, hb, hml, hown, hts⟩ hM (cwV 0 hts gX12_factor_X12_figures rfl rfl rfl (by decide +kernel) ⟨(by show 1 + 1 ≤ 10 + (d + 1); omega), (by show 8 + (3 + 11) + 22 ≤ 300 + 60 * (d + 1); omega)⟩) (cp_V hK hE hS hPc hDc hFc (va_recv hK hPc (ci := 12) (q0 := 0) rfl rfl)) rfl rfl hl.1 rfl (lv_room (Nat.le_of_ble_eq_true rfl)) dX12_factor_173 ⟨Nat.zero_le _, Nat.zero_le _⟩) (fun H locs hP hD hS => ?_)
    refine lv_istore (lv' := [(4, .int r27.1), (0, .ref h), (2, .int l2), (3, .int l3)]) hx hb dX12_factor_176 hl (by decide) rfl (fun ls hl => ?_)
    refine lv_aload_n hx hb dX12_factor_178 rfl (lv_at hl 1 rfl) ?_
    refine lv_iload_n hx hb dX12_factor_179 rfl (lv_at hl 2 rfl) ?_
    refine lv_bipush (v := 8) hx hb dX12_factor_180 (by decide) ?_
    refine lv_iload_n hx hb dX12_factor_182 rfl (lv_at hl 3 rfl) ?_
    refine lv_imul hx hb dX12_factor_183 ?_
    refine lv_iadd hx hb dX12_factor_184 ?_
    refine lv_bipush (v := 32) hx hb dX12_factor_185 (by decide) ?_
    refine lv_iload hx hb dX12_factor_187 (lv_at hl 0 rfl) ?_
    refine lv_imul hx hb dX12_factor_189 ?_
    refine W.eq (g2 := F0 m 190 ls [.int (32 * r27.1), .int (l2 + (8 * l3)), .ref h]) rfl ?_
    refine lv_iadd hx hb dX12_factor_190 ?_
    obtain ⟨r29, hc30, hF⟩ := bd_some hF
    have hPc := hP.sub (ws' := [o12 h x_thrown a_s a_image x_hasImage x_act r27.2.1 x_end r27.2.2 x_open a_by a_truths x_turn x_lean x_last x_angle x_asLay x_ticks a_bodies x_ran x_kind x_number x_tellsV, aI G a_s 1394 f_s]) [0, 1] rfl
    have hDc := hD.sub (ws' := [o12 h x_thrown a_s a_image x_hasImage x_act r27.2.1 x_end r27.2.2 x_open a_by a_truths x_turn x_lean x_last x_angle x_asLay x_ticks a_bodies x_ran x_kind x_number x_tellsV, aI G a_s 1394 f_s]) [0, 1] (by decide) rfl
    have hFc := va_free (wc := [o12 h x_thrown a_s a_image x_hasImage x_act r27.2.1 x_end r27.2.2 x_open a_by a_truths x_turn x_lean x_last x_angle x_asLay x_ticks a_bodies x_ran x_kind x_number x_tellsV, aI G a_s 1394 f_s]) hD hS hA [0, 1] rfl
    have hM := c_X12_emits l G h a_s a_image a_by a_truths a_bodies x_thrown x_hasImage x_act r27.2.1 x_end r27.2.2 x_open x_turn x_lean x_last x_angle x_asLay x_ticks x_ran x_kind x_number x_tellsV f_s ((l2 + (8 * l3)) + (32 * r27.1)) r29 hc30 H.size
    refine cl_v (w1 := [o12 h x_thrown a_s a_image x_hasImage x_act r27.2.1 x_end r27.2.2 x_open a_by a_truths x_turn x_lean x_last x_angle x_asLay x_ticks a_bodies x_ran x_kind x_number x_tellsV, aI G a_s 1394 r29]) (ws' := [o12 h x_thrown a_s a_image x_hasImage x_act r27.2.1 x_end r27.2.2 x_open a_by a_truths x_turn x_lean x_last x_angle x_asLay x_ticks a_bodies x_ran x_kind x_number x_tellsV, aI G a_s 1394 r29]) hP hD hS hFc [0, 1] rfl rfl rfl (va_runV (As := [.int ((l2 + (8 * l3)) + (32 * r27.1))]) (rest := []) ⟨hx, hb, hml, hown, hts⟩ hM (cwV 1 hts gX12_factor_X12_emits rfl rfl rfl (by decide +kernel) ⟨(by show 0 + 1 ≤ 10 + (d + 1); omega), (by show 8 + (2 + 11) + 0 ≤ 300 + 60 * (d + 1); omega)⟩) (cp_V hK hE hS hPc hDc hFc (va_recv hK hPc (ci := 12) (q0 := 0) rfl rfl)) rfl rfl hl.1 rfl (lv_room (Nat.le_of_ble_eq_true rfl)) dX12_factor_191 ⟨Nat.zero_le _, Nat.zero_le _⟩) (fun H locs hP hD hS => ?_)
    injection hF with hz
    injection hz with hq0 hz
    injection hz with hq1 hz
    injection hz with hq2 hz
    subst hq0
    subst hq1
    subst hq2
    subst hz
    exact cm_retv hx hb hr hlk hK hP hD hS dX12_factor_194
  have B164 : ∀ (x_spot : Int32) (x_isWrong : Int32) (x_open : Int32) (f_s : Nat → Int32) (l2 : Int32) (l3 : Int32) (H : Heap) (locs : List Loc) (ls : Array Slot), va_P G.1 vwCl [o12 h x_thrown a_s a_image x_hasImage x_act x_spot x_end x_isWrong x_open a_by a_truths x_turn x_lean x_last x_angle x_asLay x_ticks a_bodies x_ran x_kind x_number x_tellsV, aI G a_s 1394 f_s] H → va_D A [o12 h x_thrown a_s a_image x_hasImage x_act x_spot x_end x_isWrong x_open a_by a_truths x_turn x_lean x_last x_angle x_asLay x_ticks a_bodies x_ran x_kind x_number x_tellsV, aI G a_s 1394 f_s] → va_S A s.heap H locs → lv_has ls 5 [(0, .ref h), (2, .int l2), (3, .int l3)] → fX12_factor_b164 g_X12_factor g_X12_every g_X12_some x_act x_spot x_end x_isWrong x_open f_s l2 l3 = some (z_x_spot, z_x_isWrong, z_x_open, z_f_s) → W p l e ((rg_tM (d + 1))) s m args below meth c H locs 0 0 (MQ below (QV G [o12 h x_thrown a_s a_image x_hasImage x_act z_x_spot x_end z_x_isWrong z_x_open a_by a_truths x_turn x_lean x_last x_angle x_asLay x_ticks a_bodies x_ran x_kind x_number x_tellsV, aI G a_s 1394 z_f_s] A) args s 0 0 A) (F0 m 164 ls [.ref h]) := by
    intro x_spot x_isWrong x_open f_s l2 l3 H locs ls hP hD hS hl hF
    unfold fX12_factor_b164 at hF
    refine lv_iconst (v := 1) hx hb dX12_factor_164 (by decide) ?_
    refine lv_goto (tgt := 169) hx hb dX12_factor_165 (by decide) ?_
    exact B169 _ _ _ _ _ _ _ H locs ls hP hD hS (lv_sub hl [0, 1, 2] rfl) hF
  have B150 : ∀ (x_spot : Int32) (x_isWrong : Int32) (x_open : Int32) (f_s : Nat → Int32) (l2 : Int32) (s0 : Int32) (H : Heap) (locs : List Loc) (ls : Array Slot), va_P G.1 vwCl [o12 h x_thrown a_s a_image x_hasImage x_act x_spot x_end x_isWrong x_open a_by a_truths x_turn x_lean x_last x_angle x_asLay x_ticks a_bodies x_ran x_kind x_number x_tellsV, aI G a_s 1394 f_s] H → va_D A [o12 h x_thrown a_s a_image x_hasImage x_act x_spot x_end x_isWrong x_open a_by a_truths x_turn x_lean x_last x_angle x_asLay x_ticks a_bodies x_ran x_kind x_number x_tellsV, aI G a_s 1394 f_s] → va_S A s.heap H locs → lv_has ls 5 [(0, .ref h), (2, .int l2)] → fX12_factor_b150 g_X12_factor g_X12_every g_X12_some x_act x_spot x_end x_isWrong x_open f_s l2 s0 = some (z_x_spot, z_x_isWrong, z_x_open, z_f_s) → W p l e ((rg_tM (d + 1))) s m args below meth c H locs 0 0 (MQ below (QV G [o12 h x_thrown a_s a_image x_hasImage x_act z_x_spot x_end z_x_isWrong z_x_open a_by a_truths x_turn x_lean x_last x_angle x_asLay x_ticks a_bodies x_ran x_kind x_number x_tellsV, aI G a_s 1394 z_f_s] A) args s 0 0 A) (F0 m 150 ls [.int s0]) := by
    intro x_spot x_isWrong x_open f_s l2 s0 H locs ls hP hD hS hl hF
    unfold fX12_factor_b150 at hF
    refine lv_istore_n (lv' := [(3, .int s0), (0, .ref h), (2, .int l2)]) hx hb dX12_factor_150 rfl hl (by decide) rfl (fun ls hl => ?_)
    refine lv_aload_n hx hb dX12_factor_151 rfl (lv_at hl 1 rfl) ?_
    refine lv_aload_n hx hb dX12_factor_152 rfl (lv_at hl 1 rfl) ?_
    refine va_get (D := G.1) (ci := 12) (v := .int x_isWrong) (C := RX12) (T := TX12) (N := 22) hx hb hts hin12 hown hK hP 0 rfl rfl 7 (by decide) lk_62 (fun _ h9 => h9) rfl dX12_factor_153 ?_
    refine lv_if_ne (tgt := 164) hx hb dX12_factor_156 (by decide) (fun c25 => ?_) (fun c25 => ?_)
    · rw [if_neg c25] at hF
      exact B164 _ _ _ _ _ _ H locs ls hP hD hS (lv_sub hl [1, 2, 0] rfl) hF
    rw [if_pos c25] at hF
    refine lv_iload_n hx hb dX12_factor_159 rfl (lv_at hl 0 rfl) ?_
    refine lv_iconst (v := (-1)) hx hb dX12_factor_160 (by decide) ?_
    refine lv_icmp_ne (tgt := 168) hx hb dX12_factor_161 (by decide) (fun c31 => ?_) (fun c31 => ?_)
    · rw [if_neg c31] at hF
      refine lv_iconst (v := 0) hx hb dX12_factor_168 (by decide) ?_
      exact B169 _ _ _ _ _ _ _ H locs ls hP hD hS (lv_sub hl [1, 2, 0] rfl) hF
    rw [if_pos c31] at hF
    exact B164 _ _ _ _ _ _ H locs ls hP hD hS (lv_sub hl [1, 2, 0] rfl) hF
  have B130 : ∀ (x_spot : Int32) (x_isWrong : Int32) (x_open : Int32) (f_s : Nat → Int32) (l2 : Int32) (s1 : Int32) (H : Heap) (locs : List Loc) (ls : Array Slot), va_P G.1 vwCl [o12 h x_thrown a_s a_image x_hasImage x_act x_spot x_end x_isWrong x_open a_by a_truths x_turn x_lean x_last x_angle x_asLay x_ticks a_bodies x_ran x_kind x_number x_tellsV, aI G a_s 1394 f_s] H → va_D A [o12 h x_thrown a_s a_image x_hasImage x_act x_spot x_end x_isWrong x_open a_by a_truths x_turn x_lean x_last x_angle x_asLay x_ticks a_bodies x_ran x_kind x_number x_tellsV, aI G a_s 1394 f_s] → va_S A s.heap H locs → lv_has ls 5 [(0, .ref h), (2, .int l2)] → fX12_factor_b130 g_X12_factor g_X12_every g_X12_some x_act x_spot x_end x_isWrong x_open f_s l2 s1 = some (z_x_spot, z_x_isWrong, z_x_open, z_f_s) → W p l e ((rg_tM (d + 1))) s m args below meth c H locs 0 0 (MQ below (QV G [o12 h x_thrown a_s a_image x_hasImage x_act z_x_spot x_end z_x_isWrong z_x_open a_by a_truths x_turn x_lean x_last x_angle x_asLay x_ticks a_bodies x_ran x_kind x_number x_tellsV, aI G a_s 1394 z_f_s] A) args s 0 0 A) (F0 m 130 ls [.int s1, .ref h]) := by
    intro x_spot x_isWrong x_open f_s l2 s1 H locs ls hP hD hS hl hF
    unfold fX12_factor_b130 at hF
    obtain ⟨hb21, hF⟩ := ck_some hF
    refine va_put (D := G.1) (ci := 12) (v := .int s1) (ty := .boolean) (C := RX12) (T := TX12) (N := 22) hx hb hts hin12 tyX12 tyX12_ok nmX12 hown hK hP hD hS 0 rfl rfl 7 (by decide) lk_62 (fun _ h9 => h9) rfl (tyX12_ok 7 (by decide)) (nb_ok hb21).1 (nb_ok hb21).2 (Nat.le_of_ble_eq_true rfl) dX12_factor_130 (fun H locs hP hD hS => ?_)
    have hP : va_P G.1 vwCl [o12 h x_thrown a_s a_image x_hasImage x_act x_spot x_end s1 x_open a_by a_truths x_turn x_lean x_last x_angle x_asLay x_ticks a_bodies x_ran x_kind x_number x_tellsV, aI G a_s 1394 f_s] H := hP
    have hD : va_D A [o12 h x_thrown a_s a_image x_hasImage x_act x_spot x_end s1 x_open a_by a_truths x_turn x_lean x_last x_angle x_asLay x_ticks a_bodies x_ran x_kind x_number x_tellsV, aI G a_s 1394 f_s] := hD
    refine lv_aload_n hx hb dX12_factor_133 rfl (lv_at hl 0 rfl) ?_
    refine va_get (D := G.1) (ci := 12) (v := .int s1) (C := RX12) (T := TX12) (N := 22) hx hb hts hin12 hown hK hP 0 rfl rfl 7 (by decide) lk_62 (fun _ h9 => h9) rfl dX12_factor_134 ?_
    refine lv_if_eq (tgt := 144) hx hb dX12_factor_137 (by decide) (fun c22 => ?_) (fun c22 => ?_)
    · rw [if_pos c22] at hF
      refine lv_aload_n hx hb dX12_factor_144 rfl (lv_at hl 0 rfl) ?_
      refine va_ldcS hx hb hown (hE.ref (i := 7) (by decide)) dX12_factor_145 ?_
      obtain ⟨r23, hc24, hF⟩ := bd_some hF
      have hPc := hP.sub (ws' := [o12 h x_thrown a_s a_image x_hasImage x_act x_spot x_end s1 x_open a_by a_truths x_turn x_lean x_last x_angle x_asLay x_ticks a_bodies x_ran x_kind x_number x_tellsV, aI G a_s 1394 f_s]) [0, 1] rfl
      have hDc := hD.sub (ws' := [o12 h x_thrown a_s a_image x_hasImage x_act x_spot x_end s1 x_open a_by a_truths x_turn x_lean x_last x_angle x_asLay x_ticks a_bodies x_ran x_kind x_number x_tellsV, aI G a_s 1394 f_s]) [0, 1] (by decide) rfl
      have hFc := va_free (wc := [o12 h x_thrown a_s a_image x_hasImage x_act x_spot x_end s1 x_open a_by a_truths x_turn x_lean x_last x_angle x_asLay x_ticks a_bodies x_ran x_kind x_number x_tellsV, aI G a_s 1394 f_s]) hD hS hA [0, 1] rfl
      have hM := c_X12_among l G h a_s a_image a_by a_truths a_bodies x_thrown x_hasImage x_act x_spot x_end s1 x_open x_turn x_lean x_last x_angle x_asLay x_ticks x_ran x_kind x_number x_tellsV f_s 7 (by decide) r23.1 r23.2 hc24 H.size
      refine cl_i (w1 := [o12 h x_thrown a_s a_image x_hasImage x_act r23.2 x_end s1 x_open a_by a_truths x_turn x_lean x_last x_angle x_asLay x_ticks a_bodies x_ran x_kind x_number x_tellsV, aI G a_s 1394 f_s]) (ws' := [o12 h x_thrown a_s a_image x_hasImage x_act r23.2 x_end s1 x_open a_by a_truths x_turn x_lean x_last x_angle x_asLay x_ticks a_bodies x_ran x_kind x_number x_tellsV, aI G a_s 1394 f_s]) hP hD hS hFc [0, 1] rfl rfl rfl (va_runV (As := [.ref (G.2.2.1 7)]) (rest := []) ⟨hx, hb, hml, hown, hts⟩ hM (cwV 1 hts gX12_factor_X12_among rfl rfl rfl (by decide +kernel) ⟨(by show 4 + 1 ≤ 10 + (d + 1); omega), (by show 8 + (3 + 11) + 111 ≤ 300 + 60 * (d + 1); omega)⟩) (cp_V hK hE hS hPc hDc hFc (va_recv hK hPc (ci := 12) (q0 := 0) rfl rfl)) rfl rfl hl.1 rfl (lv_room (Nat.le_of_ble_eq_true rfl)) dX12_factor_147 ⟨Nat.zero_le _, Nat.zero_le _⟩) (fun H locs hP hD hS => ?_)
      exact B150 _ _ _ _ _ _ H locs ls hP hD hS (lv_sub hl [0, 1] rfl) hF
    rw [if_neg c22] at hF
    refine lv_iconst (v := 0) hx hb dX12_factor_140 (by decide) ?_
    refine lv_goto (tgt := 150) hx hb dX12_factor_141 (by decide) ?_
    exact B150 _ _ _ _ _ _ H locs ls hP hD hS (lv_sub hl [0, 1] rfl) hF
  intro hF
  unfold fX12_factor at hF
  refine lv_aload_n hx hb dX12_factor_0 rfl (lv_at hl 0 rfl) ?_
  refine va_get (D := G.1) (ci := 12) (v := .int x_isWrong) (C := RX12) (T := TX12) (N := 22) hx hb hts hin12 hown hK hP 0 rfl rfl 7 (by decide) lk_62 (fun _ h9 => h9) rfl dX12_factor_1 ?_
  refine lv_if_eq (tgt := 8) hx hb dX12_factor_4 (by decide) (fun c1 => ?_) (fun c1 => ?_)
  · rw [if_pos c1] at hF
    refine lv_aload_n hx hb dX12_factor_8 rfl (lv_at hl 0 rfl) ?_
    obtain ⟨r2, hc3, hF⟩ := bd_some hF
    have hPc := hP.sub (ws' := [o12 h x_thrown a_s a_image x_hasImage x_act x_spot x_end x_isWrong x_open a_by a_truths x_turn x_lean x_last x_angle x_asLay x_ticks a_bodies x_ran x_kind x_number x_tellsV, aI G a_s 1394 f_s]) [0, 1] rfl
    have hDc := hD.sub (ws' := [o12 h x_thrown a_s a_image x_hasImage x_act x_spot x_end x_isWrong x_open a_by a_truths x_turn x_lean x_last x_angle x_asLay x_ticks a_bodies x_ran x_kind x_number x_tellsV, aI G a_s 1394 f_s]) [0, 1] (by decide) rfl
    have hFc := va_free (wc := [o12 h x_thrown a_s a_image x_hasImage x_act x_spot x_end x_isWrong x_open a_by a_truths x_turn x_lean x_last x_angle x_asLay x_ticks a_bodies x_ran x_kind x_number x_tellsV, aI G a_s 1394 f_s]) hD hS hA [0, 1] rfl
    have hM := c_X12_here l G h a_s a_image a_by a_truths a_bodies x_thrown x_hasImage x_act x_spot x_end x_isWrong x_open x_turn x_lean x_last x_angle x_asLay x_ticks x_ran x_kind x_number x_tellsV f_s r2 hc3 H.size
    refine cl_i (w1 := [o12 h x_thrown a_s a_image x_hasImage x_act x_spot x_end x_isWrong x_open a_by a_truths x_turn x_lean x_last x_angle x_asLay x_ticks a_bodies x_ran x_kind x_number x_tellsV, aI G a_s 1394 f_s]) (ws' := [o12 h x_thrown a_s a_image x_hasImage x_act x_spot x_end x_isWrong x_open a_by a_truths x_turn x_lean x_last x_angle x_asLay x_ticks a_bodies x_ran x_kind x_number x_tellsV, aI G a_s 1394 f_s]) hP hD hS hFc [0, 1] rfl rfl rfl (va_runV (As := []) (rest := []) ⟨hx, hb, hml, hown, hts⟩ hM (cwV 0 hts gX12_factor_X12_here rfl rfl rfl (by decide +kernel) ⟨(by show 0 + 1 ≤ 10 + (d + 1); omega), (by show 8 + (1 + 11) + 0 ≤ 300 + 60 * (d + 1); omega)⟩) (cp_V hK hE hS hPc hDc hFc (va_recv hK hPc (ci := 12) (q0 := 0) rfl rfl)) rfl rfl hl.1 rfl (lv_room (Nat.le_of_ble_eq_true rfl)) dX12_factor_9 ⟨Nat.zero_le _, Nat.zero_le _⟩) (fun H locs hP hD hS => ?_)
    refine lv_istore_n (lv' := [(1, .int r2), (0, .ref h)]) hx hb dX12_factor_12 rfl hl (by decide) rfl (fun ls hl => ?_)
    refine lv_iload_n hx hb dX12_factor_13 rfl (lv_at hl 0 rfl) ?_
    refine lv_bipush (v := 33) hx hb dX12_factor_14 (by decide) ?_
    refine lv_icmp_eq (tgt := 25) hx hb dX12_factor_16 (by decide) (fun c4 => ?_) (fun c4 => ?_)
    · rw [if_pos c4] at hF
      exact B25 _ _ _ _ _ H locs ls hP hD hS (lv_sub hl [1, 0] rfl) hF
    rw [if_neg c4] at hF
    refine lv_iload_n hx hb dX12_factor_19 rfl (lv_at hl 0 rfl) ?_
    refine lv_bipush (v := 40) hx hb dX12_factor_20 (by decide) ?_
    refine lv_icmp_ne (tgt := 112) hx hb dX12_factor_22 (by decide) (fun c17 => ?_) (fun c17 => ?_)
    · rw [if_neg c17] at hF
      refine lv_aload_n hx hb dX12_factor_112 rfl (lv_at hl 1 rfl) ?_
      refine W.eq (g2 := F0 m 113 ls [.ref h]) rfl ?_
      refine va_ldcS hx hb hown (hE.ref (i := 6) (by decide)) dX12_factor_113 ?_
      obtain ⟨r18, hc19, hF⟩ := bd_some hF
      have hPc := hP.sub (ws' := [o12 h x_thrown a_s a_image x_hasImage x_act x_spot x_end x_isWrong x_open a_by a_truths x_turn x_lean x_last x_angle x_asLay x_ticks a_bodies x_ran x_kind x_number x_tellsV, aI G a_s 1394 f_s]) [0, 1] rfl
      have hDc := hD.sub (ws' := [o12 h x_thrown a_s a_image x_hasImage x_act x_spot x_end x_isWrong x_open a_by a_truths x_turn x_lean x_last x_angle x_asLay x_ticks a_bodies x_ran x_kind x_number x_tellsV, aI G a_s 1394 f_s]) [0, 1] (by decide) rfl
      have hFc := va_free (wc := [o12 h x_thrown a_s a_image x_hasImage x_act x_spot x_end x_isWrong x_open a_by a_truths x_turn x_lean x_last x_angle x_asLay x_ticks a_bodies x_ran x_kind x_number x_tellsV, aI G a_s 1394 f_s]) hD hS hA [0, 1] rfl
      have hM := c_X12_among l G h a_s a_image a_by a_truths a_bodies x_thrown x_hasImage x_act x_spot x_end x_isWrong x_open x_turn x_lean x_last x_angle x_asLay x_ticks x_ran x_kind x_number x_tellsV f_s 6 (by decide) r18.1 r18.2 hc19 H.size
      refine cl_i (w1 := [o12 h x_thrown a_s a_image x_hasImage x_act r18.2 x_end x_isWrong x_open a_by a_truths x_turn x_lean x_last x_angle x_asLay x_ticks a_bodies x_ran x_kind x_number x_tellsV, aI G a_s 1394 f_s]) (ws' := [o12 h x_thrown a_s a_image x_hasImage x_act r18.2 x_end x_isWrong x_open a_by a_truths x_turn x_lean x_last x_angle x_asLay x_ticks a_bodies x_ran x_kind x_number x_tellsV, aI G a_s 1394 f_s]) hP hD hS hFc [0, 1] rfl rfl rfl (va_runV (As := [.ref (G.2.2.1 6)]) (rest := []) ⟨hx, hb, hml, hown, hts⟩ hM (cwV 1 hts gX12_factor_X12_among rfl rfl rfl (by decide +kernel) ⟨(by show 4 + 1 ≤ 10 + (d + 1); omega), (by show 8 + (3 + 11) + 111 ≤ 300 + 60 * (d + 1); omega)⟩) (cp_V hK hE hS hPc hDc hFc (va_recv hK hPc (ci := 12) (q0 := 0) rfl rfl)) rfl rfl hl.1 rfl (lv_room (Nat.le_of_ble_eq_true rfl)) dX12_factor_115 ⟨Nat.zero_le _, Nat.zero_le _⟩) (fun H locs hP hD hS => ?_)
      refine lv_istore_n (lv' := [(2, .int r18.1), (1, .int r2), (0, .ref h)]) hx hb dX12_factor_118 rfl hl (by decide) rfl (fun ls hl => ?_)
      refine lv_aload_n hx hb dX12_factor_119 rfl (lv_at hl 2 rfl) ?_
      refine lv_iload_n hx hb dX12_factor_120 rfl (lv_at hl 0 rfl) ?_
      refine lv_iconst (v := (-1)) hx hb dX12_factor_121 (by decide) ?_
      refine lv_icmp_ne (tgt := 129) hx hb dX12_factor_122 (by decide) (fun c20 => ?_) (fun c20 => ?_)
      · rw [if_neg c20] at hF
        refine lv_iconst (v := 0) hx hb dX12_factor_129 (by decide) ?_
        exact B130 _ _ _ _ _ _ H locs ls hP hD hS (lv_sub hl [2, 0] rfl) hF
      rw [if_pos c20] at hF
      refine lv_iconst (v := 1) hx hb dX12_factor_125 (by decide) ?_
      refine lv_goto (tgt := 130) hx hb dX12_factor_126 (by decide) ?_
      exact B130 _ _ _ _ _ _ H locs ls hP hD hS (lv_sub hl [2, 0] rfl) hF
    rw [if_pos c17] at hF
    exact B25 _ _ _ _ _ H locs ls hP hD hS (lv_sub hl [1, 0] rfl) hF
  rw [if_neg c1] at hF
  injection hF with hz
  injection hz with hq0 hz
  injection hz with hq1 hz
  injection hz with hq2 hz
  subst hq0
  subst hq1
  subst hq2
  subst hz
  exact cm_retv hx hb hr hlk hK hP hD hS dX12_factor_7

/-! HeadsByHairModel.every()V -/
set_option maxHeartbeats 4000000 in
set_option maxRecDepth 100000 in
theorem c_X12_every (l : Launch) (G : GG) (d : Nat) (g_X12_factor : Int32 → Int32 → Int32 → Int32 → Int32 → (Nat → Int32) → Option (Int32 × Int32 × Int32 × (Nat → Int32))) (hg_X12_factor : ∀ (h a_s a_image a_by a_truths a_bodies : Nat) (x_thrown x_hasImage x_act x_spot x_end x_isWrong x_open x_turn x_lean x_last x_angle x_asLay x_ticks x_ran x_kind x_number x_tellsV : Int32) (f_s : Nat → Int32) (z_x_spot : Int32) (z_x_isWrong : Int32) (z_x_open : Int32) (z_f_s : Nat → Int32), g_X12_factor x_act x_spot x_end x_isWrong x_open f_s = some (z_x_spot, z_x_isWrong, z_x_open, z_f_s) → CMv l yX12_factor wsX12_factor (rg_tM d) G [o12 h x_thrown a_s a_image x_hasImage x_act x_spot x_end x_isWrong x_open a_by a_truths x_turn x_lean x_last x_angle x_asLay x_ticks a_bodies x_ran x_kind x_number x_tellsV, aI G a_s 1394 f_s] [o12 h x_thrown a_s a_image x_hasImage x_act z_x_spot x_end z_x_isWrong z_x_open a_by a_truths x_turn x_lean x_last x_angle x_asLay x_ticks a_bodies x_ran x_kind x_number x_tellsV, aI G a_s 1394 z_f_s] [.ref h]) (g_X12_every : Int32 → Int32 → Int32 → Int32 → Int32 → (Nat → Int32) → Option (Int32 × Int32 × Int32 × (Nat → Int32))) (hg_X12_every : ∀ (h a_s a_image a_by a_truths a_bodies : Nat) (x_thrown x_hasImage x_act x_spot x_end x_isWrong x_open x_turn x_lean x_last x_angle x_asLay x_ticks x_ran x_kind x_number x_tellsV : Int32) (f_s : Nat → Int32) (z_x_spot : Int32) (z_x_isWrong : Int32) (z_x_open : Int32) (z_f_s : Nat → Int32), g_X12_every x_act x_spot x_end x_isWrong x_open f_s = some (z_x_spot, z_x_isWrong, z_x_open, z_f_s) → CMv l yX12_every wsX12_every (rg_tM d) G [o12 h x_thrown a_s a_image x_hasImage x_act x_spot x_end x_isWrong x_open a_by a_truths x_turn x_lean x_last x_angle x_asLay x_ticks a_bodies x_ran x_kind x_number x_tellsV, aI G a_s 1394 f_s] [o12 h x_thrown a_s a_image x_hasImage x_act z_x_spot x_end z_x_isWrong z_x_open a_by a_truths x_turn x_lean x_last x_angle x_asLay x_ticks a_bodies x_ran x_kind x_number x_tellsV, aI G a_s 1394 z_f_s] [.ref h]) (g_X12_some : Int32 → Int32 → Int32 → Int32 → Int32 → (Nat → Int32) → Option (Int32 × Int32 × Int32 × (Nat → Int32))) (hg_X12_some : ∀ (h a_s a_image a_by a_truths a_bodies : Nat) (x_thrown x_hasImage x_act x_spot x_end x_isWrong x_open x_turn x_lean x_last x_angle x_asLay x_ticks x_ran x_kind x_number x_tellsV : Int32) (f_s : Nat → Int32) (z_x_spot : Int32) (z_x_isWrong : Int32) (z_x_open : Int32) (z_f_s : Nat → Int32), g_X12_some x_act x_spot x_end x_isWrong x_open f_s = some (z_x_spot, z_x_isWrong, z_x_open, z_f_s) → CMv l yX12_some wsX12_some (rg_tM d) G [o12 h x_thrown a_s a_image x_hasImage x_act x_spot x_end x_isWrong x_open a_by a_truths x_turn x_lean x_last x_angle x_asLay x_ticks a_bodies x_ran x_kind x_number x_tellsV, aI G a_s 1394 f_s] [o12 h x_thrown a_s a_image x_hasImage x_act z_x_spot x_end z_x_isWrong z_x_open a_by a_truths x_turn x_lean x_last x_angle x_asLay x_ticks a_bodies x_ran x_kind x_number x_tellsV, aI G a_s 1394 z_f_s] [.ref h]) (h a_s a_image a_by a_truths a_bodies : Nat) (x_thrown x_hasImage x_act x_spot x_end x_isWrong x_open x_turn x_lean x_last x_angle x_asLay x_ticks x_ran x_kind x_number x_tellsV : Int32) (f_s : Nat → Int32) (z_x_spot : Int32) (z_x_isWrong : Int32) (z_x_open : Int32) (z_f_s : Nat → Int32) (hF : fX12_every g_X12_factor g_X12_every g_X12_some x_act x_spot x_end x_isWrong x_open f_s = some (z_x_spot, z_x_isWrong, z_x_open, z_f_s)) : CMv l yX12_every wsX12_every (rg_tM (d + 1)) G [o12 h x_thrown a_s a_image x_hasImage x_act x_spot x_end x_isWrong x_open a_by a_truths x_turn x_lean x_last x_angle x_asLay x_ticks a_bodies x_ran x_kind x_number x_tellsV, aI G a_s 1394 f_s] [o12 h x_thrown a_s a_image x_hasImage x_act z_x_spot x_end z_x_isWrong z_x_open a_by a_truths x_turn x_lean x_last x_angle x_asLay x_ticks a_bodies x_ran x_kind x_number x_tellsV, aI G a_s 1394 z_f_s] [.ref h] := by
  refine cm_start (cc := cX12_every) (maxL := 1) (ret := none) (Qc := fun A => QV G [o12 h x_thrown a_s a_image x_hasImage x_act z_x_spot x_end z_x_isWrong z_x_open a_by a_truths x_turn x_lean x_last x_angle x_asLay x_ticks a_bodies x_ran x_kind x_number x_tellsV, aI G a_s 1394 z_f_s] A) (by decide +kernel) rfl (Nat.le_of_ble_eq_true rfl) ?_
  intro p e s m args below meth c A hx hb hr hlk hml hown hnm hts hA H locs hP hK hD hE hS ls hl
  have hown : s.vm.findClass RX12 = some m.cls := hown
  have hl : lv_has ls 1 [(0, .ref h)] := hl
  have hin12 : ∀ w ∈ wsX120, w ∈ wsX12_every := by decide +kernel
  have lk_62 := hts (.fieldLink RX12 62 "HeadsByHairModel" "isWrong" "Z") (by decide +kernel)
  have lk_56 := hts (.fieldLink RX12 56 "HeadsByHairModel" "spot" "I") (by decide +kernel)
  revert hF
  have LP4 : ∀ (n : Nat) (x_spot : Int32) (x_isWrong : Int32) (x_open : Int32) (f_s : Nat → Int32) (H : Heap) (locs : List Loc) (ls : Array Slot), va_P G.1 vwCl [o12 h x_thrown a_s a_image x_hasImage x_act x_spot x_end x_isWrong x_open a_by a_truths x_turn x_lean x_last x_angle x_asLay x_ticks a_bodies x_ran x_kind x_number x_tellsV, aI G a_s 1394 f_s] H → va_D A [o12 h x_thrown a_s a_image x_hasImage x_act x_spot x_end x_isWrong x_open a_by a_truths x_turn x_lean x_last x_angle x_asLay x_ticks a_bodies x_ran x_kind x_number x_tellsV, aI G a_s 1394 f_s] → va_S A s.heap H locs → lv_has ls 1 [(0, .ref h)] → fX12_every_L4 g_X12_factor g_X12_every g_X12_some x_act x_end n x_spot x_isWrong x_open f_s = some (z_x_spot, z_x_isWrong, z_x_open, z_f_s) → W p l e ((rg_tM (d + 1))) s m args below meth c H locs 0 0 (MQ below (QV G [o12 h x_thrown a_s a_image x_hasImage x_act z_x_spot x_end z_x_isWrong z_x_open a_by a_truths x_turn x_lean x_last x_angle x_asLay x_ticks a_bodies x_ran x_kind x_number x_tellsV, aI G a_s 1394 z_f_s] A) args s 0 0 A) (F0 m 4 ls []) := by
    intro n
    induction n with
    | zero =>
      intro x_spot x_isWrong x_open f_s H locs ls hP hD hS hl hF
      cases hF
    | succ n ih =>
      intro x_spot x_isWrong x_open f_s H locs ls hP hD hS hl hF
      rw [fX12_every_L4] at hF
      refine lv_aload_n hx hb dX12_every_4 rfl (lv_at hl 0 rfl) ?_
      refine va_get (D := G.1) (ci := 12) (v := .int x_isWrong) (C := RX12) (T := TX12) (N := 22) hx hb hts hin12 hown hK hP 0 rfl rfl 7 (by decide) lk_62 (fun _ h9 => h9) rfl dX12_every_5 ?_
      refine lv_if_ne (tgt := 43) hx hb dX12_every_8 (by decide) (fun c3 => ?_) (fun c3 => ?_)
      · rw [if_neg c3] at hF
        injection hF with hz
        injection hz with hq0 hz
        injection hz with hq1 hz
        injection hz with hq2 hz
        subst hq0
        subst hq1
        subst hq2
        subst hz
        exact cm_retv hx hb hr hlk hK hP hD hS dX12_every_43
      rw [if_pos c3] at hF
      refine lv_aload_n hx hb dX12_every_11 rfl (lv_at hl 0 rfl) ?_
      obtain ⟨r4, hc5, hF⟩ := bd_some hF
      have hPc := hP.sub (ws' := [o12 h x_thrown a_s a_image x_hasImage x_act x_spot x_end x_isWrong x_open a_by a_truths x_turn x_lean x_last x_angle x_asLay x_ticks a_bodies x_ran x_kind x_number x_tellsV, aI G a_s 1394 f_s]) [0, 1] rfl
      have hDc := hD.sub (ws' := [o12 h x_thrown a_s a_image x_hasImage x_act x_spot x_end x_isWrong x_open a_by a_truths x_turn x_lean x_last x_angle x_asLay x_ticks a_bodies x_ran x_kind x_number x_tellsV, aI G a_s 1394 f_s]) [0, 1] (by decide) rfl
      have hFc := va_free (wc := [o12 h x_thrown a_s a_image x_hasImage x_act x_spot x_end x_isWrong x_open a_by a_truths x_turn x_lean x_last x_angle x_asLay x_ticks a_bodies x_ran x_kind x_number x_tellsV, aI G a_s 1394 f_s]) hD hS hA [0, 1] rfl
      have hM := c_X12_here l G h a_s a_image a_by a_truths a_bodies x_thrown x_hasImage x_act x_spot x_end x_isWrong x_open x_turn x_lean x_last x_angle x_asLay x_ticks x_ran x_kind x_number x_tellsV f_s r4 hc5 H.size
      refine cl_i (w1 := [o12 h x_thrown a_s a_image x_hasImage x_act x_spot x_end x_isWrong x_open a_by a_truths x_turn x_lean x_last x_angle x_asLay x_ticks a_bodies x_ran x_kind x_number x_tellsV, aI G a_s 1394 f_s]) (ws' := [o12 h x_thrown a_s a_image x_hasImage x_act x_spot x_end x_isWrong x_open a_by a_truths x_turn x_lean x_last x_angle x_asLay x_ticks a_bodies x_ran x_kind x_number x_tellsV, aI G a_s 1394 f_s]) hP hD hS hFc [0, 1] rfl rfl rfl (va_runV (As := []) (rest := []) ⟨hx, hb, hml, hown, hts⟩ hM (cwV 0 hts gX12_every_X12_here rfl rfl rfl (by decide +kernel) ⟨(by show 0 + 1 ≤ 10 + (d + 1); omega), (by show 8 + (1 + 11) + 0 ≤ 300 + 60 * (d + 1); omega)⟩) (cp_V hK hE hS hPc hDc hFc (va_recv hK hPc (ci := 12) (q0 := 0) rfl rfl)) rfl rfl hl.1 rfl (lv_room (Nat.le_of_ble_eq_true rfl)) dX12_every_12 ⟨Nat.zero_le _, Nat.zero_le _⟩) (fun H locs hP hD hS => ?_)
      refine lv_bipush (v := 38) hx hb dX12_every_15 (by decide) ?_
      refine lv_icmp_ne (tgt := 43) hx hb dX12_every_17 (by decide) (fun c6 => ?_) (fun c6 => ?_)
      · rw [if_neg c6] at hF
        injection hF with hz
        injection hz with hq0 hz
        injection hz with hq1 hz
        injection hz with hq2 hz
        subst hq0
        subst hq1
        subst hq2
        subst hz
        exact cm_retv hx hb hr hlk hK hP hD hS dX12_every_43
      rw [if_pos c6] at hF
      refine lv_aload_n hx hb dX12_every_20 rfl (lv_at hl 0 rfl) ?_
      refine lv_dup hx hb dX12_every_21 rfl ?_
      refine va_get (D := G.1) (ci := 12) (v := .int x_spot) (C := RX12) (T := TX12) (N := 22) hx hb hts hin12 hown hK hP 0 rfl rfl 5 (by decide) lk_56 (fun _ h9 => h9) rfl dX12_every_22 ?_
      refine lv_iconst (v := 1) hx hb dX12_every_25 (by decide) ?_
      refine lv_iadd hx hb dX12_every_26 ?_
      refine va_put (D := G.1) (ci := 12) (v := .int (x_spot + 1)) (ty := .int) (C := RX12) (T := TX12) (N := 22) hx hb hts hin12 tyX12 tyX12_ok nmX12 hown hK hP hD hS 0 rfl rfl 5 (by decide) lk_56 (fun _ h9 => h9) rfl (tyX12_ok 5 (by decide)) rfl rfl (Nat.le_of_ble_eq_true rfl) dX12_every_27 (fun H locs hP hD hS => ?_)
      have hP : va_P G.1 vwCl [o12 h x_thrown a_s a_image x_hasImage x_act (x_spot + 1) x_end x_isWrong x_open a_by a_truths x_turn x_lean x_last x_angle x_asLay x_ticks a_bodies x_ran x_kind x_number x_tellsV, aI G a_s 1394 f_s] H := hP
      have hD : va_D A [o12 h x_thrown a_s a_image x_hasImage x_act (x_spot + 1) x_end x_isWrong x_open a_by a_truths x_turn x_lean x_last x_angle x_asLay x_ticks a_bodies x_ran x_kind x_number x_tellsV, aI G a_s 1394 f_s] := hD
      refine W.eq (g2 := F0 m 30 ls []) rfl ?_
      refine lv_aload_n hx hb dX12_every_30 rfl (lv_at hl 0 rfl) ?_
      obtain ⟨r7, hc8, hF⟩ := bd_some hF
      have hPc := hP.sub (ws' := [o12 h x_thrown a_s a_image x_hasImage x_act (x_spot + 1) x_end x_isWrong x_open a_by a_truths x_turn x_lean x_last x_angle x_asLay x_ticks a_bodies x_ran x_kind x_number x_tellsV, aI G a_s 1394 f_s]) [0, 1] rfl
      have hDc := hD.sub (ws' := [o12 h x_thrown a_s a_image x_hasImage x_act (x_spot + 1) x_end x_isWrong x_open a_by a_truths x_turn x_lean x_last x_angle x_asLay x_ticks a_bodies x_ran x_kind x_number x_tellsV, aI G a_s 1394 f_s]) [0, 1] (by decide) rfl
      have hFc := va_free (wc := [o12 h x_thrown a_s a_image x_hasImage x_act (x_spot + 1) x_end x_isWrong x_open a_by a_truths x_turn x_lean x_last x_angle x_asLay x_ticks a_bodies x_ran x_kind x_number x_tellsV, aI G a_s 1394 f_s]) hD hS hA [0, 1] rfl
      have hM := hg_X12_factor h a_s a_image a_by a_truths a_bodies x_thrown x_hasImage x_act (x_spot + 1) x_end x_isWrong x_open x_turn x_lean x_last x_angle x_asLay x_ticks x_ran x_kind x_number x_tellsV f_s r7.1 r7.2.1 r7.2.2.1 r7.2.2.2 hc8 H.size
      refine cl_v (w1 := [o12 h x_thrown a_s a_image x_hasImage x_act r7.1 x_end r7.2.1 r7.2.2.1 a_by a_truths x_turn x_lean x_last x_angle x_asLay x_ticks a_bodies x_ran x_kind x_number x_tellsV, aI G a_s 1394 r7.2.2.2]) (ws' := [o12 h x_thrown a_s a_image x_hasImage x_act r7.1 x_end r7.2.1 r7.2.2.1 a_by a_truths x_turn x_lean x_last x_angle x_asLay x_ticks a_bodies x_ran x_kind x_number x_tellsV, aI G a_s 1394 r7.2.2.2]) hP hD hS hFc [0, 1] rfl rfl rfl (va_runV (As := []) (rest := []) ⟨hx, hb, hml, hown, hts⟩ hM (cwV 0 hts gX12_every_X12_factor rfl rfl rfl (by decide +kernel) ⟨(by show (10 + d) + 1 ≤ 10 + (d + 1); omega), (by show 8 + (5 + 11) + (300 + 60 * d) ≤ 300 + 60 * (d + 1); omega)⟩) (cp_V hK hE hS hPc hDc hFc (va_recv hK hPc (ci := 12) (q0 := 0) rfl rfl)) rfl rfl hl.1 rfl (lv_room (Nat.le_of_ble_eq_true rfl)) dX12_every_31 ⟨Nat.zero_le _, Nat.zero_le _⟩) (fun H locs hP hD hS => ?_)
      refine lv_aload_n hx hb dX12_every_34 rfl (lv_at hl 0 rfl) ?_
      refine lv_bipush (v := (-2)) hx hb dX12_every_35 (by decide) ?_
      obtain ⟨r9, hc10, hF⟩ := bd_some hF
      have hPc := hP.sub (ws' := [o12 h x_thrown a_s a_image x_hasImage x_act r7.1 x_end r7.2.1 r7.2.2.1 a_by a_truths x_turn x_lean x_last x_angle x_asLay x_ticks a_bodies x_ran x_kind x_number x_tellsV, aI G a_s 1394 r7.2.2.2]) [0, 1] rfl
      have hDc := hD.sub (ws' := [o12 h x_thrown a_s a_image x_hasImage x_act r7.1 x_end r7.2.1 r7.2.2.1 a_by a_truths x_turn x_lean x_last x_angle x_asLay x_ticks a_bodies x_ran x_kind x_number x_tellsV, aI G a_s 1394 r7.2.2.2]) [0, 1] (by decide) rfl
      have hFc := va_free (wc := [o12 h x_thrown a_s a_image x_hasImage x_act r7.1 x_end r7.2.1 r7.2.2.1 a_by a_truths x_turn x_lean x_last x_angle x_asLay x_ticks a_bodies x_ran x_kind x_number x_tellsV, aI G a_s 1394 r7.2.2.2]) hD hS hA [0, 1] rfl
      have hM := c_X12_emits l G h a_s a_image a_by a_truths a_bodies x_thrown x_hasImage x_act r7.1 x_end r7.2.1 r7.2.2.1 x_turn x_lean x_last x_angle x_asLay x_ticks x_ran x_kind x_number x_tellsV r7.2.2.2 ((-2) : Int32) r9 hc10 H.size
      refine cl_v (w1 := [o12 h x_thrown a_s a_image x_hasImage x_act r7.1 x_end r7.2.1 r7.2.2.1 a_by a_truths x_turn x_lean x_last x_angle x_asLay x_ticks a_bodies x_ran x_kind x_number x_tellsV, aI G a_s 1394 r9]) (ws' := [o12 h x_thrown a_s a_image x_hasImage x_act r7.1 x_end r7.2.1 r7.2.2.1 a_by a_truths x_turn x_lean x_last x_angle x_asLay x_ticks a_bodies x_ran x_kind x_number x_tellsV, aI G a_s 1394 r9]) hP hD hS hFc [0, 1] rfl rfl rfl (va_runV (As := [.int (-2)]) (rest := []) ⟨hx, hb, hml, hown, hts⟩ hM (cwV 1 hts gX12_every_X12_emits rfl rfl rfl (by decide +kernel) ⟨(by show 0 + 1 ≤ 10 + (d + 1); omega), (by show 8 + (2 + 11) + 0 ≤ 300 + 60 * (d + 1); omega)⟩) (cp_V hK hE hS hPc hDc hFc (va_recv hK hPc (ci := 12) (q0 := 0) rfl rfl)) rfl rfl hl.1 rfl (lv_room (Nat.le_of_ble_eq_true rfl)) dX12_every_37 ⟨Nat.zero_le _, Nat.zero_le _⟩) (fun H locs hP hD hS => ?_)
      refine lv_goto (tgt := 4) hx hb dX12_every_40 (by decide) ?_
      exact ih _ _ _ _ H locs ls hP hD hS (lv_sub hl [0] rfl) hF
  intro hF
  unfold fX12_every at hF
  refine lv_aload_n hx hb dX12_every_0 rfl (lv_at hl 0 rfl) ?_
  obtain ⟨r1, hc2, hF⟩ := bd_some hF
  have hPc := hP.sub (ws' := [o12 h x_thrown a_s a_image x_hasImage x_act x_spot x_end x_isWrong x_open a_by a_truths x_turn x_lean x_last x_angle x_asLay x_ticks a_bodies x_ran x_kind x_number x_tellsV, aI G a_s 1394 f_s]) [0, 1] rfl
  have hDc := hD.sub (ws' := [o12 h x_thrown a_s a_image x_hasImage x_act x_spot x_end x_isWrong x_open a_by a_truths x_turn x_lean x_last x_angle x_asLay x_ticks a_bodies x_ran x_kind x_number x_tellsV, aI G a_s 1394 f_s]) [0, 1] (by decide) rfl
  have hFc := va_free (wc := [o12 h x_thrown a_s a_image x_hasImage x_act x_spot x_end x_isWrong x_open a_by a_truths x_turn x_lean x_last x_angle x_asLay x_ticks a_bodies x_ran x_kind x_number x_tellsV, aI G a_s 1394 f_s]) hD hS hA [0, 1] rfl
  have hM := hg_X12_factor h a_s a_image a_by a_truths a_bodies x_thrown x_hasImage x_act x_spot x_end x_isWrong x_open x_turn x_lean x_last x_angle x_asLay x_ticks x_ran x_kind x_number x_tellsV f_s r1.1 r1.2.1 r1.2.2.1 r1.2.2.2 hc2 H.size
  refine cl_v (w1 := [o12 h x_thrown a_s a_image x_hasImage x_act r1.1 x_end r1.2.1 r1.2.2.1 a_by a_truths x_turn x_lean x_last x_angle x_asLay x_ticks a_bodies x_ran x_kind x_number x_tellsV, aI G a_s 1394 r1.2.2.2]) (ws' := [o12 h x_thrown a_s a_image x_hasImage x_act r1.1 x_end r1.2.1 r1.2.2.1 a_by a_truths x_turn x_lean x_last x_angle x_asLay x_ticks a_bodies x_ran x_kind x_number x_tellsV, aI G a_s 1394 r1.2.2.2]) hP hD hS hFc [0, 1] rfl rfl rfl (va_runV (As := []) (rest := []) ⟨hx, hb, hml, hown, hts⟩ hM (cwV 0 hts gX12_every_X12_factor rfl rfl rfl (by decide +kernel) ⟨(by show (10 + d) + 1 ≤ 10 + (d + 1); omega), (by show 8 + (5 + 11) + (300 + 60 * d) ≤ 300 + 60 * (d + 1); omega)⟩) (cp_V hK hE hS hPc hDc hFc (va_recv hK hPc (ci := 12) (q0 := 0) rfl rfl)) rfl rfl hl.1 rfl (lv_room (Nat.le_of_ble_eq_true rfl)) dX12_every_1 ⟨Nat.zero_le _, Nat.zero_le _⟩) (fun H locs hP hD hS => ?_)
  refine LP4 _ _ _ _ _ H locs ls hP hD hS (lv_sub hl [0] rfl) hF

/-! HeadsByHairModel.some()V -/
set_option maxHeartbeats 4000000 in
set_option maxRecDepth 100000 in
theorem c_X12_some (l : Launch) (G : GG) (d : Nat) (g_X12_factor : Int32 → Int32 → Int32 → Int32 → Int32 → (Nat → Int32) → Option (Int32 × Int32 × Int32 × (Nat → Int32))) (hg_X12_factor : ∀ (h a_s a_image a_by a_truths a_bodies : Nat) (x_thrown x_hasImage x_act x_spot x_end x_isWrong x_open x_turn x_lean x_last x_angle x_asLay x_ticks x_ran x_kind x_number x_tellsV : Int32) (f_s : Nat → Int32) (z_x_spot : Int32) (z_x_isWrong : Int32) (z_x_open : Int32) (z_f_s : Nat → Int32), g_X12_factor x_act x_spot x_end x_isWrong x_open f_s = some (z_x_spot, z_x_isWrong, z_x_open, z_f_s) → CMv l yX12_factor wsX12_factor (rg_tM d) G [o12 h x_thrown a_s a_image x_hasImage x_act x_spot x_end x_isWrong x_open a_by a_truths x_turn x_lean x_last x_angle x_asLay x_ticks a_bodies x_ran x_kind x_number x_tellsV, aI G a_s 1394 f_s] [o12 h x_thrown a_s a_image x_hasImage x_act z_x_spot x_end z_x_isWrong z_x_open a_by a_truths x_turn x_lean x_last x_angle x_asLay x_ticks a_bodies x_ran x_kind x_number x_tellsV, aI G a_s 1394 z_f_s] [.ref h]) (g_X12_every : Int32 → Int32 → Int32 → Int32 → Int32 → (Nat → Int32) → Option (Int32 × Int32 × Int32 × (Nat → Int32))) (hg_X12_every : ∀ (h a_s a_image a_by a_truths a_bodies : Nat) (x_thrown x_hasImage x_act x_spot x_end x_isWrong x_open x_turn x_lean x_last x_angle x_asLay x_ticks x_ran x_kind x_number x_tellsV : Int32) (f_s : Nat → Int32) (z_x_spot : Int32) (z_x_isWrong : Int32) (z_x_open : Int32) (z_f_s : Nat → Int32), g_X12_every x_act x_spot x_end x_isWrong x_open f_s = some (z_x_spot, z_x_isWrong, z_x_open, z_f_s) → CMv l yX12_every wsX12_every (rg_tM d) G [o12 h x_thrown a_s a_image x_hasImage x_act x_spot x_end x_isWrong x_open a_by a_truths x_turn x_lean x_last x_angle x_asLay x_ticks a_bodies x_ran x_kind x_number x_tellsV, aI G a_s 1394 f_s] [o12 h x_thrown a_s a_image x_hasImage x_act z_x_spot x_end z_x_isWrong z_x_open a_by a_truths x_turn x_lean x_last x_angle x_asLay x_ticks a_bodies x_ran x_kind x_number x_tellsV, aI G a_s 1394 z_f_s] [.ref h]) (g_X12_some : Int32 → Int32 → Int32 → Int32 → Int32 → (Nat → Int32) → Option (Int32 × Int32 × Int32 × (Nat → Int32))) (hg_X12_some : ∀ (h a_s a_image a_by a_truths a_bodies : Nat) (x_thrown x_hasImage x_act x_spot x_end x_isWrong x_open x_turn x_lean x_last x_angle x_asLay x_ticks x_ran x_kind x_number x_tellsV : Int32) (f_s : Nat → Int32) (z_x_spot : Int32) (z_x_isWrong : Int32) (z_x_open : Int32) (z_f_s : Nat → Int32), g_X12_some x_act x_spot x_end x_isWrong x_open f_s = some (z_x_spot, z_x_isWrong, z_x_open, z_f_s) → CMv l yX12_some wsX12_some (rg_tM d) G [o12 h x_thrown a_s a_image x_hasImage x_act x_spot x_end x_isWrong x_open a_by a_truths x_turn x_lean x_last x_angle x_asLay x_ticks a_bodies x_ran x_kind x_number x_tellsV, aI G a_s 1394 f_s] [o12 h x_thrown a_s a_image x_hasImage x_act z_x_spot x_end z_x_isWrong z_x_open a_by a_truths x_turn x_lean x_last x_angle x_asLay x_ticks a_bodies x_ran x_kind x_number x_tellsV, aI G a_s 1394 z_f_s] [.ref h]) (h a_s a_image a_by a_truths a_bodies : Nat) (x_thrown x_hasImage x_act x_spot x_end x_isWrong x_open x_turn x_lean x_last x_angle x_asLay x_ticks x_ran x_kind x_number x_tellsV : Int32) (f_s : Nat → Int32) (z_x_spot : Int32) (z_x_isWrong : Int32) (z_x_open : Int32) (z_f_s : Nat → Int32) (hF : fX12_some g_X12_factor g_X12_every g_X12_some x_act x_spot x_end x_isWrong x_open f_s = some (z_x_spot, z_x_isWrong, z_x_open, z_f_s)) : CMv l yX12_some wsX12_some (rg_tM (d + 1)) G [o12 h x_thrown a_s a_image x_hasImage x_act x_spot x_end x_isWrong x_open a_by a_truths x_turn x_lean x_last x_angle x_asLay x_ticks a_bodies x_ran x_kind x_number x_tellsV, aI G a_s 1394 f_s] [o12 h x_thrown a_s a_image x_hasImage x_act z_x_spot x_end z_x_isWrong z_x_open a_by a_truths x_turn x_lean x_last x_angle x_asLay x_ticks a_bodies x_ran x_kind x_number x_tellsV, aI G a_s 1394 z_f_s] [.ref h] := by
  refine cm_start (cc := cX12_some) (maxL := 1) (ret := none) (Qc := fun A => QV G [o12 h x_thrown a_s a_image x_hasImage x_act z_x_spot x_end z_x_isWrong z_x_open a_by a_truths x_turn x_lean x_last x_angle x_asLay x_ticks a_bodies x_ran x_kind x_number x_tellsV, aI G a_s 1394 z_f_s] A) (by decide +kernel) rfl (Nat.le_of_ble_eq_true rfl) ?_
  intro p e s m args below meth c A hx hb hr hlk hml hown hnm hts hA H locs hP hK hD hE hS ls hl
  have hown : s.vm.findClass RX12 = some m.cls := hown
  have hl : lv_has ls 1 [(0, .ref h)] := hl
  have hin12 : ∀ w ∈ wsX120, w ∈ wsX12_some := by decide +kernel
  have lk_62 := hts (.fieldLink RX12 62 "HeadsByHairModel" "isWrong" "Z") (by decide +kernel)
  have lk_56 := hts (.fieldLink RX12 56 "HeadsByHairModel" "spot" "I") (by decide +kernel)
  revert hF
  have LP4 : ∀ (n : Nat) (x_spot : Int32) (x_isWrong : Int32) (x_open : Int32) (f_s : Nat → Int32) (H : Heap) (locs : List Loc) (ls : Array Slot), va_P G.1 vwCl [o12 h x_thrown a_s a_image x_hasImage x_act x_spot x_end x_isWrong x_open a_by a_truths x_turn x_lean x_last x_angle x_asLay x_ticks a_bodies x_ran x_kind x_number x_tellsV, aI G a_s 1394 f_s] H → va_D A [o12 h x_thrown a_s a_image x_hasImage x_act x_spot x_end x_isWrong x_open a_by a_truths x_turn x_lean x_last x_angle x_asLay x_ticks a_bodies x_ran x_kind x_number x_tellsV, aI G a_s 1394 f_s] → va_S A s.heap H locs → lv_has ls 1 [(0, .ref h)] → fX12_some_L4 g_X12_factor g_X12_every g_X12_some x_act x_end n x_spot x_isWrong x_open f_s = some (z_x_spot, z_x_isWrong, z_x_open, z_f_s) → W p l e ((rg_tM (d + 1))) s m args below meth c H locs 0 0 (MQ below (QV G [o12 h x_thrown a_s a_image x_hasImage x_act z_x_spot x_end z_x_isWrong z_x_open a_by a_truths x_turn x_lean x_last x_angle x_asLay x_ticks a_bodies x_ran x_kind x_number x_tellsV, aI G a_s 1394 z_f_s] A) args s 0 0 A) (F0 m 4 ls []) := by
    intro n
    induction n with
    | zero =>
      intro x_spot x_isWrong x_open f_s H locs ls hP hD hS hl hF
      cases hF
    | succ n ih =>
      intro x_spot x_isWrong x_open f_s H locs ls hP hD hS hl hF
      rw [fX12_some_L4] at hF
      refine lv_aload_n hx hb dX12_some_4 rfl (lv_at hl 0 rfl) ?_
      refine va_get (D := G.1) (ci := 12) (v := .int x_isWrong) (C := RX12) (T := TX12) (N := 22) hx hb hts hin12 hown hK hP 0 rfl rfl 7 (by decide) lk_62 (fun _ h9 => h9) rfl dX12_some_5 ?_
      refine lv_if_ne (tgt := 43) hx hb dX12_some_8 (by decide) (fun c3 => ?_) (fun c3 => ?_)
      · rw [if_neg c3] at hF
        injection hF with hz
        injection hz with hq0 hz
        injection hz with hq1 hz
        injection hz with hq2 hz
        subst hq0
        subst hq1
        subst hq2
        subst hz
        exact cm_retv hx hb hr hlk hK hP hD hS dX12_some_43
      rw [if_pos c3] at hF
      refine lv_aload_n hx hb dX12_some_11 rfl (lv_at hl 0 rfl) ?_
      obtain ⟨r4, hc5, hF⟩ := bd_some hF
      have hPc := hP.sub (ws' := [o12 h x_thrown a_s a_image x_hasImage x_act x_spot x_end x_isWrong x_open a_by a_truths x_turn x_lean x_last x_angle x_asLay x_ticks a_bodies x_ran x_kind x_number x_tellsV, aI G a_s 1394 f_s]) [0, 1] rfl
      have hDc := hD.sub (ws' := [o12 h x_thrown a_s a_image x_hasImage x_act x_spot x_end x_isWrong x_open a_by a_truths x_turn x_lean x_last x_angle x_asLay x_ticks a_bodies x_ran x_kind x_number x_tellsV, aI G a_s 1394 f_s]) [0, 1] (by decide) rfl
      have hFc := va_free (wc := [o12 h x_thrown a_s a_image x_hasImage x_act x_spot x_end x_isWrong x_open a_by a_truths x_turn x_lean x_last x_angle x_asLay x_ticks a_bodies x_ran x_kind x_number x_tellsV, aI G a_s 1394 f_s]) hD hS hA [0, 1] rfl
      have hM := c_X12_here l G h a_s a_image a_by a_truths a_bodies x_thrown x_hasImage x_act x_spot x_end x_isWrong x_open x_turn x_lean x_last x_angle x_asLay x_ticks x_ran x_kind x_number x_tellsV f_s r4 hc5 H.size
      refine cl_i (w1 := [o12 h x_thrown a_s a_image x_hasImage x_act x_spot x_end x_isWrong x_open a_by a_truths x_turn x_lean x_last x_angle x_asLay x_ticks a_bodies x_ran x_kind x_number x_tellsV, aI G a_s 1394 f_s]) (ws' := [o12 h x_thrown a_s a_image x_hasImage x_act x_spot x_end x_isWrong x_open a_by a_truths x_turn x_lean x_last x_angle x_asLay x_ticks a_bodies x_ran x_kind x_number x_tellsV, aI G a_s 1394 f_s]) hP hD hS hFc [0, 1] rfl rfl rfl (va_runV (As := []) (rest := []) ⟨hx, hb, hml, hown, hts⟩ hM (cwV 0 hts gX12_some_X12_here rfl rfl rfl (by decide +kernel) ⟨(by show 0 + 1 ≤ 10 + (d + 1); omega), (by show 8 + (1 + 11) + 0 ≤ 300 + 60 * (d + 1); omega)⟩) (cp_V hK hE hS hPc hDc hFc (va_recv hK hPc (ci := 12) (q0 := 0) rfl rfl)) rfl rfl hl.1 rfl (lv_room (Nat.le_of_ble_eq_true rfl)) dX12_some_12 ⟨Nat.zero_le _, Nat.zero_le _⟩) (fun H locs hP hD hS => ?_)
      refine lv_bipush (v := 124) hx hb dX12_some_15 (by decide) ?_
      refine lv_icmp_ne (tgt := 43) hx hb dX12_some_17 (by decide) (fun c6 => ?_) (fun c6 => ?_)
      · rw [if_neg c6] at hF
        injection hF with hz
        injection hz with hq0 hz
        injection hz with hq1 hz
        injection hz with hq2 hz
        subst hq0
        subst hq1
        subst hq2
        subst hz
        exact cm_retv hx hb hr hlk hK hP hD hS dX12_some_43
      rw [if_pos c6] at hF
      refine lv_aload_n hx hb dX12_some_20 rfl (lv_at hl 0 rfl) ?_
      refine lv_dup hx hb dX12_some_21 rfl ?_
      refine va_get (D := G.1) (ci := 12) (v := .int x_spot) (C := RX12) (T := TX12) (N := 22) hx hb hts hin12 hown hK hP 0 rfl rfl 5 (by decide) lk_56 (fun _ h9 => h9) rfl dX12_some_22 ?_
      refine lv_iconst (v := 1) hx hb dX12_some_25 (by decide) ?_
      refine lv_iadd hx hb dX12_some_26 ?_
      refine va_put (D := G.1) (ci := 12) (v := .int (x_spot + 1)) (ty := .int) (C := RX12) (T := TX12) (N := 22) hx hb hts hin12 tyX12 tyX12_ok nmX12 hown hK hP hD hS 0 rfl rfl 5 (by decide) lk_56 (fun _ h9 => h9) rfl (tyX12_ok 5 (by decide)) rfl rfl (Nat.le_of_ble_eq_true rfl) dX12_some_27 (fun H locs hP hD hS => ?_)
      have hP : va_P G.1 vwCl [o12 h x_thrown a_s a_image x_hasImage x_act (x_spot + 1) x_end x_isWrong x_open a_by a_truths x_turn x_lean x_last x_angle x_asLay x_ticks a_bodies x_ran x_kind x_number x_tellsV, aI G a_s 1394 f_s] H := hP
      have hD : va_D A [o12 h x_thrown a_s a_image x_hasImage x_act (x_spot + 1) x_end x_isWrong x_open a_by a_truths x_turn x_lean x_last x_angle x_asLay x_ticks a_bodies x_ran x_kind x_number x_tellsV, aI G a_s 1394 f_s] := hD
      refine W.eq (g2 := F0 m 30 ls []) rfl ?_
      refine lv_aload_n hx hb dX12_some_30 rfl (lv_at hl 0 rfl) ?_
      obtain ⟨r7, hc8, hF⟩ := bd_some hF
      have hPc := hP.sub (ws' := [o12 h x_thrown a_s a_image x_hasImage x_act (x_spot + 1) x_end x_isWrong x_open a_by a_truths x_turn x_lean x_last x_angle x_asLay x_ticks a_bodies x_ran x_kind x_number x_tellsV, aI G a_s 1394 f_s]) [0, 1] rfl
      have hDc := hD.sub (ws' := [o12 h x_thrown a_s a_image x_hasImage x_act (x_spot + 1) x_end x_isWrong x_open a_by a_truths x_turn x_lean x_last x_angle x_asLay x_ticks a_bodies x_ran x_kind x_number x_tellsV, aI G a_s 1394 f_s]) [0, 1] (by decide) rfl
      have hFc := va_free (wc := [o12 h x_thrown a_s a_image x_hasImage x_act (x_spot + 1) x_end x_isWrong x_open a_by a_truths x_turn x_lean x_last x_angle x_asLay x_ticks a_bodies x_ran x_kind x_number x_tellsV, aI G a_s 1394 f_s]) hD hS hA [0, 1] rfl
      have hM := hg_X12_every h a_s a_image a_by a_truths a_bodies x_thrown x_hasImage x_act (x_spot + 1) x_end x_isWrong x_open x_turn x_lean x_last x_angle x_asLay x_ticks x_ran x_kind x_number x_tellsV f_s r7.1 r7.2.1 r7.2.2.1 r7.2.2.2 hc8 H.size
      refine cl_v (w1 := [o12 h x_thrown a_s a_image x_hasImage x_act r7.1 x_end r7.2.1 r7.2.2.1 a_by a_truths x_turn x_lean x_last x_angle x_asLay x_ticks a_bodies x_ran x_kind x_number x_tellsV, aI G a_s 1394 r7.2.2.2]) (ws' := [o12 h x_thrown a_s a_image x_hasImage x_act r7.1 x_end r7.2.1 r7.2.2.1 a_by a_truths x_turn x_lean x_last x_angle x_asLay x_ticks a_bodies x_ran x_kind x_number x_tellsV, aI G a_s 1394 r7.2.2.2]) hP hD hS hFc [0, 1] rfl rfl rfl (va_runV (As := []) (rest := []) ⟨hx, hb, hml, hown, hts⟩ hM (cwV 0 hts gX12_some_X12_every rfl rfl rfl (by decide +kernel) ⟨(by show (10 + d) + 1 ≤ 10 + (d + 1); omega), (by show 8 + (1 + 11) + (300 + 60 * d) ≤ 300 + 60 * (d + 1); omega)⟩) (cp_V hK hE hS hPc hDc hFc (va_recv hK hPc (ci := 12) (q0 := 0) rfl rfl)) rfl rfl hl.1 rfl (lv_room (Nat.le_of_ble_eq_true rfl)) dX12_some_31 ⟨Nat.zero_le _, Nat.zero_le _⟩) (fun H locs hP hD hS => ?_)
      refine lv_aload_n hx hb dX12_some_34 rfl (lv_at hl 0 rfl) ?_
      refine lv_bipush (v := (-3)) hx hb dX12_some_35 (by decide) ?_
      obtain ⟨r9, hc10, hF⟩ := bd_some hF
      have hPc := hP.sub (ws' := [o12 h x_thrown a_s a_image x_hasImage x_act r7.1 x_end r7.2.1 r7.2.2.1 a_by a_truths x_turn x_lean x_last x_angle x_asLay x_ticks a_bodies x_ran x_kind x_number x_tellsV, aI G a_s 1394 r7.2.2.2]) [0, 1] rfl
      have hDc := hD.sub (ws' := [o12 h x_thrown a_s a_image x_hasImage x_act r7.1 x_end r7.2.1 r7.2.2.1 a_by a_truths x_turn x_lean x_last x_angle x_asLay x_ticks a_bodies x_ran x_kind x_number x_tellsV, aI G a_s 1394 r7.2.2.2]) [0, 1] (by decide) rfl
      have hFc := va_free (wc := [o12 h x_thrown a_s a_image x_hasImage x_act r7.1 x_end r7.2.1 r7.2.2.1 a_by a_truths x_turn x_lean x_last x_angle x_asLay x_ticks a_bodies x_ran x_kind x_number x_tellsV, aI G a_s 1394 r7.2.2.2]) hD hS hA [0, 1] rfl
      have hM := c_X12_emits l G h a_s a_image a_by a_truths a_bodies x_thrown x_hasImage x_act r7.1 x_end r7.2.1 r7.2.2.1 x_turn x_lean x_last x_angle x_asLay x_ticks x_ran x_kind x_number x_tellsV r7.2.2.2 ((-3) : Int32) r9 hc10 H.size
      refine cl_v (w1 := [o12 h x_thrown a_s a_image x_hasImage x_act r7.1 x_end r7.2.1 r7.2.2.1 a_by a_truths x_turn x_lean x_last x_angle x_asLay x_ticks a_bodies x_ran x_kind x_number x_tellsV, aI G a_s 1394 r9]) (ws' := [o12 h x_thrown a_s a_image x_hasImage x_act r7.1 x_end r7.2.1 r7.2.2.1 a_by a_truths x_turn x_lean x_last x_angle x_asLay x_ticks a_bodies x_ran x_kind x_number x_tellsV, aI G a_s 1394 r9]) hP hD hS hFc [0, 1] rfl rfl rfl (va_runV (As := [.int (-3)]) (rest := []) ⟨hx, hb, hml, hown, hts⟩ hM (cwV 1 hts gX12_some_X12_emits rfl rfl rfl (by decide +kernel) ⟨(by show 0 + 1 ≤ 10 + (d + 1); omega), (by show 8 + (2 + 11) + 0 ≤ 300 + 60 * (d + 1); omega)⟩) (cp_V hK hE hS hPc hDc hFc (va_recv hK hPc (ci := 12) (q0 := 0) rfl rfl)) rfl rfl hl.1 rfl (lv_room (Nat.le_of_ble_eq_true rfl)) dX12_some_37 ⟨Nat.zero_le _, Nat.zero_le _⟩) (fun H locs hP hD hS => ?_)
      refine lv_goto (tgt := 4) hx hb dX12_some_40 (by decide) ?_
      exact ih _ _ _ _ H locs ls hP hD hS (lv_sub hl [0] rfl) hF
  intro hF
  unfold fX12_some at hF
  refine lv_aload_n hx hb dX12_some_0 rfl (lv_at hl 0 rfl) ?_
  obtain ⟨r1, hc2, hF⟩ := bd_some hF
  have hPc := hP.sub (ws' := [o12 h x_thrown a_s a_image x_hasImage x_act x_spot x_end x_isWrong x_open a_by a_truths x_turn x_lean x_last x_angle x_asLay x_ticks a_bodies x_ran x_kind x_number x_tellsV, aI G a_s 1394 f_s]) [0, 1] rfl
  have hDc := hD.sub (ws' := [o12 h x_thrown a_s a_image x_hasImage x_act x_spot x_end x_isWrong x_open a_by a_truths x_turn x_lean x_last x_angle x_asLay x_ticks a_bodies x_ran x_kind x_number x_tellsV, aI G a_s 1394 f_s]) [0, 1] (by decide) rfl
  have hFc := va_free (wc := [o12 h x_thrown a_s a_image x_hasImage x_act x_spot x_end x_isWrong x_open a_by a_truths x_turn x_lean x_last x_angle x_asLay x_ticks a_bodies x_ran x_kind x_number x_tellsV, aI G a_s 1394 f_s]) hD hS hA [0, 1] rfl
  have hM := hg_X12_every h a_s a_image a_by a_truths a_bodies x_thrown x_hasImage x_act x_spot x_end x_isWrong x_open x_turn x_lean x_last x_angle x_asLay x_ticks x_ran x_kind x_number x_tellsV f_s r1.1 r1.2.1 r1.2.2.1 r1.2.2.2 hc2 H.size
  refine cl_v (w1 := [o12 h x_thrown a_s a_image x_hasImage x_act r1.1 x_end r1.2.1 r1.2.2.1 a_by a_truths x_turn x_lean x_last x_angle x_asLay x_ticks a_bodies x_ran x_kind x_number x_tellsV, aI G a_s 1394 r1.2.2.2]) (ws' := [o12 h x_thrown a_s a_image x_hasImage x_act r1.1 x_end r1.2.1 r1.2.2.1 a_by a_truths x_turn x_lean x_last x_angle x_asLay x_ticks a_bodies x_ran x_kind x_number x_tellsV, aI G a_s 1394 r1.2.2.2]) hP hD hS hFc [0, 1] rfl rfl rfl (va_runV (As := []) (rest := []) ⟨hx, hb, hml, hown, hts⟩ hM (cwV 0 hts gX12_some_X12_every rfl rfl rfl (by decide +kernel) ⟨(by show (10 + d) + 1 ≤ 10 + (d + 1); omega), (by show 8 + (1 + 11) + (300 + 60 * d) ≤ 300 + 60 * (d + 1); omega)⟩) (cp_V hK hE hS hPc hDc hFc (va_recv hK hPc (ci := 12) (q0 := 0) rfl rfl)) rfl rfl hl.1 rfl (lv_room (Nat.le_of_ble_eq_true rfl)) dX12_some_1 ⟨Nat.zero_le _, Nat.zero_le _⟩) (fun H locs hP hD hS => ?_)
  refine LP4 _ _ _ _ _ H locs ls hP hD hS (lv_sub hl [0] rfl) hF

theorem tM_z (k : Nat) (x_act : Int32) (x_spot : Int32) (x_end : Int32) (x_isWrong : Int32) (x_open : Int32) (f_s : Nat → Int32) : tM 0 k x_act x_spot x_end x_isWrong x_open f_s = none := rfl
theorem tM_0 (n : Nat) (x_act : Int32) (x_spot : Int32) (x_end : Int32) (x_isWrong : Int32) (x_open : Int32) (f_s : Nat → Int32) : tM (n + 1) 0 x_act x_spot x_end x_isWrong x_open f_s = fX12_factor (tM n 0) (tM n 1) (tM n 2) x_act x_spot x_end x_isWrong x_open f_s := rfl
theorem tM_1 (n : Nat) (x_act : Int32) (x_spot : Int32) (x_end : Int32) (x_isWrong : Int32) (x_open : Int32) (f_s : Nat → Int32) : tM (n + 1) 1 x_act x_spot x_end x_isWrong x_open f_s = fX12_every (tM n 0) (tM n 1) (tM n 2) x_act x_spot x_end x_isWrong x_open f_s := rfl
theorem tM_2 (n : Nat) (x_act : Int32) (x_spot : Int32) (x_end : Int32) (x_isWrong : Int32) (x_open : Int32) (f_s : Nat → Int32) : tM (n + 1) 2 x_act x_spot x_end x_isWrong x_open f_s = fX12_some (tM n 0) (tM n 1) (tM n 2) x_act x_spot x_end x_isWrong x_open f_s := rfl
set_option maxHeartbeats 4000000 in
set_option maxRecDepth 100000 in
theorem c_tM (l : Launch) (G : GG) : ∀ d : Nat, (∀ (h a_s a_image a_by a_truths a_bodies : Nat) (x_thrown x_hasImage x_act x_spot x_end x_isWrong x_open x_turn x_lean x_last x_angle x_asLay x_ticks x_ran x_kind x_number x_tellsV : Int32) (f_s : Nat → Int32) (z_x_spot : Int32) (z_x_isWrong : Int32) (z_x_open : Int32) (z_f_s : Nat → Int32), tM d 0 x_act x_spot x_end x_isWrong x_open f_s = some (z_x_spot, z_x_isWrong, z_x_open, z_f_s) → CMv l yX12_factor wsX12_factor (rg_tM d) G [o12 h x_thrown a_s a_image x_hasImage x_act x_spot x_end x_isWrong x_open a_by a_truths x_turn x_lean x_last x_angle x_asLay x_ticks a_bodies x_ran x_kind x_number x_tellsV, aI G a_s 1394 f_s] [o12 h x_thrown a_s a_image x_hasImage x_act z_x_spot x_end z_x_isWrong z_x_open a_by a_truths x_turn x_lean x_last x_angle x_asLay x_ticks a_bodies x_ran x_kind x_number x_tellsV, aI G a_s 1394 z_f_s] [.ref h]) ∧ (∀ (h a_s a_image a_by a_truths a_bodies : Nat) (x_thrown x_hasImage x_act x_spot x_end x_isWrong x_open x_turn x_lean x_last x_angle x_asLay x_ticks x_ran x_kind x_number x_tellsV : Int32) (f_s : Nat → Int32) (z_x_spot : Int32) (z_x_isWrong : Int32) (z_x_open : Int32) (z_f_s : Nat → Int32), tM d 1 x_act x_spot x_end x_isWrong x_open f_s = some (z_x_spot, z_x_isWrong, z_x_open, z_f_s) → CMv l yX12_every wsX12_every (rg_tM d) G [o12 h x_thrown a_s a_image x_hasImage x_act x_spot x_end x_isWrong x_open a_by a_truths x_turn x_lean x_last x_angle x_asLay x_ticks a_bodies x_ran x_kind x_number x_tellsV, aI G a_s 1394 f_s] [o12 h x_thrown a_s a_image x_hasImage x_act z_x_spot x_end z_x_isWrong z_x_open a_by a_truths x_turn x_lean x_last x_angle x_asLay x_ticks a_bodies x_ran x_kind x_number x_tellsV, aI G a_s 1394 z_f_s] [.ref h]) ∧ (∀ (h a_s a_image a_by a_truths a_bodies : Nat) (x_thrown x_hasImage x_act x_spot x_end x_isWrong x_open x_turn x_lean x_last x_angle x_asLay x_ticks x_ran x_kind x_number x_tellsV : Int32) (f_s : Nat → Int32) (z_x_spot : Int32) (z_x_isWrong : Int32) (z_x_open : Int32) (z_f_s : Nat → Int32), tM d 2 x_act x_spot x_end x_isWrong x_open f_s = some (z_x_spot, z_x_isWrong, z_x_open, z_f_s) → CMv l yX12_some wsX12_some (rg_tM d) G [o12 h x_thrown a_s a_image x_hasImage x_act x_spot x_end x_isWrong x_open a_by a_truths x_turn x_lean x_last x_angle x_asLay x_ticks a_bodies x_ran x_kind x_number x_tellsV, aI G a_s 1394 f_s] [o12 h x_thrown a_s a_image x_hasImage x_act z_x_spot x_end z_x_isWrong z_x_open a_by a_truths x_turn x_lean x_last x_angle x_asLay x_ticks a_bodies x_ran x_kind x_number x_tellsV, aI G a_s 1394 z_f_s] [.ref h]) := by
  intro d
  induction d with
  | zero =>
    refine ⟨?_, ?_, ?_⟩
    · intro a0 a1 a2 a3 a4 a5 a6 a7 a8 a9 a10 a11 a12 a13 a14 a15 a16 a17 a18 a19 a20 a21 a22 a23 a24 a25 a26 a27 hF
      rw [tM_z] at hF
      cases hF
    · intro a0 a1 a2 a3 a4 a5 a6 a7 a8 a9 a10 a11 a12 a13 a14 a15 a16 a17 a18 a19 a20 a21 a22 a23 a24 a25 a26 a27 hF
      rw [tM_z] at hF
      cases hF
    · intro a0 a1 a2 a3 a4 a5 a6 a7 a8 a9 a10 a11 a12 a13 a14 a15 a16 a17 a18 a19 a20 a21 a22 a23 a24 a25 a26 a27 hF
      rw [tM_z] at hF
      cases hF
  | succ d ih =>
    obtain ⟨i0, i1, i2⟩ := ih
    refine ⟨?_, ?_, ?_⟩
    · intro a0 a1 a2 a3 a4 a5 a6 a7 a8 a9 a10 a11 a12 a13 a14 a15 a16 a17 a18 a19 a20 a21 a22 a23 a24 a25 a26 a27 hF
      rw [tM_0] at hF
      exact c_X12_factor l G d (tM d 0) i0 (tM d 1) i1 (tM d 2) i2 a0 a1 a2 a3 a4 a5 a6 a7 a8 a9 a10 a11 a12 a13 a14 a15 a16 a17 a18 a19 a20 a21 a22 a23 a24 a25 a26 a27 hF
    · intro a0 a1 a2 a3 a4 a5 a6 a7 a8 a9 a10 a11 a12 a13 a14 a15 a16 a17 a18 a19 a20 a21 a22 a23 a24 a25 a26 a27 hF
      rw [tM_1] at hF
      exact c_X12_every l G d (tM d 0) i0 (tM d 1) i1 (tM d 2) i2 a0 a1 a2 a3 a4 a5 a6 a7 a8 a9 a10 a11 a12 a13 a14 a15 a16 a17 a18 a19 a20 a21 a22 a23 a24 a25 a26 a27 hF
    · intro a0 a1 a2 a3 a4 a5 a6 a7 a8 a9 a10 a11 a12 a13 a14 a15 a16 a17 a18 a19 a20 a21 a22 a23 a24 a25 a26 a27 hF
      rw [tM_2] at hF
      exact c_X12_some l G d (tM d 0) i0 (tM d 1) i1 (tM d 2) i2 a0 a1 a2 a3 a4 a5 a6 a7 a8 a9 a10 a11 a12 a13 a14 a15 a16 a17 a18 a19 a20 a21 a22 a23 a24 a25 a26 a27 hF
