/-! HeadsByHairModel.row(I)I -/
abbrev rm_X12_row : Room := { frames := 1, cells := 0, slots := 0, locals := 22 }
set_option maxHeartbeats 4000000 in
set_option maxRecDepth 100000 in
theorem c_X12_row (l : Launch) (G : GG) (h a_s a_image a_by a_truths a_bodies : Nat) (x_thrown x_hasImage x_act x_spot x_end x_isWrong x_open x_turn x_lean x_last x_angle x_asLay x_ticks x_ran x_kind x_number x_tellsV : Int32) (f_s : Nat → Int32) (l1 : Int32) (z : Int32) (z_f_s : Nat → Int32) (hF : fX12_row f_s l1 = some (z, z_f_s)) : CMi l yX12_row wsX12_row rm_X12_row G [o12 h x_thrown a_s a_image x_hasImage x_act x_spot x_end x_isWrong x_open a_by a_truths x_turn x_lean x_last x_angle x_asLay x_ticks a_bodies x_ran x_kind x_number x_tellsV, aI G a_s 1394 f_s] [o12 h x_thrown a_s a_image x_hasImage x_act x_spot x_end x_isWrong x_open a_by a_truths x_turn x_lean x_last x_angle x_asLay x_ticks a_bodies x_ran x_kind x_number x_tellsV, aI G a_s 1394 z_f_s] [.ref h, .int l1] z := by
  refine cm_start (cc := cX12_row) (maxL := 2) (ret := (some .int)) (Qc := fun A => QI G [o12 h x_thrown a_s a_image x_hasImage x_act x_spot x_end x_isWrong x_open a_by a_truths x_turn x_lean x_last x_angle x_asLay x_ticks a_bodies x_ran x_kind x_number x_tellsV, aI G a_s 1394 z_f_s] z A) (by decide +kernel) rfl (Nat.le_of_ble_eq_true rfl) ?_
  intro p e s m args below meth c A hx hb hr hlk hml hown hnm hts hA H locs hP hK hD hE hS ls hl
  have hown : s.vm.findClass RX12 = some m.cls := hown
  have hl : lv_has ls 2 [(0, .ref h), (1, .int l1)] := hl
  have hin12 : ∀ w ∈ wsX120, w ∈ wsX12_row := by decide +kernel
  have lk_9 := hts (.fieldLink RX12 9 "HeadsByHairModel" "s" "[I") (by decide +kernel)
  revert hF
  intro hF
  unfold fX12_row at hF
  refine lv_iload_n hx hb dX12_row_0 rfl (lv_at hl 1 rfl) ?_
  refine lv_iconst (v := (-1)) hx hb dX12_row_1 (by decide) ?_
  refine lv_icmp_ne (tgt := 14) hx hb dX12_row_2 (by decide) (fun c1 => ?_) (fun c1 => ?_)
  · rw [if_neg c1] at hF
    refine lv_iload_n hx hb dX12_row_14 rfl (lv_at hl 1 rfl) ?_
    refine lv_iconst (v := 0) hx hb dX12_row_15 (by decide) ?_
    refine lv_iconst (v := 1) hx hb dX12_row_16 (by decide) ?_
    obtain ⟨r2, hc3, hF⟩ := bd_some hF
    have hPc := hP.sub (ws' := []) [] rfl
    have hDc := hD.sub (ws' := []) [] (by decide) rfl
    have hFc := va_free (wc := []) hD hS hA [] rfl
    have hM := c_X12_in l G l1 (0 : Int32) (1 : Int32) r2 hc3 H.size
    refine cl_i (w1 := []) (ws' := [o12 h x_thrown a_s a_image x_hasImage x_act x_spot x_end x_isWrong x_open a_by a_truths x_turn x_lean x_last x_angle x_asLay x_ticks a_bodies x_ran x_kind x_number x_tellsV, aI G a_s 1394 f_s]) hP hD hS hFc [] rfl rfl rfl (va_runS (As := [.int l1, .int 0, .int 1]) (rest := []) ⟨hx, hb, hml, hown, hts⟩ hM (va_cwS 3 hts gX12_row_X12_in rfl rfl rfl (by decide +kernel) ⟨Nat.le_of_ble_eq_true rfl, Nat.le_of_ble_eq_true rfl⟩) (cp_S hK hE hS hPc hDc hFc) rfl rfl hl.1 rfl (lv_room (Nat.le_of_ble_eq_true rfl)) dX12_row_17 ⟨Nat.zero_le _, Nat.zero_le _⟩) (fun H locs hP hD hS => ?_)
    refine lv_if_ne (tgt := 26) hx hb dX12_row_20 (by decide) (fun c4 => ?_) (fun c4 => ?_)
    · rw [if_neg c4] at hF
      refine lv_aload_n hx hb dX12_row_26 rfl (lv_at hl 0 rfl) ?_
      refine va_get (D := G.1) (ci := 12) (v := .ref a_s) (C := RX12) (T := TX12) (N := 22) hx hb hts hin12 hown hK hP 0 rfl rfl 1 (by decide) lk_9 (fun _ h9 => h9) rfl dX12_row_27 ?_
      refine lv_iconst (v := 3) hx hb dX12_row_30 (by decide) ?_
      refine va_iald (D := G.1) hx hb hK hP 1 0 rfl rfl (by unfold vp_in; decide) dX12_row_31 ?_
      refine lv_eqi (y := f_s 3) rfl ?_
      refine lv_bipush (v := 16) hx hb dX12_row_32 (by decide) ?_
      refine W.eq (g2 := F0 m 34 ls [.int 16, .int (f_s 3)]) rfl ?_
      refine lv_icmp_ne (tgt := 40) hx hb dX12_row_34 (by decide) (fun c5 => ?_) (fun c5 => ?_)
      · rw [if_neg c5] at hF
        refine lv_aload_n hx hb dX12_row_40 rfl (lv_at hl 0 rfl) ?_
        refine va_get (D := G.1) (ci := 12) (v := .ref a_s) (C := RX12) (T := TX12) (N := 22) hx hb hts hin12 hown hK hP 0 rfl rfl 1 (by decide) lk_9 (fun _ h9 => h9) rfl dX12_row_41 ?_
        refine lv_sipush (v := 1378) hx hb dX12_row_44 (by decide) ?_
        refine lv_aload_n hx hb dX12_row_47 rfl (lv_at hl 0 rfl) ?_
        refine va_get (D := G.1) (ci := 12) (v := .ref a_s) (C := RX12) (T := TX12) (N := 22) hx hb hts hin12 hown hK hP 0 rfl rfl 1 (by decide) lk_9 (fun _ h9 => h9) rfl dX12_row_48 ?_
        refine lv_iconst (v := 3) hx hb dX12_row_51 (by decide) ?_
        refine va_iald (D := G.1) hx hb hK hP 1 0 rfl rfl (by unfold vp_in; decide) dX12_row_52 ?_
        refine lv_eqi (y := f_s 3) rfl ?_
        refine lv_iadd hx hb dX12_row_53 ?_
        refine lv_iload_n hx hb dX12_row_54 rfl (lv_at hl 1 rfl) ?_
        obtain ⟨hi6, hF⟩ := ck_some hF
        refine va_iast (D := G.1) hx hb hK hP hD hS 1 0 rfl rfl hi6 dX12_row_55 (fun H locs hP hD hS => ?_)
        have hP : va_P G.1 vwCl [o12 h x_thrown a_s a_image x_hasImage x_act x_spot x_end x_isWrong x_open a_by a_truths x_turn x_lean x_last x_angle x_asLay x_ticks a_bodies x_ran x_kind x_number x_tellsV, aI G a_s 1394 (upd f_s (1378 + (f_s 3)).toNatClampNeg l1)] H := hP
        have hD : va_D A [o12 h x_thrown a_s a_image x_hasImage x_act x_spot x_end x_isWrong x_open a_by a_truths x_turn x_lean x_last x_angle x_asLay x_ticks a_bodies x_ran x_kind x_number x_tellsV, aI G a_s 1394 (upd f_s (1378 + (f_s 3)).toNatClampNeg l1)] := hD
        refine lv_aload_n hx hb dX12_row_56 rfl (lv_at hl 0 rfl) ?_
        refine va_get (D := G.1) (ci := 12) (v := .ref a_s) (C := RX12) (T := TX12) (N := 22) hx hb hts hin12 hown hK hP 0 rfl rfl 1 (by decide) lk_9 (fun _ h9 => h9) rfl dX12_row_57 ?_
        refine lv_iconst (v := 3) hx hb dX12_row_60 (by decide) ?_
        refine W.eq (g2 := F0 m 61 ls [.int 3, .ref a_s]) rfl ?_
        refine lv_dup2_11 hx hb dX12_row_61 rfl rfl ?_
        refine va_iald (D := G.1) hx hb hK hP 1 0 rfl rfl (by unfold vp_in; decide) dX12_row_62 ?_
        refine lv_eqi (y := (upd f_s (1378 + (f_s 3)).toNatClampNeg l1) 3) rfl ?_
        refine lv_iconst (v := 1) hx hb dX12_row_63 (by decide) ?_
        refine lv_iadd hx hb dX12_row_64 ?_
        refine va_iast (D := G.1) hx hb hK hP hD hS 1 0 rfl rfl (by unfold vp_in; decide) dX12_row_65 (fun H locs hP hD hS => ?_)
        have hP : va_P G.1 vwCl [o12 h x_thrown a_s a_image x_hasImage x_act x_spot x_end x_isWrong x_open a_by a_truths x_turn x_lean x_last x_angle x_asLay x_ticks a_bodies x_ran x_kind x_number x_tellsV, aI G a_s 1394 (upd (upd f_s (1378 + (f_s 3)).toNatClampNeg l1) 3 (((upd f_s (1378 + (f_s 3)).toNatClampNeg l1) 3) + 1))] H := hP
        have hD : va_D A [o12 h x_thrown a_s a_image x_hasImage x_act x_spot x_end x_isWrong x_open a_by a_truths x_turn x_lean x_last x_angle x_asLay x_ticks a_bodies x_ran x_kind x_number x_tellsV, aI G a_s 1394 (upd (upd f_s (1378 + (f_s 3)).toNatClampNeg l1) 3 (((upd f_s (1378 + (f_s 3)).toNatClampNeg l1) 3) + 1))] := hD
        refine lv_aload_n hx hb dX12_row_66 rfl (lv_at hl 0 rfl) ?_
        refine va_get (D := G.1) (ci := 12) (v := .ref a_s) (C := RX12) (T := TX12) (N := 22) hx hb hts hin12 hown hK hP 0 rfl rfl 1 (by decide) lk_9 (fun _ h9 => h9) rfl dX12_row_67 ?_
        refine lv_iconst (v := 3) hx hb dX12_row_70 (by decide) ?_
        refine va_iald (D := G.1) hx hb hK hP 1 0 rfl rfl (by unfold vp_in; decide) dX12_row_71 ?_
        refine lv_eqi (y := (upd (upd f_s (1378 + (f_s 3)).toNatClampNeg l1) 3 (((upd f_s (1378 + (f_s 3)).toNatClampNeg l1) 3) + 1)) 3) rfl ?_
        injection hF with hz
        injection hz with hq0 hz
        subst hq0
        subst hz
        exact cm_reti hx hb hr rfl hlk hK hP hD hS dX12_row_72
      rw [if_pos c5] at hF
      refine lv_bipush (v := (-4)) hx hb dX12_row_37 (by decide) ?_
      injection hF with hz
      injection hz with hq0 hz
      subst hq0
      subst hz
      exact cm_reti hx hb hr rfl hlk hK hP hD hS dX12_row_39
    rw [if_pos c4] at hF
    refine lv_bipush (v := (-2)) hx hb dX12_row_23 (by decide) ?_
    injection hF with hz
    injection hz with hq0 hz
    subst hq0
    subst hz
    exact cm_reti hx hb hr rfl hlk hK hP hD hS dX12_row_25
  rw [if_pos c1] at hF
  refine lv_aload_n hx hb dX12_row_5 rfl (lv_at hl 0 rfl) ?_
  refine va_get (D := G.1) (ci := 12) (v := .ref a_s) (C := RX12) (T := TX12) (N := 22) hx hb hts hin12 hown hK hP 0 rfl rfl 1 (by decide) lk_9 (fun _ h9 => h9) rfl dX12_row_6 ?_
  refine lv_iconst (v := 3) hx hb dX12_row_9 (by decide) ?_
  refine lv_iconst (v := 0) hx hb dX12_row_10 (by decide) ?_
  refine va_iast (D := G.1) hx hb hK hP hD hS 1 0 rfl rfl (by unfold vp_in; decide) dX12_row_11 (fun H locs hP hD hS => ?_)
  have hP : va_P G.1 vwCl [o12 h x_thrown a_s a_image x_hasImage x_act x_spot x_end x_isWrong x_open a_by a_truths x_turn x_lean x_last x_angle x_asLay x_ticks a_bodies x_ran x_kind x_number x_tellsV, aI G a_s 1394 (upd f_s 3 0)] H := hP
  have hD : va_D A [o12 h x_thrown a_s a_image x_hasImage x_act x_spot x_end x_isWrong x_open a_by a_truths x_turn x_lean x_last x_angle x_asLay x_ticks a_bodies x_ran x_kind x_number x_tellsV, aI G a_s 1394 (upd f_s 3 0)] := hD
  refine lv_iconst (v := 0) hx hb dX12_row_12 (by decide) ?_
  injection hF with hz
  injection hz with hq0 hz
  subst hq0
  subst hz
  exact cm_reti hx hb hr rfl hlk hK hP hD hS dX12_row_13

/-! HeadsByHairModel.runs(I)I -/
abbrev rm_X12_runs : Room := { frames := 1, cells := 0, slots := 0, locals := 22 }
set_option maxHeartbeats 4000000 in
set_option maxRecDepth 100000 in
theorem c_X12_runs (l : Launch) (G : GG) (h a_s a_image a_by a_truths a_bodies : Nat) (x_thrown x_hasImage x_act x_spot x_end x_isWrong x_open x_turn x_lean x_last x_angle x_asLay x_ticks x_ran x_kind x_number x_tellsV : Int32) (f_s : Nat → Int32) (l1 : Int32) (z : Int32) (hF : fX12_runs f_s l1 = some (z)) : CMi l yX12_runs wsX12_runs rm_X12_runs G [o12 h x_thrown a_s a_image x_hasImage x_act x_spot x_end x_isWrong x_open a_by a_truths x_turn x_lean x_last x_angle x_asLay x_ticks a_bodies x_ran x_kind x_number x_tellsV, aI G a_s 1394 f_s] [o12 h x_thrown a_s a_image x_hasImage x_act x_spot x_end x_isWrong x_open a_by a_truths x_turn x_lean x_last x_angle x_asLay x_ticks a_bodies x_ran x_kind x_number x_tellsV, aI G a_s 1394 f_s] [.ref h, .int l1] z := by
  refine cm_start (cc := cX12_runs) (maxL := 7) (ret := (some .int)) (Qc := fun A => QI G [o12 h x_thrown a_s a_image x_hasImage x_act x_spot x_end x_isWrong x_open a_by a_truths x_turn x_lean x_last x_angle x_asLay x_ticks a_bodies x_ran x_kind x_number x_tellsV, aI G a_s 1394 f_s] z A) (by decide +kernel) rfl (Nat.le_of_ble_eq_true rfl) ?_
  intro p e s m args below meth c A hx hb hr hlk hml hown hnm hts hA H locs hP hK hD hE hS ls hl
  have hown : s.vm.findClass RX12 = some m.cls := hown
  have hl : lv_has ls 7 [(0, .ref h), (1, .int l1)] := hl
  have hin12 : ∀ w ∈ wsX120, w ∈ wsX12_runs := by decide +kernel
  have lk_9 := hts (.fieldLink RX12 9 "HeadsByHairModel" "s" "[I") (by decide +kernel)
  revert hF
  have LP21 : ∀ (l1 : Int32) (k117 : Int32 → Int32 → Option (Int32)) (hk117 : ∀ (l2 : Int32) (l4 : Int32) (H : Heap) (locs : List Loc) (ls : Array Slot), va_P G.1 vwCl [o12 h x_thrown a_s a_image x_hasImage x_act x_spot x_end x_isWrong x_open a_by a_truths x_turn x_lean x_last x_angle x_asLay x_ticks a_bodies x_ran x_kind x_number x_tellsV, aI G a_s 1394 f_s] H → va_D A [o12 h x_thrown a_s a_image x_hasImage x_act x_spot x_end x_isWrong x_open a_by a_truths x_turn x_lean x_last x_angle x_asLay x_ticks a_bodies x_ran x_kind x_number x_tellsV, aI G a_s 1394 f_s] → va_S A s.heap H locs → lv_has ls 7 [(1, .int l1), (2, .int l2), (4, .int l4)] → k117 l2 l4 = some (z) → W p l e (rm_X12_runs) s m args below meth c H locs 0 0 (MQ below (QI G [o12 h x_thrown a_s a_image x_hasImage x_act x_spot x_end x_isWrong x_open a_by a_truths x_turn x_lean x_last x_angle x_asLay x_ticks a_bodies x_ran x_kind x_number x_tellsV, aI G a_s 1394 f_s] z A) args s 0 0 A) (F0 m 117 ls [])) (n : Nat) (l2 : Int32) (l3 : Int32) (l4 : Int32) (l5 : Int32) (H : Heap) (locs : List Loc) (ls : Array Slot), va_P G.1 vwCl [o12 h x_thrown a_s a_image x_hasImage x_act x_spot x_end x_isWrong x_open a_by a_truths x_turn x_lean x_last x_angle x_asLay x_ticks a_bodies x_ran x_kind x_number x_tellsV, aI G a_s 1394 f_s] H → va_D A [o12 h x_thrown a_s a_image x_hasImage x_act x_spot x_end x_isWrong x_open a_by a_truths x_turn x_lean x_last x_angle x_asLay x_ticks a_bodies x_ran x_kind x_number x_tellsV, aI G a_s 1394 f_s] → va_S A s.heap H locs → lv_has ls 7 [(0, .ref h), (1, .int l1), (2, .int l2), (3, .int l3), (4, .int l4), (5, .int l5)] → fX12_runs_L21 k117 f_s l1 n l2 l3 l4 l5 = some (z) → W p l e (rm_X12_runs) s m args below meth c H locs 0 0 (MQ below (QI G [o12 h x_thrown a_s a_image x_hasImage x_act x_spot x_end x_isWrong x_open a_by a_truths x_turn x_lean x_last x_angle x_asLay x_ticks a_bodies x_ran x_kind x_number x_tellsV, aI G a_s 1394 f_s] z A) args s 0 0 A) (F0 m 21 ls []) := by
    intro l1 k117 hk117 n
    induction n with
    | zero =>
      intro l2 l3 l4 l5 H locs ls hP hD hS hl hF
      cases hF
    | succ n ih =>
      have B96 : ∀ (l2 : Int32) (l4 : Int32) (l5 : Int32) (s0 : Int32) (H : Heap) (locs : List Loc) (ls : Array Slot), va_P G.1 vwCl [o12 h x_thrown a_s a_image x_hasImage x_act x_spot x_end x_isWrong x_open a_by a_truths x_turn x_lean x_last x_angle x_asLay x_ticks a_bodies x_ran x_kind x_number x_tellsV, aI G a_s 1394 f_s] H → va_D A [o12 h x_thrown a_s a_image x_hasImage x_act x_spot x_end x_isWrong x_open a_by a_truths x_turn x_lean x_last x_angle x_asLay x_ticks a_bodies x_ran x_kind x_number x_tellsV, aI G a_s 1394 f_s] → va_S A s.heap H locs → lv_has ls 7 [(0, .ref h), (1, .int l1), (2, .int l2), (4, .int l4), (5, .int l5)] → fX12_runs_b96 (fX12_runs_L21 k117 f_s l1 n) k117 f_s l1 l2 l4 l5 s0 = some (z) → W p l e (rm_X12_runs) s m args below meth c H locs 0 0 (MQ below (QI G [o12 h x_thrown a_s a_image x_hasImage x_act x_spot x_end x_isWrong x_open a_by a_truths x_turn x_lean x_last x_angle x_asLay x_ticks a_bodies x_ran x_kind x_number x_tellsV, aI G a_s 1394 f_s] z A) args s 0 0 A) (F0 m 96 ls [.int s0]) := by
        intro l2 l4 l5 s0 H locs ls hP hD hS hl hF
        unfold fX12_runs_b96 at hF
        refine lv_istore_n (lv' := [(3, .int s0), (0, .ref h), (1, .int l1), (2, .int l2), (4, .int l4), (5, .int l5)]) hx hb dX12_runs_96 rfl hl (by decide) rfl (fun ls hl => ?_)
        refine lv_iload_n hx hb dX12_runs_97 rfl (lv_at hl 0 rfl) ?_
        refine lv_iload hx hb dX12_runs_98 (lv_at hl 4 rfl) ?_
        refine lv_icmp_le (tgt := 107) hx hb dX12_runs_100 (by decide) (fun c8 => ?_) (fun c8 => ?_)
        · rw [if_pos c8] at hF
          refine lv_iload hx hb dX12_runs_107 (lv_at hl 4 rfl) ?_
          refine lv_istore (lv' := [(4, .int l4), (3, .int s0), (0, .ref h), (1, .int l1), (2, .int l2), (5, .int l5)]) hx hb dX12_runs_109 hl (by decide) rfl (fun ls hl => ?_)
          refine lv_iinc (v := l5 + 1) (lv' := [(5, .int (l5 + 1)), (4, .int l4), (3, .int s0), (0, .ref h), (1, .int l1), (2, .int l2)]) hx hb dX12_runs_111 hl (k := 5) rfl rfl (by decide) rfl (fun ls hl => ?_)
          refine lv_goto (tgt := 21) hx hb dX12_runs_114 (by decide) ?_
          exact ih _ _ _ _ H locs ls hP hD hS (lv_sub hl [3, 4, 5, 2, 1, 0] rfl) hF
        rw [if_neg c8] at hF
        refine lv_iload_n hx hb dX12_runs_103 rfl (lv_at hl 0 rfl) ?_
        refine lv_goto (tgt := 109) hx hb dX12_runs_104 (by decide) ?_
        refine lv_istore (lv' := [(4, .int s0), (3, .int s0), (0, .ref h), (1, .int l1), (2, .int l2), (5, .int l5)]) hx hb dX12_runs_109 hl (by decide) rfl (fun ls hl => ?_)
        refine lv_iinc (v := l5 + 1) (lv' := [(5, .int (l5 + 1)), (4, .int s0), (3, .int s0), (0, .ref h), (1, .int l1), (2, .int l2)]) hx hb dX12_runs_111 hl (k := 5) rfl rfl (by decide) rfl (fun ls hl => ?_)
        refine lv_goto (tgt := 21) hx hb dX12_runs_114 (by decide) ?_
        exact ih _ _ _ _ H locs ls hP hD hS (lv_sub hl [3, 4, 5, 2, 1, 0] rfl) hF
      have B82 : ∀ (l3 : Int32) (l4 : Int32) (l5 : Int32) (l6 : Int32) (s0 : Int32) (s1 : Int32) (H : Heap) (locs : List Loc) (ls : Array Slot), va_P G.1 vwCl [o12 h x_thrown a_s a_image x_hasImage x_act x_spot x_end x_isWrong x_open a_by a_truths x_turn x_lean x_last x_angle x_asLay x_ticks a_bodies x_ran x_kind x_number x_tellsV, aI G a_s 1394 f_s] H → va_D A [o12 h x_thrown a_s a_image x_hasImage x_act x_spot x_end x_isWrong x_open a_by a_truths x_turn x_lean x_last x_angle x_asLay x_ticks a_bodies x_ran x_kind x_number x_tellsV, aI G a_s 1394 f_s] → va_S A s.heap H locs → lv_has ls 7 [(0, .ref h), (1, .int l1), (3, .int l3), (4, .int l4), (5, .int l5), (6, .int l6)] → fX12_runs_b82 (fX12_runs_L21 k117 f_s l1 n) k117 f_s l1 l3 l4 l5 l6 s0 s1 = some (z) → W p l e (rm_X12_runs) s m args below meth c H locs 0 0 (MQ below (QI G [o12 h x_thrown a_s a_image x_hasImage x_act x_spot x_end x_isWrong x_open a_by a_truths x_turn x_lean x_last x_angle x_asLay x_ticks a_bodies x_ran x_kind x_number x_tellsV, aI G a_s 1394 f_s] z A) args s 0 0 A) (F0 m 82 ls [.int s1, .int s0]) := by
        intro l3 l4 l5 l6 s0 s1 H locs ls hP hD hS hl hF
        unfold fX12_runs_b82 at hF
        refine lv_iadd hx hb dX12_runs_82 ?_
        refine lv_istore_n (lv' := [(2, .int (s0 + s1)), (0, .ref h), (1, .int l1), (3, .int l3), (4, .int l4), (5, .int l5), (6, .int l6)]) hx hb dX12_runs_83 rfl hl (by decide) rfl (fun ls hl => ?_)
        refine lv_iload hx hb dX12_runs_84 (lv_at hl 6 rfl) ?_
        refine lv_if_eq (tgt := 95) hx hb dX12_runs_86 (by decide) (fun c7 => ?_) (fun c7 => ?_)
        · rw [if_pos c7] at hF
          refine lv_iconst (v := 1) hx hb dX12_runs_95 (by decide) ?_
          exact B96 _ _ _ _ H locs ls hP hD hS (lv_sub hl [1, 2, 0, 4, 5] rfl) hF
        rw [if_neg c7] at hF
        refine lv_iload_n hx hb dX12_runs_89 rfl (lv_at hl 3 rfl) ?_
        refine lv_iconst (v := 1) hx hb dX12_runs_90 (by decide) ?_
        refine lv_iadd hx hb dX12_runs_91 ?_
        refine lv_goto (tgt := 96) hx hb dX12_runs_92 (by decide) ?_
        exact B96 _ _ _ _ H locs ls hP hD hS (lv_sub hl [1, 2, 0, 4, 5] rfl) hF
      have B69 : ∀ (l2 : Int32) (l3 : Int32) (l4 : Int32) (l5 : Int32) (s0 : Int32) (H : Heap) (locs : List Loc) (ls : Array Slot), va_P G.1 vwCl [o12 h x_thrown a_s a_image x_hasImage x_act x_spot x_end x_isWrong x_open a_by a_truths x_turn x_lean x_last x_angle x_asLay x_ticks a_bodies x_ran x_kind x_number x_tellsV, aI G a_s 1394 f_s] H → va_D A [o12 h x_thrown a_s a_image x_hasImage x_act x_spot x_end x_isWrong x_open a_by a_truths x_turn x_lean x_last x_angle x_asLay x_ticks a_bodies x_ran x_kind x_number x_tellsV, aI G a_s 1394 f_s] → va_S A s.heap H locs → lv_has ls 7 [(0, .ref h), (1, .int l1), (2, .int l2), (3, .int l3), (4, .int l4), (5, .int l5)] → fX12_runs_b69 (fX12_runs_L21 k117 f_s l1 n) k117 f_s l1 l2 l3 l4 l5 s0 = some (z) → W p l e (rm_X12_runs) s m args below meth c H locs 0 0 (MQ below (QI G [o12 h x_thrown a_s a_image x_hasImage x_act x_spot x_end x_isWrong x_open a_by a_truths x_turn x_lean x_last x_angle x_asLay x_ticks a_bodies x_ran x_kind x_number x_tellsV, aI G a_s 1394 f_s] z A) args s 0 0 A) (F0 m 69 ls [.int s0]) := by
        intro l2 l3 l4 l5 s0 H locs ls hP hD hS hl hF
        unfold fX12_runs_b69 at hF
        refine lv_istore (lv' := [(6, .int s0), (0, .ref h), (1, .int l1), (2, .int l2), (3, .int l3), (4, .int l4), (5, .int l5)]) hx hb dX12_runs_69 hl (by decide) rfl (fun ls hl => ?_)
        refine lv_iload_n hx hb dX12_runs_71 rfl (lv_at hl 3 rfl) ?_
        refine lv_iload hx hb dX12_runs_72 (lv_at hl 0 rfl) ?_
        refine lv_if_eq (tgt := 81) hx hb dX12_runs_74 (by decide) (fun c6 => ?_) (fun c6 => ?_)
        · rw [if_pos c6] at hF
          refine lv_iconst (v := 1) hx hb dX12_runs_81 (by decide) ?_
          exact B82 _ _ _ _ _ _ H locs ls hP hD hS (lv_sub hl [1, 2, 4, 5, 6, 0] rfl) hF
        rw [if_neg c6] at hF
        refine lv_iconst (v := 0) hx hb dX12_runs_77 (by decide) ?_
        refine lv_goto (tgt := 82) hx hb dX12_runs_78 (by decide) ?_
        exact B82 _ _ _ _ _ _ H locs ls hP hD hS (lv_sub hl [1, 2, 4, 5, 6, 0] rfl) hF
      have B68 : ∀ (l2 : Int32) (l3 : Int32) (l4 : Int32) (l5 : Int32) (H : Heap) (locs : List Loc) (ls : Array Slot), va_P G.1 vwCl [o12 h x_thrown a_s a_image x_hasImage x_act x_spot x_end x_isWrong x_open a_by a_truths x_turn x_lean x_last x_angle x_asLay x_ticks a_bodies x_ran x_kind x_number x_tellsV, aI G a_s 1394 f_s] H → va_D A [o12 h x_thrown a_s a_image x_hasImage x_act x_spot x_end x_isWrong x_open a_by a_truths x_turn x_lean x_last x_angle x_asLay x_ticks a_bodies x_ran x_kind x_number x_tellsV, aI G a_s 1394 f_s] → va_S A s.heap H locs → lv_has ls 7 [(0, .ref h), (1, .int l1), (2, .int l2), (3, .int l3), (4, .int l4), (5, .int l5)] → fX12_runs_b68 (fX12_runs_L21 k117 f_s l1 n) k117 f_s l1 l2 l3 l4 l5 = some (z) → W p l e (rm_X12_runs) s m args below meth c H locs 0 0 (MQ below (QI G [o12 h x_thrown a_s a_image x_hasImage x_act x_spot x_end x_isWrong x_open a_by a_truths x_turn x_lean x_last x_angle x_asLay x_ticks a_bodies x_ran x_kind x_number x_tellsV, aI G a_s 1394 f_s] z A) args s 0 0 A) (F0 m 68 ls []) := by
        intro l2 l3 l4 l5 H locs ls hP hD hS hl hF
        unfold fX12_runs_b68 at hF
        refine lv_iconst (v := 0) hx hb dX12_runs_68 (by decide) ?_
        exact B69 _ _ _ _ _ H locs ls hP hD hS (lv_sub hl [0, 1, 2, 3, 4, 5] rfl) hF
      intro l2 l3 l4 l5 H locs ls hP hD hS hl hF
      rw [fX12_runs_L21] at hF
      refine lv_iload hx hb dX12_runs_21 (lv_at hl 5 rfl) ?_
      refine lv_aload_n hx hb dX12_runs_23 rfl (lv_at hl 0 rfl) ?_
      refine va_get (D := G.1) (ci := 12) (v := .ref a_s) (C := RX12) (T := TX12) (N := 22) hx hb hts hin12 hown hK hP 0 rfl rfl 1 (by decide) lk_9 (fun _ h9 => h9) rfl dX12_runs_24 ?_
      refine lv_iconst (v := 3) hx hb dX12_runs_27 (by decide) ?_
      refine va_iald (D := G.1) hx hb hK hP 1 0 rfl rfl (by unfold vp_in; decide) dX12_runs_28 ?_
      refine lv_eqi (y := f_s 3) rfl ?_
      refine lv_icmp_ge (tgt := 117) hx hb dX12_runs_29 (by decide) (fun c4 => ?_) (fun c4 => ?_)
      · rw [if_pos c4] at hF
        exact hk117 _ _ H locs ls hP hD hS (lv_sub hl [1, 2, 4] rfl) hF
      rw [if_neg c4] at hF
      refine lv_iload hx hb dX12_runs_32 (lv_at hl 5 rfl) ?_
      refine lv_if_le (tgt := 68) hx hb dX12_runs_34 (by decide) (fun c5 => ?_) (fun c5 => ?_)
      · rw [if_pos c5] at hF
        exact B68 _ _ _ _ H locs ls hP hD hS (lv_sub hl [0, 1, 2, 3, 4, 5] rfl) hF
      rw [if_neg c5] at hF
      refine lv_aload_n hx hb dX12_runs_37 rfl (lv_at hl 0 rfl) ?_
      refine va_get (D := G.1) (ci := 12) (v := .ref a_s) (C := RX12) (T := TX12) (N := 22) hx hb hts hin12 hown hK hP 0 rfl rfl 1 (by decide) lk_9 (fun _ h9 => h9) rfl dX12_runs_38 ?_
      refine lv_sipush (v := 1378) hx hb dX12_runs_41 (by decide) ?_
      refine lv_iload hx hb dX12_runs_44 (lv_at hl 5 rfl) ?_
      refine lv_iadd hx hb dX12_runs_46 ?_
      refine W.eq (g2 := F0 m 47 ls [.int (1378 + l5), .ref a_s]) rfl ?_
      obtain ⟨hi9, hF⟩ := ck_some hF
      refine va_iald (D := G.1) hx hb hK hP 1 0 rfl rfl hi9 dX12_runs_47 ?_
      refine lv_aload_n hx hb dX12_runs_48 rfl (lv_at hl 0 rfl) ?_
      refine va_get (D := G.1) (ci := 12) (v := .ref a_s) (C := RX12) (T := TX12) (N := 22) hx hb hts hin12 hown hK hP 0 rfl rfl 1 (by decide) lk_9 (fun _ h9 => h9) rfl dX12_runs_49 ?_
      refine lv_sipush (v := 1378) hx hb dX12_runs_52 (by decide) ?_
      refine lv_iload hx hb dX12_runs_55 (lv_at hl 5 rfl) ?_
      refine lv_iadd hx hb dX12_runs_57 ?_
      refine lv_iconst (v := 1) hx hb dX12_runs_58 (by decide) ?_
      refine lv_isub hx hb dX12_runs_59 ?_
      obtain ⟨hi10, hF⟩ := ck_some hF
      refine va_iald (D := G.1) hx hb hK hP 1 0 rfl rfl hi10 dX12_runs_60 ?_
      refine lv_icmp_ne (tgt := 68) hx hb dX12_runs_61 (by decide) (fun c11 => ?_) (fun c11 => ?_)
      · rw [if_neg c11] at hF
        exact B68 _ _ _ _ H locs ls hP hD hS (lv_sub hl [0, 1, 2, 3, 4, 5] rfl) hF
      rw [if_pos c11] at hF
      refine lv_iconst (v := 1) hx hb dX12_runs_64 (by decide) ?_
      refine lv_goto (tgt := 69) hx hb dX12_runs_65 (by decide) ?_
      exact B69 _ _ _ _ _ H locs ls hP hD hS (lv_sub hl [0, 1, 2, 3, 4, 5] rfl) hF
  intro hF
  unfold fX12_runs at hF
  refine lv_iload_n hx hb dX12_runs_0 rfl (lv_at hl 1 rfl) ?_
  refine lv_iconst (v := 0) hx hb dX12_runs_1 (by decide) ?_
  refine lv_iconst (v := 1) hx hb dX12_runs_2 (by decide) ?_
  obtain ⟨r1, hc2, hF⟩ := bd_some hF
  have hPc := hP.sub (ws' := []) [] rfl
  have hDc := hD.sub (ws' := []) [] (by decide) rfl
  have hFc := va_free (wc := []) hD hS hA [] rfl
  have hM := c_X12_in l G l1 (0 : Int32) (1 : Int32) r1 hc2 H.size
  refine cl_i (w1 := []) (ws' := [o12 h x_thrown a_s a_image x_hasImage x_act x_spot x_end x_isWrong x_open a_by a_truths x_turn x_lean x_last x_angle x_asLay x_ticks a_bodies x_ran x_kind x_number x_tellsV, aI G a_s 1394 f_s]) hP hD hS hFc [] rfl rfl rfl (va_runS (As := [.int l1, .int 0, .int 1]) (rest := []) ⟨hx, hb, hml, hown, hts⟩ hM (va_cwS 3 hts gX12_runs_X12_in rfl rfl rfl (by decide +kernel) ⟨Nat.le_of_ble_eq_true rfl, Nat.le_of_ble_eq_true rfl⟩) (cp_S hK hE hS hPc hDc hFc) rfl rfl hl.1 rfl (lv_room (Nat.le_of_ble_eq_true rfl)) dX12_runs_3 ⟨Nat.zero_le _, Nat.zero_le _⟩) (fun H locs hP hD hS => ?_)
  refine lv_if_ne (tgt := 11) hx hb dX12_runs_6 (by decide) (fun c3 => ?_) (fun c3 => ?_)
  · rw [if_neg c3] at hF
    refine lv_iconst (v := 0) hx hb dX12_runs_11 (by decide) ?_
    refine lv_istore_n (lv' := [(2, .int 0), (0, .ref h), (1, .int l1)]) hx hb dX12_runs_12 rfl hl (by decide) rfl (fun ls hl => ?_)
    refine lv_iconst (v := 0) hx hb dX12_runs_13 (by decide) ?_
    refine lv_istore_n (lv' := [(3, .int 0), (2, .int 0), (0, .ref h), (1, .int l1)]) hx hb dX12_runs_14 rfl hl (by decide) rfl (fun ls hl => ?_)
    refine lv_iconst (v := 0) hx hb dX12_runs_15 (by decide) ?_
    refine lv_istore (lv' := [(4, .int 0), (3, .int 0), (2, .int 0), (0, .ref h), (1, .int l1)]) hx hb dX12_runs_16 hl (by decide) rfl (fun ls hl => ?_)
    refine lv_iconst (v := 0) hx hb dX12_runs_18 (by decide) ?_
    refine lv_istore (lv' := [(5, .int 0), (4, .int 0), (3, .int 0), (2, .int 0), (0, .ref h), (1, .int l1)]) hx hb dX12_runs_19 hl (by decide) rfl (fun ls hl => ?_)
    refine LP21 _ _ (fun l2_12 l4_13 H locs ls hP hD hS hl hF => ?_) _ _ _ _ _ H locs ls hP hD hS (lv_sub hl [4, 5, 3, 2, 1, 0] rfl) hF
    refine W.eq (g2 := F0 m 117 ls []) rfl ?_
    refine lv_iload_n hx hb dX12_runs_117 rfl (lv_at hl 0 rfl) ?_
    refine lv_if_ne (tgt := 125) hx hb dX12_runs_118 (by decide) (fun c14 => ?_) (fun c14 => ?_)
    · rw [if_neg c14] at hF
      refine lv_iload hx hb dX12_runs_125 (lv_at hl 2 rfl) ?_
      injection hF with hz
      subst hz
      exact cm_reti hx hb hr rfl hlk hK hP hD hS dX12_runs_127
    rw [if_pos c14] at hF
    refine lv_iload_n hx hb dX12_runs_121 rfl (lv_at hl 1 rfl) ?_
    refine lv_goto (tgt := 127) hx hb dX12_runs_122 (by decide) ?_
    injection hF with hz
    subst hz
    exact cm_reti hx hb hr rfl hlk hK hP hD hS dX12_runs_127
  rw [if_pos c3] at hF
  refine lv_iconst (v := (-1)) hx hb dX12_runs_9 (by decide) ?_
  injection hF with hz
  subst hz
  exact cm_reti hx hb hr rfl hlk hK hP hD hS dX12_runs_10

/-! HeadsByHairModel.made(I)I -/
abbrev rm_X12_made : Room := { frames := 2, cells := 0, slots := 0, locals := 53 }
set_option maxHeartbeats 4000000 in
set_option maxRecDepth 100000 in
theorem c_X12_made (l : Launch) (G : GG) (h a_s a_image a_by a_truths a_bodies : Nat) (x_thrown x_hasImage x_act x_spot x_end x_isWrong x_open x_turn x_lean x_last x_angle x_asLay x_ticks x_ran x_kind x_number x_tellsV : Int32) (f_s : Nat → Int32) (l1 : Int32) (z : Int32) (hF : fX12_made f_s l1 = some (z)) : CMi l yX12_made wsX12_made rm_X12_made G [o12 h x_thrown a_s a_image x_hasImage x_act x_spot x_end x_isWrong x_open a_by a_truths x_turn x_lean x_last x_angle x_asLay x_ticks a_bodies x_ran x_kind x_number x_tellsV, aI G a_s 1394 f_s] [o12 h x_thrown a_s a_image x_hasImage x_act x_spot x_end x_isWrong x_open a_by a_truths x_turn x_lean x_last x_angle x_asLay x_ticks a_bodies x_ran x_kind x_number x_tellsV, aI G a_s 1394 f_s] [.ref h, .int l1] z := by
  refine cm_start (cc := cX12_made) (maxL := 7) (ret := (some .int)) (Qc := fun A => QI G [o12 h x_thrown a_s a_image x_hasImage x_act x_spot x_end x_isWrong x_open a_by a_truths x_turn x_lean x_last x_angle x_asLay x_ticks a_bodies x_ran x_kind x_number x_tellsV, aI G a_s 1394 f_s] z A) (by decide +kernel) rfl (Nat.le_of_ble_eq_true rfl) ?_
  intro p e s m args below meth c A hx hb hr hlk hml hown hnm hts hA H locs hP hK hD hE hS ls hl
  have hown : s.vm.findClass RX12 = some m.cls := hown
  have hl : lv_has ls 7 [(0, .ref h), (1, .int l1)] := hl
  have hin12 : ∀ w ∈ wsX120, w ∈ wsX12_made := by decide +kernel
  have lk_9 := hts (.fieldLink RX12 9 "HeadsByHairModel" "s" "[I") (by decide +kernel)
  have lc_187 := hts (.constantLong RX12 187 (2)) (by decide +kernel)
  revert hF
  have LP36 : ∀ (l1 : Int32) (l2 : Int32) (l3 : Int32) (k67 : Int64 → Option (Int32)) (hk67 : ∀ (l4 : Int64) (H : Heap) (locs : List Loc) (ls : Array Slot), va_P G.1 vwCl [o12 h x_thrown a_s a_image x_hasImage x_act x_spot x_end x_isWrong x_open a_by a_truths x_turn x_lean x_last x_angle x_asLay x_ticks a_bodies x_ran x_kind x_number x_tellsV, aI G a_s 1394 f_s] H → va_D A [o12 h x_thrown a_s a_image x_hasImage x_act x_spot x_end x_isWrong x_open a_by a_truths x_turn x_lean x_last x_angle x_asLay x_ticks a_bodies x_ran x_kind x_number x_tellsV, aI G a_s 1394 f_s] → va_S A s.heap H locs → lv_has ls 7 [(1, .int l1), (2, .int l2), (4, .long l4)] → k67 l4 = some (z) → W p l e (rm_X12_made) s m args below meth c H locs 0 0 (MQ below (QI G [o12 h x_thrown a_s a_image x_hasImage x_act x_spot x_end x_isWrong x_open a_by a_truths x_turn x_lean x_last x_angle x_asLay x_ticks a_bodies x_ran x_kind x_number x_tellsV, aI G a_s 1394 f_s] z A) args s 0 0 A) (F0 m 67 ls [])) (n : Nat) (l4 : Int64) (l6 : Int32) (H : Heap) (locs : List Loc) (ls : Array Slot), va_P G.1 vwCl [o12 h x_thrown a_s a_image x_hasImage x_act x_spot x_end x_isWrong x_open a_by a_truths x_turn x_lean x_last x_angle x_asLay x_ticks a_bodies x_ran x_kind x_number x_tellsV, aI G a_s 1394 f_s] H → va_D A [o12 h x_thrown a_s a_image x_hasImage x_act x_spot x_end x_isWrong x_open a_by a_truths x_turn x_lean x_last x_angle x_asLay x_ticks a_bodies x_ran x_kind x_number x_tellsV, aI G a_s 1394 f_s] → va_S A s.heap H locs → lv_has ls 7 [(1, .int l1), (2, .int l2), (3, .int l3), (4, .long l4), (6, .int l6)] → fX12_made_L36 k67 f_s l1 l2 l3 n l4 l6 = some (z) → W p l e (rm_X12_made) s m args below meth c H locs 0 0 (MQ below (QI G [o12 h x_thrown a_s a_image x_hasImage x_act x_spot x_end x_isWrong x_open a_by a_truths x_turn x_lean x_last x_angle x_asLay x_ticks a_bodies x_ran x_kind x_number x_tellsV, aI G a_s 1394 f_s] z A) args s 0 0 A) (F0 m 36 ls []) := by
    intro l1 l2 l3 k67 hk67 n
    induction n with
    | zero =>
      intro l4 l6 H locs ls hP hD hS hl hF
      cases hF
    | succ n ih =>
      intro l4 l6 H locs ls hP hD hS hl hF
      rw [fX12_made_L36] at hF
      refine lv_iload hx hb dX12_made_36 (lv_at hl 4 rfl) ?_
      refine lv_iload_n hx hb dX12_made_38 rfl (lv_at hl 2 rfl) ?_
      refine lv_icmp_gt (tgt := 67) hx hb dX12_made_39 (by decide) (fun c7 => ?_) (fun c7 => ?_)
      · rw [if_pos c7] at hF
        exact hk67 _ H locs ls hP hD hS (lv_sub hl [0, 1, 3] rfl) hF
      rw [if_neg c7] at hF
      refine lv_lload hx hb dX12_made_42 (lv_at hl 3 rfl) ?_
      refine lv_ldc2 hx hb hown lc_187 dX12_made_44 ?_
      refine lv_iload_n hx hb dX12_made_47 rfl (lv_at hl 1 rfl) ?_
      refine lv_iconst (v := 1) hx hb dX12_made_48 (by decide) ?_
      refine lv_isub hx hb dX12_made_49 ?_
      refine lv_iload hx hb dX12_made_50 (lv_at hl 4 rfl) ?_
      refine lv_iconst (v := 1) hx hb dX12_made_52 (by decide) ?_
      refine lv_isub hx hb dX12_made_53 ?_
      obtain ⟨r8, hc9, hF⟩ := bd_some hF
      have hPc := hP.sub (ws' := []) [] rfl
      have hDc := hD.sub (ws' := []) [] (by decide) rfl
      have hFc := va_free (wc := []) hD hS hA [] rfl
      have hM := c_X12_choose l G (l2 - 1) (l6 - 1) r8 hc9 H.size
      refine cl_l (w1 := []) (ws' := [o12 h x_thrown a_s a_image x_hasImage x_act x_spot x_end x_isWrong x_open a_by a_truths x_turn x_lean x_last x_angle x_asLay x_ticks a_bodies x_ran x_kind x_number x_tellsV, aI G a_s 1394 f_s]) hP hD hS hFc [] rfl rfl rfl (va_runS (As := [.int (l2 - 1), .int (l6 - 1)]) (rest := [.long 2, .long l4]) ⟨hx, hb, hml, hown, hts⟩ hM (va_cwS 2 hts gX12_made_X12_choose rfl rfl rfl (by decide +kernel) ⟨Nat.le_of_ble_eq_true rfl, Nat.le_of_ble_eq_true rfl⟩) (cp_S hK hE hS hPc hDc hFc) rfl rfl hl.1 rfl (lv_room (Nat.le_of_ble_eq_true rfl)) dX12_made_54 ⟨Nat.zero_le _, Nat.zero_le _⟩) (fun H locs hP hD hS => ?_)
      refine lv_lmul hx hb dX12_made_57 ?_
      refine W.eq (g2 := F0 m 58 ls [.long (2 * r8), .long l4]) rfl ?_
      refine lv_ladd hx hb dX12_made_58 ?_
      refine lv_lstore (lv' := [(4, .long (l4 + (2 * r8))), (1, .int l1), (2, .int l2), (3, .int l3), (6, .int l6)]) hx hb dX12_made_59 hl (by decide) rfl (fun ls hl => ?_)
      refine lv_iinc (v := l6 + 1) (lv' := [(6, .int (l6 + 1)), (4, .long (l4 + (2 * r8))), (1, .int l1), (2, .int l2), (3, .int l3)]) hx hb dX12_made_61 hl (k := 4) rfl rfl (by decide) rfl (fun ls hl => ?_)
      refine lv_goto (tgt := 36) hx hb dX12_made_64 (by decide) ?_
      exact ih _ _ H locs ls hP hD hS (lv_sub hl [2, 3, 4, 1, 0] rfl) hF
  intro hF
  unfold fX12_made at hF
  refine lv_iload_n hx hb dX12_made_0 rfl (lv_at hl 1 rfl) ?_
  refine lv_iconst (v := 0) hx hb dX12_made_1 (by decide) ?_
  refine lv_iconst (v := 1) hx hb dX12_made_2 (by decide) ?_
  obtain ⟨r1, hc2, hF⟩ := bd_some hF
  have hPc := hP.sub (ws' := []) [] rfl
  have hDc := hD.sub (ws' := []) [] (by decide) rfl
  have hFc := va_free (wc := []) hD hS hA [] rfl
  have hM := c_X12_in l G l1 (0 : Int32) (1 : Int32) r1 hc2 H.size
  refine cl_i (w1 := []) (ws' := [o12 h x_thrown a_s a_image x_hasImage x_act x_spot x_end x_isWrong x_open a_by a_truths x_turn x_lean x_last x_angle x_asLay x_ticks a_bodies x_ran x_kind x_number x_tellsV, aI G a_s 1394 f_s]) hP hD hS hFc [] rfl rfl rfl (va_runS (As := [.int l1, .int 0, .int 1]) (rest := []) ⟨hx, hb, hml, hown, hts⟩ hM (va_cwS 3 hts gX12_made_X12_in rfl rfl rfl (by decide +kernel) ⟨Nat.le_of_ble_eq_true rfl, Nat.le_of_ble_eq_true rfl⟩) (cp_S hK hE hS hPc hDc hFc) rfl rfl hl.1 rfl (lv_room (Nat.le_of_ble_eq_true rfl)) dX12_made_3 ⟨Nat.zero_le _, Nat.zero_le _⟩) (fun H locs hP hD hS => ?_)
  refine lv_if_ne (tgt := 11) hx hb dX12_made_6 (by decide) (fun c3 => ?_) (fun c3 => ?_)
  · rw [if_neg c3] at hF
    refine lv_aload_n hx hb dX12_made_11 rfl (lv_at hl 0 rfl) ?_
    refine va_get (D := G.1) (ci := 12) (v := .ref a_s) (C := RX12) (T := TX12) (N := 22) hx hb hts hin12 hown hK hP 0 rfl rfl 1 (by decide) lk_9 (fun _ h9 => h9) rfl dX12_made_12 ?_
    refine lv_iconst (v := 3) hx hb dX12_made_15 (by decide) ?_
    refine va_iald (D := G.1) hx hb hK hP 1 0 rfl rfl (by unfold vp_in; decide) dX12_made_16 ?_
    refine lv_eqi (y := f_s 3) rfl ?_
    refine lv_istore_n (lv' := [(2, .int (f_s 3)), (0, .ref h), (1, .int l1)]) hx hb dX12_made_17 rfl hl (by decide) rfl (fun ls hl => ?_)
    refine lv_iload_n hx hb dX12_made_18 rfl (lv_at hl 0 rfl) ?_
    refine lv_if_ne (tgt := 24) hx hb dX12_made_19 (by decide) (fun c4 => ?_) (fun c4 => ?_)
    · rw [if_neg c4] at hF
      refine lv_aload_n hx hb dX12_made_24 rfl (lv_at hl 1 rfl) ?_
      refine W.eq (g2 := F0 m 25 ls [.ref h]) rfl ?_
      refine lv_iconst (v := 0) hx hb dX12_made_25 (by decide) ?_
      obtain ⟨r5, hc6, hF⟩ := bd_some hF
      have hPc := hP.sub (ws' := [o12 h x_thrown a_s a_image x_hasImage x_act x_spot x_end x_isWrong x_open a_by a_truths x_turn x_lean x_last x_angle x_asLay x_ticks a_bodies x_ran x_kind x_number x_tellsV, aI G a_s 1394 f_s]) [0, 1] rfl
      have hDc := hD.sub (ws' := [o12 h x_thrown a_s a_image x_hasImage x_act x_spot x_end x_isWrong x_open a_by a_truths x_turn x_lean x_last x_angle x_asLay x_ticks a_bodies x_ran x_kind x_number x_tellsV, aI G a_s 1394 f_s]) [0, 1] (by decide) rfl
      have hFc := va_free (wc := [o12 h x_thrown a_s a_image x_hasImage x_act x_spot x_end x_isWrong x_open a_by a_truths x_turn x_lean x_last x_angle x_asLay x_ticks a_bodies x_ran x_kind x_number x_tellsV, aI G a_s 1394 f_s]) hD hS hA [0, 1] rfl
      have hM := c_X12_runs l G h a_s a_image a_by a_truths a_bodies x_thrown x_hasImage x_act x_spot x_end x_isWrong x_open x_turn x_lean x_last x_angle x_asLay x_ticks x_ran x_kind x_number x_tellsV f_s (0 : Int32) r5 hc6 H.size
      refine cl_i (w1 := [o12 h x_thrown a_s a_image x_hasImage x_act x_spot x_end x_isWrong x_open a_by a_truths x_turn x_lean x_last x_angle x_asLay x_ticks a_bodies x_ran x_kind x_number x_tellsV, aI G a_s 1394 f_s]) (ws' := [o12 h x_thrown a_s a_image x_hasImage x_act x_spot x_end x_isWrong x_open a_by a_truths x_turn x_lean x_last x_angle x_asLay x_ticks a_bodies x_ran x_kind x_number x_tellsV, aI G a_s 1394 f_s]) hP hD hS hFc [0, 1] rfl rfl rfl (va_runV (As := [.int 0]) (rest := []) ⟨hx, hb, hml, hown, hts⟩ hM (cwV 1 hts gX12_made_X12_runs rfl rfl rfl (by decide +kernel) ⟨Nat.le_of_ble_eq_true rfl, Nat.le_of_ble_eq_true rfl⟩) (cp_V hK hE hS hPc hDc hFc (va_recv hK hPc (ci := 12) (q0 := 0) rfl rfl)) rfl rfl hl.1 rfl (lv_room (Nat.le_of_ble_eq_true rfl)) dX12_made_26 ⟨Nat.zero_le _, Nat.zero_le _⟩) (fun H locs hP hD hS => ?_)
      refine lv_istore_n (lv' := [(3, .int r5), (2, .int (f_s 3)), (0, .ref h), (1, .int l1)]) hx hb dX12_made_29 rfl hl (by decide) rfl (fun ls hl => ?_)
      refine lv_lconst (v := 0) hx hb dX12_made_30 (by decide) ?_
      refine lv_lstore (lv' := [(4, .long 0), (3, .int r5), (2, .int (f_s 3)), (0, .ref h), (1, .int l1)]) hx hb dX12_made_31 hl (by decide) rfl (fun ls hl => ?_)
      refine lv_iconst (v := 1) hx hb dX12_made_33 (by decide) ?_
      refine lv_istore (lv' := [(6, .int 1), (4, .long 0), (3, .int r5), (2, .int (f_s 3)), (0, .ref h), (1, .int l1)]) hx hb dX12_made_34 hl (by decide) rfl (fun ls hl => ?_)
      refine LP36 _ _ _ _ (fun l4_10 H locs ls hP hD hS hl hF => ?_) _ _ _ H locs ls hP hD hS (lv_sub hl [5, 3, 2, 1, 0] rfl) hF
      refine lv_lload hx hb dX12_made_67 (lv_at hl 2 rfl) ?_
      refine lv_lconst (v := 1) hx hb dX12_made_69 (by decide) ?_
      refine lv_iload_n hx hb dX12_made_70 rfl (lv_at hl 1 rfl) ?_
      refine lv_lshl (v := ((1 : Int64) <<< ((f_s 3).toInt64 &&& 63))) hx hb dX12_made_71 rfl ?_
      refine lv_iload_n hx hb dX12_made_72 rfl (lv_at hl 0 rfl) ?_
      obtain ⟨r11, hc12, hF⟩ := bd_some hF
      have hPc := hP.sub (ws' := []) [] rfl
      have hDc := hD.sub (ws' := []) [] (by decide) rfl
      have hFc := va_free (wc := []) hD hS hA [] rfl
      have hM := c_X12_lowest l G l4_10 ((1 : Int64) <<< ((f_s 3).toInt64 &&& 63)) l1 r11 hc12 H.size
      refine cl_l (w1 := []) (ws' := [o12 h x_thrown a_s a_image x_hasImage x_act x_spot x_end x_isWrong x_open a_by a_truths x_turn x_lean x_last x_angle x_asLay x_ticks a_bodies x_ran x_kind x_number x_tellsV, aI G a_s 1394 f_s]) hP hD hS hFc [] rfl rfl rfl (va_runS (As := [.long l4_10, .long ((1 : Int64) <<< ((f_s 3).toInt64 &&& 63)), .int l1]) (rest := []) ⟨hx, hb, hml, hown, hts⟩ hM (va_cwS 3 hts gX12_made_X12_lowest rfl rfl rfl (by decide +kernel) ⟨Nat.le_of_ble_eq_true rfl, Nat.le_of_ble_eq_true rfl⟩) (cp_S hK hE hS hPc hDc hFc) rfl rfl hl.1 rfl (lv_room (Nat.le_of_ble_eq_true rfl)) dX12_made_73 ⟨Nat.zero_le _, Nat.zero_le _⟩) (fun H locs hP hD hS => ?_)
      refine lv_l2i (v := r11.toInt32) hx hb dX12_made_76 rfl ?_
      refine W.eq (g2 := F0 m 77 ls [.int r11.toInt32]) rfl ?_
      injection hF with hz
      subst hz
      exact cm_reti hx hb hr rfl hlk hK hP hD hS dX12_made_77
    rw [if_pos c4] at hF
    refine lv_iconst (v := 1) hx hb dX12_made_22 (by decide) ?_
    refine W.eq (g2 := F0 m 23 ls [.int 1]) rfl ?_
    injection hF with hz
    subst hz
    exact cm_reti hx hb hr rfl hlk hK hP hD hS dX12_made_23
  rw [if_pos c3] at hF
  refine lv_iconst (v := (-1)) hx hb dX12_made_9 (by decide) ?_
  injection hF with hz
  subst hz
  exact cm_reti hx hb hr rfl hlk hK hP hD hS dX12_made_10

/-! HeadsByHairModel.worth(IIII)I -/
abbrev rm_X12_worth : Room := { frames := 3, cells := 0, slots := 0, locals := 83 }
set_option maxHeartbeats 4000000 in
set_option maxRecDepth 100000 in
theorem c_X12_worth (l : Launch) (G : GG) (h a_s a_image a_by a_truths a_bodies : Nat) (x_thrown x_hasImage x_act x_spot x_end x_isWrong x_open x_turn x_lean x_last x_angle x_asLay x_ticks x_ran x_kind x_number x_tellsV : Int32) (f_by : Nat → Int32) (f_s : Nat → Int32) (f_truths : Nat → Int32) (l1 : Int32) (l2 : Int32) (l3 : Int32) (l4 : Int32) (z : Int32) (z_x_turn : Int32) (z_x_lean : Int32) (z_x_last : Int32) (z_x_angle : Int32) (z_x_asLay : Int32) (z_x_ticks : Int32) (z_f_by : Nat → Int32) (z_f_truths : Nat → Int32) (hF : fX12_worth x_turn x_lean x_last x_angle x_asLay x_ticks f_by f_s f_truths l1 l2 l3 l4 = some (z, z_x_turn, z_x_lean, z_x_last, z_x_angle, z_x_asLay, z_x_ticks, z_f_by, z_f_truths)) : CMi l yX12_worth wsX12_worth rm_X12_worth G [o12 h x_thrown a_s a_image x_hasImage x_act x_spot x_end x_isWrong x_open a_by a_truths x_turn x_lean x_last x_angle x_asLay x_ticks a_bodies x_ran x_kind x_number x_tellsV, aI G a_by 5 f_by, aI G a_s 1394 f_s, aZ G a_truths 64 f_truths] [o12 h x_thrown a_s a_image x_hasImage x_act x_spot x_end x_isWrong x_open a_by a_truths z_x_turn z_x_lean z_x_last z_x_angle z_x_asLay z_x_ticks a_bodies x_ran x_kind x_number x_tellsV, aI G a_by 5 z_f_by, aI G a_s 1394 f_s, aZ G a_truths 64 z_f_truths] [.ref h, .int l1, .int l2, .int l3, .int l4] z := by
  refine cm_start (cc := cX12_worth) (maxL := 9) (ret := (some .int)) (Qc := fun A => QI G [o12 h x_thrown a_s a_image x_hasImage x_act x_spot x_end x_isWrong x_open a_by a_truths z_x_turn z_x_lean z_x_last z_x_angle z_x_asLay z_x_ticks a_bodies x_ran x_kind x_number x_tellsV, aI G a_by 5 z_f_by, aI G a_s 1394 f_s, aZ G a_truths 64 z_f_truths] z A) (by decide +kernel) rfl (Nat.le_of_ble_eq_true rfl) ?_
  intro p e s m args below meth c A hx hb hr hlk hml hown hnm hts hA H locs hP hK hD hE hS ls hl
  have hown : s.vm.findClass RX12 = some m.cls := hown
  have hl : lv_has ls 9 [(0, .ref h), (1, .int l1), (2, .int l2), (3, .int l3), (4, .int l4)] := hl
  have hin12 : ∀ w ∈ wsX120, w ∈ wsX12_worth := by decide +kernel
  have lk_9 := hts (.fieldLink RX12 9 "HeadsByHairModel" "s" "[I") (by decide +kernel)
  revert hF
  have B75 : ∀ (x_turn : Int32) (x_lean : Int32) (x_last : Int32) (x_angle : Int32) (x_asLay : Int32) (x_ticks : Int32) (f_by : Nat → Int32) (f_truths : Nat → Int32) (l4 : Int32) (l5 : Int32) (s0 : Int32) (H : Heap) (locs : List Loc) (ls : Array Slot), va_P G.1 vwCl [o12 h x_thrown a_s a_image x_hasImage x_act x_spot x_end x_isWrong x_open a_by a_truths x_turn x_lean x_last x_angle x_asLay x_ticks a_bodies x_ran x_kind x_number x_tellsV, aI G a_by 5 f_by, aI G a_s 1394 f_s, aZ G a_truths 64 f_truths] H → va_D A [o12 h x_thrown a_s a_image x_hasImage x_act x_spot x_end x_isWrong x_open a_by a_truths x_turn x_lean x_last x_angle x_asLay x_ticks a_bodies x_ran x_kind x_number x_tellsV, aI G a_by 5 f_by, aI G a_s 1394 f_s, aZ G a_truths 64 f_truths] → va_S A s.heap H locs → lv_has ls 9 [(4, .int l4), (5, .int l5)] → fX12_worth_b75 x_turn x_lean x_last x_angle x_asLay x_ticks f_by f_s f_truths l4 l5 s0 = some (z, z_x_turn, z_x_lean, z_x_last, z_x_angle, z_x_asLay, z_x_ticks, z_f_by, z_f_truths) → W p l e (rm_X12_worth) s m args below meth c H locs 0 0 (MQ below (QI G [o12 h x_thrown a_s a_image x_hasImage x_act x_spot x_end x_isWrong x_open a_by a_truths z_x_turn z_x_lean z_x_last z_x_angle z_x_asLay z_x_ticks a_bodies x_ran x_kind x_number x_tellsV, aI G a_by 5 z_f_by, aI G a_s 1394 f_s, aZ G a_truths 64 z_f_truths] z A) args s 0 0 A) (F0 m 75 ls [.int s0]) := by
    intro x_turn x_lean x_last x_angle x_asLay x_ticks f_by f_truths l4 l5 s0 H locs ls hP hD hS hl hF
    unfold fX12_worth_b75 at hF
    refine lv_istore (lv' := [(7, .int s0), (4, .int l4), (5, .int l5)]) hx hb dX12_worth_75 hl (by decide) rfl (fun ls hl => ?_)
    refine lv_bipush (v := 100) hx hb dX12_worth_77 (by decide) ?_
    refine lv_iload hx hb dX12_worth_79 (lv_at hl 1 rfl) ?_
    refine lv_isub hx hb dX12_worth_81 ?_
    refine lv_iload hx hb dX12_worth_82 (lv_at hl 0 rfl) ?_
    refine lv_imul hx hb dX12_worth_84 ?_
    refine lv_iload hx hb dX12_worth_85 (lv_at hl 1 rfl) ?_
    refine lv_iload hx hb dX12_worth_87 (lv_at hl 2 rfl) ?_
    refine lv_iload hx hb dX12_worth_89 (lv_at hl 0 rfl) ?_
    refine lv_isub hx hb dX12_worth_91 ?_
    refine lv_imul hx hb dX12_worth_92 ?_
    refine lv_iadd hx hb dX12_worth_93 ?_
    refine lv_istore (lv' := [(8, .int (((100 - l4) * s0) + (l4 * (l5 - s0)))), (7, .int s0), (4, .int l4), (5, .int l5)]) hx hb dX12_worth_94 hl (by decide) rfl (fun ls hl => ?_)
    refine W.eq (g2 := F0 m 96 ls []) rfl ?_
    refine lv_sipush (v := 1000) hx hb dX12_worth_96 (by decide) ?_
    refine lv_iconst (v := 2) hx hb dX12_worth_99 (by decide) ?_
    refine lv_iload hx hb dX12_worth_100 (lv_at hl 0 rfl) ?_
    refine lv_imul hx hb dX12_worth_102 ?_
    refine lv_bipush (v := 100) hx hb dX12_worth_103 (by decide) ?_
    refine lv_iload hx hb dX12_worth_105 (lv_at hl 3 rfl) ?_
    refine lv_imul hx hb dX12_worth_107 ?_
    refine lv_isub hx hb dX12_worth_108 ?_
    refine lv_imul hx hb dX12_worth_109 ?_
    refine lv_bipush (v := 100) hx hb dX12_worth_110 (by decide) ?_
    refine lv_iload hx hb dX12_worth_112 (lv_at hl 3 rfl) ?_
    refine lv_imul hx hb dX12_worth_114 ?_
    obtain ⟨hz11, hF⟩ := ck_some hF
    refine lv_idiv hx hb dX12_worth_115 hz11 ?_
    injection hF with hz
    injection hz with hq0 hz
    injection hz with hq1 hz
    injection hz with hq2 hz
    injection hz with hq3 hz
    injection hz with hq4 hz
    injection hz with hq5 hz
    injection hz with hq6 hz
    injection hz with hq7 hz
    subst hq0
    subst hq1
    subst hq2
    subst hq3
    subst hq4
    subst hq5
    subst hq6
    subst hq7
    subst hz
    exact cm_reti hx hb hr rfl hlk hK hP hD hS dX12_worth_116
  intro hF
  unfold fX12_worth at hF
  refine lv_aload_n hx hb dX12_worth_0 rfl (lv_at hl 0 rfl) ?_
  refine lv_iload_n hx hb dX12_worth_1 rfl (lv_at hl 1 rfl) ?_
  refine lv_iload_n hx hb dX12_worth_2 rfl (lv_at hl 2 rfl) ?_
  refine lv_iload_n hx hb dX12_worth_3 rfl (lv_at hl 3 rfl) ?_
  obtain ⟨r1, hc2, hF⟩ := bd_some hF
  have hPc := hP.sub (ws' := [o12 h x_thrown a_s a_image x_hasImage x_act x_spot x_end x_isWrong x_open a_by a_truths x_turn x_lean x_last x_angle x_asLay x_ticks a_bodies x_ran x_kind x_number x_tellsV, aI G a_s 1394 f_s]) [0, 2] rfl
  have hDc := hD.sub (ws' := [o12 h x_thrown a_s a_image x_hasImage x_act x_spot x_end x_isWrong x_open a_by a_truths x_turn x_lean x_last x_angle x_asLay x_ticks a_bodies x_ran x_kind x_number x_tellsV, aI G a_s 1394 f_s]) [0, 2] (by decide) rfl
  have hFc := va_free (wc := [o12 h x_thrown a_s a_image x_hasImage x_act x_spot x_end x_isWrong x_open a_by a_truths x_turn x_lean x_last x_angle x_asLay x_ticks a_bodies x_ran x_kind x_number x_tellsV, aI G a_s 1394 f_s]) hD hS hA [0, 2] rfl
  have hM := c_X12_areThere l G h a_s a_image a_by a_truths a_bodies x_thrown x_hasImage x_act x_spot x_end x_isWrong x_open x_turn x_lean x_last x_angle x_asLay x_ticks x_ran x_kind x_number x_tellsV f_s l1 l2 l3 r1 hc2 H.size
  refine cl_i (w1 := [o12 h x_thrown a_s a_image x_hasImage x_act x_spot x_end x_isWrong x_open a_by a_truths x_turn x_lean x_last x_angle x_asLay x_ticks a_bodies x_ran x_kind x_number x_tellsV, aI G a_s 1394 f_s]) (ws' := [o12 h x_thrown a_s a_image x_hasImage x_act x_spot x_end x_isWrong x_open a_by a_truths x_turn x_lean x_last x_angle x_asLay x_ticks a_bodies x_ran x_kind x_number x_tellsV, aI G a_by 5 f_by, aI G a_s 1394 f_s, aZ G a_truths 64 f_truths]) hP hD hS hFc [0, 2] rfl rfl rfl (va_runV (As := [.int l1, .int l2, .int l3]) (rest := []) ⟨hx, hb, hml, hown, hts⟩ hM (cwV 3 hts gX12_worth_X12_areThere rfl rfl rfl (by decide +kernel) ⟨Nat.le_of_ble_eq_true rfl, Nat.le_of_ble_eq_true rfl⟩) (cp_V hK hE hS hPc hDc hFc (va_recv hK hPc (ci := 12) (q0 := 0) rfl rfl)) rfl rfl hl.1 rfl (lv_room (Nat.le_of_ble_eq_true rfl)) dX12_worth_4 ⟨Nat.zero_le _, Nat.zero_le _⟩) (fun H locs hP hD hS => ?_)
  refine lv_if_ne (tgt := 14) hx hb dX12_worth_7 (by decide) (fun c3 => ?_) (fun c3 => ?_)
  · rw [if_neg c3] at hF
    refine lv_iload hx hb dX12_worth_14 (lv_at hl 4 rfl) ?_
    refine lv_iconst (v := 0) hx hb dX12_worth_16 (by decide) ?_
    refine lv_bipush (v := 100) hx hb dX12_worth_17 (by decide) ?_
    obtain ⟨r4, hc5, hF⟩ := bd_some hF
    have hPc := hP.sub (ws' := []) [] rfl
    have hDc := hD.sub (ws' := []) [] (by decide) rfl
    have hFc := va_free (wc := []) hD hS hA [] rfl
    have hM := c_X12_in l G l4 (0 : Int32) (100 : Int32) r4 hc5 H.size
    refine cl_i (w1 := []) (ws' := [o12 h x_thrown a_s a_image x_hasImage x_act x_spot x_end x_isWrong x_open a_by a_truths x_turn x_lean x_last x_angle x_asLay x_ticks a_bodies x_ran x_kind x_number x_tellsV, aI G a_by 5 f_by, aI G a_s 1394 f_s, aZ G a_truths 64 f_truths]) hP hD hS hFc [] rfl rfl rfl (va_runS (As := [.int l4, .int 0, .int 100]) (rest := []) ⟨hx, hb, hml, hown, hts⟩ hM (va_cwS 3 hts gX12_worth_X12_in rfl rfl rfl (by decide +kernel) ⟨Nat.le_of_ble_eq_true rfl, Nat.le_of_ble_eq_true rfl⟩) (cp_S hK hE hS hPc hDc hFc) rfl rfl hl.1 rfl (lv_room (Nat.le_of_ble_eq_true rfl)) dX12_worth_19 ⟨Nat.zero_le _, Nat.zero_le _⟩) (fun H locs hP hD hS => ?_)
    refine lv_if_ne (tgt := 29) hx hb dX12_worth_22 (by decide) (fun c6 => ?_) (fun c6 => ?_)
    · rw [if_neg c6] at hF
      refine lv_iconst (v := 2) hx hb dX12_worth_29 (by decide) ?_
      refine lv_aload_n hx hb dX12_worth_30 rfl (lv_at hl 0 rfl) ?_
      refine W.eq (g2 := F0 m 31 ls [.ref h, .int 2]) rfl ?_
      refine va_get (D := G.1) (ci := 12) (v := .ref a_s) (C := RX12) (T := TX12) (N := 22) hx hb hts hin12 hown hK hP 0 rfl rfl 1 (by decide) lk_9 (fun _ h9 => h9) rfl dX12_worth_31 ?_
      refine lv_sipush (v := 148) hx hb dX12_worth_34 (by decide) ?_
      refine lv_iload_n hx hb dX12_worth_37 rfl (lv_at hl 2 rfl) ?_
      refine lv_iadd hx hb dX12_worth_38 ?_
      obtain ⟨hi7, hF⟩ := ck_some hF
      refine va_iald (D := G.1) hx hb hK hP 2 0 rfl rfl hi7 dX12_worth_39 ?_
      refine lv_imul hx hb dX12_worth_40 ?_
      refine lv_iconst (v := 1) hx hb dX12_worth_41 (by decide) ?_
      refine lv_iadd hx hb dX12_worth_42 ?_
      refine lv_istore (lv' := [(5, .int ((2 * (f_s (148 + l2).toNatClampNeg)) + 1)), (0, .ref h), (1, .int l1), (2, .int l2), (3, .int l3), (4, .int l4)]) hx hb dX12_worth_43 hl (by decide) rfl (fun ls hl => ?_)
      refine lv_aload_n hx hb dX12_worth_45 rfl (lv_at hl 1 rfl) ?_
      refine lv_iload_n hx hb dX12_worth_46 rfl (lv_at hl 2 rfl) ?_
      refine lv_iload_n hx hb dX12_worth_47 rfl (lv_at hl 3 rfl) ?_
      refine lv_iload_n hx hb dX12_worth_48 rfl (lv_at hl 4 rfl) ?_
      refine lv_iconst (v := 1) hx hb dX12_worth_49 (by decide) ?_
      refine W.eq (g2 := F0 m 50 ls [.int 1, .int l3, .int l2, .int l1, .ref h]) rfl ?_
      obtain ⟨r8, hc9, hF⟩ := bd_some hF
      have hPc := hP.sub (ws' := [o12 h x_thrown a_s a_image x_hasImage x_act x_spot x_end x_isWrong x_open a_by a_truths x_turn x_lean x_last x_angle x_asLay x_ticks a_bodies x_ran x_kind x_number x_tellsV, aI G a_by 5 f_by, aI G a_s 1394 f_s, aZ G a_truths 64 f_truths]) [0, 1, 2, 3] rfl
      have hDc := hD.sub (ws' := [o12 h x_thrown a_s a_image x_hasImage x_act x_spot x_end x_isWrong x_open a_by a_truths x_turn x_lean x_last x_angle x_asLay x_ticks a_bodies x_ran x_kind x_number x_tellsV, aI G a_by 5 f_by, aI G a_s 1394 f_s, aZ G a_truths 64 f_truths]) [0, 1, 2, 3] (by decide) rfl
      have hFc := va_free (wc := [o12 h x_thrown a_s a_image x_hasImage x_act x_spot x_end x_isWrong x_open a_by a_truths x_turn x_lean x_last x_angle x_asLay x_ticks a_bodies x_ran x_kind x_number x_tellsV, aI G a_by 5 f_by, aI G a_s 1394 f_s, aZ G a_truths 64 f_truths]) hD hS hA [0, 1, 2, 3] rfl
      have hM := c_X12_headsFrom l G h a_s a_image a_by a_truths a_bodies x_thrown x_hasImage x_act x_spot x_end x_isWrong x_open x_turn x_lean x_last x_angle x_asLay x_ticks x_ran x_kind x_number x_tellsV f_by f_s f_truths l1 l2 l3 (1 : Int32) r8.1 r8.2.1 r8.2.2.1 r8.2.2.2.1 r8.2.2.2.2.1 r8.2.2.2.2.2.1 r8.2.2.2.2.2.2.1 r8.2.2.2.2.2.2.2.1 r8.2.2.2.2.2.2.2.2 hc9 H.size
      refine cl_i (w1 := [o12 h x_thrown a_s a_image x_hasImage x_act x_spot x_end x_isWrong x_open a_by a_truths r8.2.1 r8.2.2.1 r8.2.2.2.1 r8.2.2.2.2.1 r8.2.2.2.2.2.1 r8.2.2.2.2.2.2.1 a_bodies x_ran x_kind x_number x_tellsV, aI G a_by 5 r8.2.2.2.2.2.2.2.1, aI G a_s 1394 f_s, aZ G a_truths 64 r8.2.2.2.2.2.2.2.2]) (ws' := [o12 h x_thrown a_s a_image x_hasImage x_act x_spot x_end x_isWrong x_open a_by a_truths r8.2.1 r8.2.2.1 r8.2.2.2.1 r8.2.2.2.2.1 r8.2.2.2.2.2.1 r8.2.2.2.2.2.2.1 a_bodies x_ran x_kind x_number x_tellsV, aI G a_by 5 r8.2.2.2.2.2.2.2.1, aI G a_s 1394 f_s, aZ G a_truths 64 r8.2.2.2.2.2.2.2.2]) hP hD hS hFc [0, 1, 2, 3] rfl rfl rfl (va_runV (As := [.int l1, .int l2, .int l3, .int 1]) (rest := []) ⟨hx, hb, hml, hown, hts⟩ hM (cwV 4 hts gX12_worth_X12_headsFrom rfl rfl rfl (by decide +kernel) ⟨Nat.le_of_ble_eq_true rfl, Nat.le_of_ble_eq_true rfl⟩) (cp_V hK hE hS hPc hDc hFc (va_recv hK hPc (ci := 12) (q0 := 0) rfl rfl)) rfl rfl hl.1 rfl (lv_room (Nat.le_of_ble_eq_true rfl)) dX12_worth_50 ⟨Nat.zero_le _, Nat.zero_le _⟩) (fun H locs hP hD hS => ?_)
      refine lv_istore (lv' := [(6, .int r8.1), (5, .int ((2 * (f_s (148 + l2).toNatClampNeg)) + 1)), (0, .ref h), (1, .int l1), (2, .int l2), (3, .int l3), (4, .int l4)]) hx hb dX12_worth_53 hl (by decide) rfl (fun ls hl => ?_)
      refine lv_iload hx hb dX12_worth_55 (lv_at hl 0 rfl) ?_
      refine lv_iload hx hb dX12_worth_57 (lv_at hl 1 rfl) ?_
      refine lv_iload hx hb dX12_worth_59 (lv_at hl 0 rfl) ?_
      refine lv_isub hx hb dX12_worth_61 ?_
      refine lv_icmp_le (tgt := 70) hx hb dX12_worth_62 (by decide) (fun c10 => ?_) (fun c10 => ?_)
      · rw [if_pos c10] at hF
        refine lv_iload hx hb dX12_worth_70 (lv_at hl 1 rfl) ?_
        refine lv_iload hx hb dX12_worth_72 (lv_at hl 0 rfl) ?_
        refine lv_isub hx hb dX12_worth_74 ?_
        exact B75 _ _ _ _ _ _ _ _ _ _ _ H locs ls hP hD hS (lv_sub hl [6, 1] rfl) hF
      rw [if_neg c10] at hF
      refine lv_iload hx hb dX12_worth_65 (lv_at hl 0 rfl) ?_
      refine lv_goto (tgt := 75) hx hb dX12_worth_67 (by decide) ?_
      exact B75 _ _ _ _ _ _ _ _ _ _ _ H locs ls hP hD hS (lv_sub hl [6, 1] rfl) hF
    rw [if_pos c6] at hF
    refine lv_sipush (v := (-1002)) hx hb dX12_worth_25 (by decide) ?_
    injection hF with hz
    injection hz with hq0 hz
    injection hz with hq1 hz
    injection hz with hq2 hz
    injection hz with hq3 hz
    injection hz with hq4 hz
    injection hz with hq5 hz
    injection hz with hq6 hz
    injection hz with hq7 hz
    subst hq0
    subst hq1
    subst hq2
    subst hq3
    subst hq4
    subst hq5
    subst hq6
    subst hq7
    subst hz
    exact cm_reti hx hb hr rfl hlk hK hP hD hS dX12_worth_28
  rw [if_pos c3] at hF
  refine lv_sipush (v := (-1001)) hx hb dX12_worth_10 (by decide) ?_
  injection hF with hz
  injection hz with hq0 hz
  injection hz with hq1 hz
  injection hz with hq2 hz
  injection hz with hq3 hz
  injection hz with hq4 hz
  injection hz with hq5 hz
  injection hz with hq6 hz
  injection hz with hq7 hz
  subst hq0
  subst hq1
  subst hq2
  subst hq3
  subst hq4
  subst hq5
  subst hq6
  subst hq7
  subst hz
  exact cm_reti hx hb hr rfl hlk hK hP hD hS dX12_worth_13

/-! HeadsByHairModel.fair(II)I -/
abbrev rm_X12_fair : Room := { frames := 2, cells := 0, slots := 0, locals := 53 }
set_option maxHeartbeats 4000000 in
set_option maxRecDepth 100000 in
theorem c_X12_fair (l : Launch) (G : GG) (h : Nat) (l1 : Int32) (l2 : Int32) (z : Int32) (hF : fX12_fair l1 l2 = some (z)) : CMi l yX12_fair wsX12_fair rm_X12_fair G [] [] [.ref h, .int l1, .int l2] z := by
  refine cm_start (cc := cX12_fair) (maxL := 3) (ret := (some .int)) (Qc := fun A => QI G [] z A) (by decide +kernel) rfl (Nat.le_of_ble_eq_true rfl) ?_
  intro p e s m args below meth c A hx hb hr hlk hml hown hnm hts hA H locs hP hK hD hE hS ls hl
  have hown : s.vm.findClass RX12 = some m.cls := hown
  have hl : lv_has ls 3 [(0, .ref h), (1, .int l1), (2, .int l2)] := hl
  have lc_192 := hts (.constantLong RX12 192 (10000)) (by decide +kernel)
  revert hF
  intro hF
  unfold fX12_fair at hF
  refine lv_iload_n hx hb dX12_fair_0 rfl (lv_at hl 2 rfl) ?_
  refine lv_iconst (v := 0) hx hb dX12_fair_1 (by decide) ?_
  refine lv_iconst (v := 1) hx hb dX12_fair_2 (by decide) ?_
  obtain ⟨r1, hc2, hF⟩ := bd_some hF
  have hPc := hP.sub (ws' := []) [] rfl
  have hDc := hD.sub (ws' := []) [] (by decide) rfl
  have hFc := va_free (wc := []) hD hS hA [] rfl
  have hM := c_X12_in l G l2 (0 : Int32) (1 : Int32) r1 hc2 H.size
  refine cl_i (w1 := []) (ws' := []) hP hD hS hFc [] rfl rfl rfl (va_runS (As := [.int l2, .int 0, .int 1]) (rest := []) ⟨hx, hb, hml, hown, hts⟩ hM (va_cwS 3 hts gX12_fair_X12_in rfl rfl rfl (by decide +kernel) ⟨Nat.le_of_ble_eq_true rfl, Nat.le_of_ble_eq_true rfl⟩) (cp_S hK hE hS hPc hDc hFc) rfl rfl hl.1 rfl (lv_room (Nat.le_of_ble_eq_true rfl)) dX12_fair_3 ⟨Nat.zero_le _, Nat.zero_le _⟩) (fun H locs hP hD hS => ?_)
  refine lv_if_ne (tgt := 11) hx hb dX12_fair_6 (by decide) (fun c3 => ?_) (fun c3 => ?_)
  · rw [if_neg c3] at hF
    refine lv_iload_n hx hb dX12_fair_11 rfl (lv_at hl 1 rfl) ?_
    refine lv_iconst (v := 1) hx hb dX12_fair_12 (by decide) ?_
    refine lv_bipush (v := 99) hx hb dX12_fair_13 (by decide) ?_
    obtain ⟨r4, hc5, hF⟩ := bd_some hF
    have hPc := hP.sub (ws' := []) [] rfl
    have hDc := hD.sub (ws' := []) [] (by decide) rfl
    have hFc := va_free (wc := []) hD hS hA [] rfl
    have hM := c_X12_in l G l1 (1 : Int32) (99 : Int32) r4 hc5 H.size
    refine cl_i (w1 := []) (ws' := []) hP hD hS hFc [] rfl rfl rfl (va_runS (As := [.int l1, .int 1, .int 99]) (rest := []) ⟨hx, hb, hml, hown, hts⟩ hM (va_cwS 3 hts gX12_fair_X12_in rfl rfl rfl (by decide +kernel) ⟨Nat.le_of_ble_eq_true rfl, Nat.le_of_ble_eq_true rfl⟩) (cp_S hK hE hS hPc hDc hFc) rfl rfl hl.1 rfl (lv_room (Nat.le_of_ble_eq_true rfl)) dX12_fair_15 ⟨Nat.zero_le _, Nat.zero_le _⟩) (fun H locs hP hD hS => ?_)
    refine lv_if_eq (tgt := 39) hx hb dX12_fair_18 (by decide) (fun c6 => ?_) (fun c6 => ?_)
    · rw [if_pos c6] at hF
      refine lv_bipush (v := (-2)) hx hb dX12_fair_39 (by decide) ?_
      injection hF with hz
      subst hz
      exact cm_reti hx hb hr rfl hlk hK hP hD hS dX12_fair_41
    rw [if_neg c6] at hF
    refine lv_ldc2 hx hb hown lc_192 dX12_fair_21 ?_
    refine lv_iload_n hx hb dX12_fair_24 rfl (lv_at hl 1 rfl) ?_
    refine lv_bipush (v := 100) hx hb dX12_fair_25 (by decide) ?_
    refine W.eq (g2 := F0 m 27 ls [.int 100, .int l1, .long 10000]) rfl ?_
    refine lv_iload_n hx hb dX12_fair_27 rfl (lv_at hl 1 rfl) ?_
    refine lv_isub hx hb dX12_fair_28 ?_
    refine lv_imul hx hb dX12_fair_29 ?_
    refine lv_i2l (v := (l1 * (100 - l1)).toInt64) hx hb dX12_fair_30 rfl ?_
    refine lv_iload_n hx hb dX12_fair_31 rfl (lv_at hl 2 rfl) ?_
    obtain ⟨r7, hc8, hF⟩ := bd_some hF
    have hPc := hP.sub (ws' := []) [] rfl
    have hDc := hD.sub (ws' := []) [] (by decide) rfl
    have hFc := va_free (wc := []) hD hS hA [] rfl
    have hM := c_X12_lowest l G (10000 : Int64) ((l1 * (100 - l1)).toInt64) l2 r7 hc8 H.size
    refine cl_l (w1 := []) (ws' := []) hP hD hS hFc [] rfl rfl rfl (va_runS (As := [.long 10000, .long ((l1 * (100 - l1)).toInt64), .int l2]) (rest := []) ⟨hx, hb, hml, hown, hts⟩ hM (va_cwS 3 hts gX12_fair_X12_lowest rfl rfl rfl (by decide +kernel) ⟨Nat.le_of_ble_eq_true rfl, Nat.le_of_ble_eq_true rfl⟩) (cp_S hK hE hS hPc hDc hFc) rfl rfl hl.1 rfl (lv_room (Nat.le_of_ble_eq_true rfl)) dX12_fair_32 ⟨Nat.zero_le _, Nat.zero_le _⟩) (fun H locs hP hD hS => ?_)
    refine lv_l2i (v := r7.toInt32) hx hb dX12_fair_35 rfl ?_
    refine lv_goto (tgt := 41) hx hb dX12_fair_36 (by decide) ?_
    injection hF with hz
    subst hz
    exact cm_reti hx hb hr rfl hlk hK hP hD hS dX12_fair_41
  rw [if_pos c3] at hF
  refine lv_iconst (v := (-1)) hx hb dX12_fair_9 (by decide) ?_
  injection hF with hz
  subst hz
  exact cm_reti hx hb hr rfl hlk hK hP hD hS dX12_fair_10

/-! HeadsByHairModel.learns(IIII)I -/
abbrev rm_X12_learns : Room := { frames := 2, cells := 0, slots := 0, locals := 43 }
set_option maxHeartbeats 4000000 in
set_option maxRecDepth 100000 in
theorem c_X12_learns (l : Launch) (G : GG) (h a_s a_image a_by a_truths a_bodies : Nat) (x_thrown x_hasImage x_act x_spot x_end x_isWrong x_open x_turn x_lean x_last x_angle x_asLay x_ticks x_ran x_kind x_number x_tellsV : Int32) (f_s : Nat → Int32) (l1 : Int32) (l2 : Int32) (l3 : Int32) (l4 : Int32) (z : Int32) (hF : fX12_learns f_s l1 l2 l3 l4 = some (z)) : CMi l yX12_learns wsX12_learns rm_X12_learns G [o12 h x_thrown a_s a_image x_hasImage x_act x_spot x_end x_isWrong x_open a_by a_truths x_turn x_lean x_last x_angle x_asLay x_ticks a_bodies x_ran x_kind x_number x_tellsV, aI G a_s 1394 f_s] [o12 h x_thrown a_s a_image x_hasImage x_act x_spot x_end x_isWrong x_open a_by a_truths x_turn x_lean x_last x_angle x_asLay x_ticks a_bodies x_ran x_kind x_number x_tellsV, aI G a_s 1394 f_s] [.ref h, .int l1, .int l2, .int l3, .int l4] z := by
  refine cm_start (cc := cX12_learns) (maxL := 8) (ret := (some .int)) (Qc := fun A => QI G [o12 h x_thrown a_s a_image x_hasImage x_act x_spot x_end x_isWrong x_open a_by a_truths x_turn x_lean x_last x_angle x_asLay x_ticks a_bodies x_ran x_kind x_number x_tellsV, aI G a_s 1394 f_s] z A) (by decide +kernel) rfl (Nat.le_of_ble_eq_true rfl) ?_
  intro p e s m args below meth c A hx hb hr hlk hml hown hnm hts hA H locs hP hK hD hE hS ls hl
  have hown : s.vm.findClass RX12 = some m.cls := hown
  have hl : lv_has ls 8 [(0, .ref h), (1, .int l1), (2, .int l2), (3, .int l3), (4, .int l4)] := hl
  have hin12 : ∀ w ∈ wsX120, w ∈ wsX12_learns := by decide +kernel
  have lk_9 := hts (.fieldLink RX12 9 "HeadsByHairModel" "s" "[I") (by decide +kernel)
  revert hF
  intro hF
  unfold fX12_learns at hF
  refine lv_aload_n hx hb dX12_learns_0 rfl (lv_at hl 0 rfl) ?_
  refine lv_iload_n hx hb dX12_learns_1 rfl (lv_at hl 1 rfl) ?_
  obtain ⟨r1, hc2, hF⟩ := bd_some hF
  have hPc := hP.sub (ws' := [o12 h x_thrown a_s a_image x_hasImage x_act x_spot x_end x_isWrong x_open a_by a_truths x_turn x_lean x_last x_angle x_asLay x_ticks a_bodies x_ran x_kind x_number x_tellsV, aI G a_s 1394 f_s]) [0, 1] rfl
  have hDc := hD.sub (ws' := [o12 h x_thrown a_s a_image x_hasImage x_act x_spot x_end x_isWrong x_open a_by a_truths x_turn x_lean x_last x_angle x_asLay x_ticks a_bodies x_ran x_kind x_number x_tellsV, aI G a_s 1394 f_s]) [0, 1] (by decide) rfl
  have hFc := va_free (wc := [o12 h x_thrown a_s a_image x_hasImage x_act x_spot x_end x_isWrong x_open a_by a_truths x_turn x_lean x_last x_angle x_asLay x_ticks a_bodies x_ran x_kind x_number x_tellsV, aI G a_s 1394 f_s]) hD hS hA [0, 1] rfl
  have hM := c_X12_isHand l G h a_s a_image a_by a_truths a_bodies x_thrown x_hasImage x_act x_spot x_end x_isWrong x_open x_turn x_lean x_last x_angle x_asLay x_ticks x_ran x_kind x_number x_tellsV f_s l1 r1 hc2 H.size
  refine cl_i (w1 := [o12 h x_thrown a_s a_image x_hasImage x_act x_spot x_end x_isWrong x_open a_by a_truths x_turn x_lean x_last x_angle x_asLay x_ticks a_bodies x_ran x_kind x_number x_tellsV, aI G a_s 1394 f_s]) (ws' := [o12 h x_thrown a_s a_image x_hasImage x_act x_spot x_end x_isWrong x_open a_by a_truths x_turn x_lean x_last x_angle x_asLay x_ticks a_bodies x_ran x_kind x_number x_tellsV, aI G a_s 1394 f_s]) hP hD hS hFc [0, 1] rfl rfl rfl (va_runV (As := [.int l1]) (rest := []) ⟨hx, hb, hml, hown, hts⟩ hM (cwV 1 hts gX12_learns_X12_isHand rfl rfl rfl (by decide +kernel) ⟨Nat.le_of_ble_eq_true rfl, Nat.le_of_ble_eq_true rfl⟩) (cp_V hK hE hS hPc hDc hFc (va_recv hK hPc (ci := 12) (q0 := 0) rfl rfl)) rfl rfl hl.1 rfl (lv_room (Nat.le_of_ble_eq_true rfl)) dX12_learns_2 ⟨Nat.zero_le _, Nat.zero_le _⟩) (fun H locs hP hD hS => ?_)
  refine lv_if_eq (tgt := 18) hx hb dX12_learns_5 (by decide) (fun c3 => ?_) (fun c3 => ?_)
  · rw [if_pos c3] at hF
    refine lv_iconst (v := (-1)) hx hb dX12_learns_18 (by decide) ?_
    injection hF with hz
    subst hz
    exact cm_reti hx hb hr rfl hlk hK hP hD hS dX12_learns_19
  rw [if_neg c3] at hF
  refine lv_iload hx hb dX12_learns_8 (lv_at hl 4 rfl) ?_
  refine lv_iconst (v := 0) hx hb dX12_learns_10 (by decide) ?_
  refine lv_iconst (v := 1) hx hb dX12_learns_11 (by decide) ?_
  obtain ⟨r4, hc5, hF⟩ := bd_some hF
  have hPc := hP.sub (ws' := []) [] rfl
  have hDc := hD.sub (ws' := []) [] (by decide) rfl
  have hFc := va_free (wc := []) hD hS hA [] rfl
  have hM := c_X12_in l G l4 (0 : Int32) (1 : Int32) r4 hc5 H.size
  refine cl_i (w1 := []) (ws' := [o12 h x_thrown a_s a_image x_hasImage x_act x_spot x_end x_isWrong x_open a_by a_truths x_turn x_lean x_last x_angle x_asLay x_ticks a_bodies x_ran x_kind x_number x_tellsV, aI G a_s 1394 f_s]) hP hD hS hFc [] rfl rfl rfl (va_runS (As := [.int l4, .int 0, .int 1]) (rest := []) ⟨hx, hb, hml, hown, hts⟩ hM (va_cwS 3 hts gX12_learns_X12_in rfl rfl rfl (by decide +kernel) ⟨Nat.le_of_ble_eq_true rfl, Nat.le_of_ble_eq_true rfl⟩) (cp_S hK hE hS hPc hDc hFc) rfl rfl hl.1 rfl (lv_room (Nat.le_of_ble_eq_true rfl)) dX12_learns_12 ⟨Nat.zero_le _, Nat.zero_le _⟩) (fun H locs hP hD hS => ?_)
  refine lv_if_ne (tgt := 20) hx hb dX12_learns_15 (by decide) (fun c6 => ?_) (fun c6 => ?_)
  · rw [if_neg c6] at hF
    refine lv_iload_n hx hb dX12_learns_20 rfl (lv_at hl 2 rfl) ?_
    refine lv_iconst (v := 0) hx hb dX12_learns_21 (by decide) ?_
    refine lv_bipush (v := 9) hx hb dX12_learns_22 (by decide) ?_
    obtain ⟨r7, hc8, hF⟩ := bd_some hF
    have hPc := hP.sub (ws' := []) [] rfl
    have hDc := hD.sub (ws' := []) [] (by decide) rfl
    have hFc := va_free (wc := []) hD hS hA [] rfl
    have hM := c_X12_in l G l2 (0 : Int32) (9 : Int32) r7 hc8 H.size
    refine cl_i (w1 := []) (ws' := [o12 h x_thrown a_s a_image x_hasImage x_act x_spot x_end x_isWrong x_open a_by a_truths x_turn x_lean x_last x_angle x_asLay x_ticks a_bodies x_ran x_kind x_number x_tellsV, aI G a_s 1394 f_s]) hP hD hS hFc [] rfl rfl rfl (va_runS (As := [.int l2, .int 0, .int 9]) (rest := []) ⟨hx, hb, hml, hown, hts⟩ hM (va_cwS 3 hts gX12_learns_X12_in rfl rfl rfl (by decide +kernel) ⟨Nat.le_of_ble_eq_true rfl, Nat.le_of_ble_eq_true rfl⟩) (cp_S hK hE hS hPc hDc hFc) rfl rfl hl.1 rfl (lv_room (Nat.le_of_ble_eq_true rfl)) dX12_learns_24 ⟨Nat.zero_le _, Nat.zero_le _⟩) (fun H locs hP hD hS => ?_)
    refine W.eq (g2 := F0 m 27 ls [.int r7]) rfl ?_
    refine lv_if_eq (tgt := 40) hx hb dX12_learns_27 (by decide) (fun c9 => ?_) (fun c9 => ?_)
    · rw [if_pos c9] at hF
      refine lv_bipush (v := (-2)) hx hb dX12_learns_40 (by decide) ?_
      injection hF with hz
      subst hz
      exact cm_reti hx hb hr rfl hlk hK hP hD hS dX12_learns_42
    rw [if_neg c9] at hF
    refine lv_iload_n hx hb dX12_learns_30 rfl (lv_at hl 3 rfl) ?_
    refine lv_iconst (v := 0) hx hb dX12_learns_31 (by decide) ?_
    refine lv_bipush (v := 9) hx hb dX12_learns_32 (by decide) ?_
    obtain ⟨r10, hc11, hF⟩ := bd_some hF
    have hPc := hP.sub (ws' := []) [] rfl
    have hDc := hD.sub (ws' := []) [] (by decide) rfl
    have hFc := va_free (wc := []) hD hS hA [] rfl
    have hM := c_X12_in l G l3 (0 : Int32) (9 : Int32) r10 hc11 H.size
    refine cl_i (w1 := []) (ws' := [o12 h x_thrown a_s a_image x_hasImage x_act x_spot x_end x_isWrong x_open a_by a_truths x_turn x_lean x_last x_angle x_asLay x_ticks a_bodies x_ran x_kind x_number x_tellsV, aI G a_s 1394 f_s]) hP hD hS hFc [] rfl rfl rfl (va_runS (As := [.int l3, .int 0, .int 9]) (rest := []) ⟨hx, hb, hml, hown, hts⟩ hM (va_cwS 3 hts gX12_learns_X12_in rfl rfl rfl (by decide +kernel) ⟨Nat.le_of_ble_eq_true rfl, Nat.le_of_ble_eq_true rfl⟩) (cp_S hK hE hS hPc hDc hFc) rfl rfl hl.1 rfl (lv_room (Nat.le_of_ble_eq_true rfl)) dX12_learns_34 ⟨Nat.zero_le _, Nat.zero_le _⟩) (fun H locs hP hD hS => ?_)
    refine lv_if_ne (tgt := 43) hx hb dX12_learns_37 (by decide) (fun c12 => ?_) (fun c12 => ?_)
    · rw [if_neg c12] at hF
      refine lv_aload_n hx hb dX12_learns_43 rfl (lv_at hl 0 rfl) ?_
      refine lv_sipush (v := 154) hx hb dX12_learns_44 (by decide) ?_
      refine lv_iload_n hx hb dX12_learns_47 rfl (lv_at hl 1 rfl) ?_
      obtain ⟨r13, hc14, hF⟩ := bd_some hF
      have hPc := hP.sub (ws' := [o12 h x_thrown a_s a_image x_hasImage x_act x_spot x_end x_isWrong x_open a_by a_truths x_turn x_lean x_last x_angle x_asLay x_ticks a_bodies x_ran x_kind x_number x_tellsV, aI G a_s 1394 f_s]) [0, 1] rfl
      have hDc := hD.sub (ws' := [o12 h x_thrown a_s a_image x_hasImage x_act x_spot x_end x_isWrong x_open a_by a_truths x_turn x_lean x_last x_angle x_asLay x_ticks a_bodies x_ran x_kind x_number x_tellsV, aI G a_s 1394 f_s]) [0, 1] (by decide) rfl
      have hFc := va_free (wc := [o12 h x_thrown a_s a_image x_hasImage x_act x_spot x_end x_isWrong x_open a_by a_truths x_turn x_lean x_last x_angle x_asLay x_ticks a_bodies x_ran x_kind x_number x_tellsV, aI G a_s 1394 f_s]) hD hS hA [0, 1] rfl
      have hM := c_X12_allOf l G h a_s a_image a_by a_truths a_bodies x_thrown x_hasImage x_act x_spot x_end x_isWrong x_open x_turn x_lean x_last x_angle x_asLay x_ticks x_ran x_kind x_number x_tellsV f_s (154 : Int32) l1 r13 hc14 H.size
      refine cl_i (w1 := [o12 h x_thrown a_s a_image x_hasImage x_act x_spot x_end x_isWrong x_open a_by a_truths x_turn x_lean x_last x_angle x_asLay x_ticks a_bodies x_ran x_kind x_number x_tellsV, aI G a_s 1394 f_s]) (ws' := [o12 h x_thrown a_s a_image x_hasImage x_act x_spot x_end x_isWrong x_open a_by a_truths x_turn x_lean x_last x_angle x_asLay x_ticks a_bodies x_ran x_kind x_number x_tellsV, aI G a_s 1394 f_s]) hP hD hS hFc [0, 1] rfl rfl rfl (va_runV (As := [.int 154, .int l1]) (rest := []) ⟨hx, hb, hml, hown, hts⟩ hM (cwV 2 hts gX12_learns_X12_allOf rfl rfl rfl (by decide +kernel) ⟨Nat.le_of_ble_eq_true rfl, Nat.le_of_ble_eq_true rfl⟩) (cp_V hK hE hS hPc hDc hFc (va_recv hK hPc (ci := 12) (q0 := 0) rfl rfl)) rfl rfl hl.1 rfl (lv_room (Nat.le_of_ble_eq_true rfl)) dX12_learns_48 ⟨Nat.zero_le _, Nat.zero_le _⟩) (fun H locs hP hD hS => ?_)
      refine lv_bipush (v := 100) hx hb dX12_learns_51 (by decide) ?_
      refine lv_idiv hx hb dX12_learns_53 (by decide) ?_
      refine lv_istore (lv' := [(5, .int (r13 / 100)), (0, .ref h), (1, .int l1), (2, .int l2), (3, .int l3), (4, .int l4)]) hx hb dX12_learns_54 hl (by decide) rfl (fun ls hl => ?_)
      refine lv_aload_n hx hb dX12_learns_56 rfl (lv_at hl 1 rfl) ?_
      refine W.eq (g2 := F0 m 57 ls [.ref h]) rfl ?_
      refine va_get (D := G.1) (ci := 12) (v := .ref a_s) (C := RX12) (T := TX12) (N := 22) hx hb hts hin12 hown hK hP 0 rfl rfl 1 (by decide) lk_9 (fun _ h9 => h9) rfl dX12_learns_57 ?_
      refine lv_sipush (v := 142) hx hb dX12_learns_60 (by decide) ?_
      refine lv_iload_n hx hb dX12_learns_63 rfl (lv_at hl 2 rfl) ?_
      refine lv_iadd hx hb dX12_learns_64 ?_
      obtain ⟨hi15, hF⟩ := ck_some hF
      refine va_iald (D := G.1) hx hb hK hP 1 0 rfl rfl hi15 dX12_learns_65 ?_
      refine lv_iload_n hx hb dX12_learns_66 rfl (lv_at hl 3 rfl) ?_
      refine lv_iload hx hb dX12_learns_67 (lv_at hl 0 rfl) ?_
      refine lv_imul hx hb dX12_learns_69 ?_
      refine lv_iadd hx hb dX12_learns_70 ?_
      refine lv_istore (lv' := [(6, .int ((f_s (142 + l1).toNatClampNeg) + (l2 * (r13 / 100)))), (5, .int (r13 / 100)), (0, .ref h), (1, .int l1), (2, .int l2), (3, .int l3), (4, .int l4)]) hx hb dX12_learns_71 hl (by decide) rfl (fun ls hl => ?_)
      refine lv_aload_n hx hb dX12_learns_73 rfl (lv_at hl 2 rfl) ?_
      refine va_get (D := G.1) (ci := 12) (v := .ref a_s) (C := RX12) (T := TX12) (N := 22) hx hb hts hin12 hown hK hP 0 rfl rfl 1 (by decide) lk_9 (fun _ h9 => h9) rfl dX12_learns_74 ?_
      refine lv_sipush (v := 148) hx hb dX12_learns_77 (by decide) ?_
      refine lv_iload_n hx hb dX12_learns_80 rfl (lv_at hl 3 rfl) ?_
      refine W.eq (g2 := F0 m 81 ls [.int l1, .int 148, .ref a_s]) rfl ?_
      refine lv_iadd hx hb dX12_learns_81 ?_
      obtain ⟨hi16, hF⟩ := ck_some hF
      refine va_iald (D := G.1) hx hb hK hP 1 0 rfl rfl hi16 dX12_learns_82 ?_
      refine lv_iload_n hx hb dX12_learns_83 rfl (lv_at hl 5 rfl) ?_
      refine lv_iload hx hb dX12_learns_84 (lv_at hl 1 rfl) ?_
      refine lv_imul hx hb dX12_learns_86 ?_
      refine lv_isub hx hb dX12_learns_87 ?_
      refine lv_istore (lv' := [(7, .int ((f_s (148 + l1).toNatClampNeg) - (l3 * (r13 / 100)))), (6, .int ((f_s (142 + l1).toNatClampNeg) + (l2 * (r13 / 100)))), (5, .int (r13 / 100)), (0, .ref h), (1, .int l1), (2, .int l2), (3, .int l3), (4, .int l4)]) hx hb dX12_learns_88 hl (by decide) rfl (fun ls hl => ?_)
      refine lv_iload hx hb dX12_learns_90 (lv_at hl 7 rfl) ?_
      refine lv_if_ne (tgt := 112) hx hb dX12_learns_92 (by decide) (fun c17 => ?_) (fun c17 => ?_)
      · rw [if_neg c17] at hF
        refine lv_iload hx hb dX12_learns_112 (lv_at hl 0 rfl) ?_
        refine lv_if_ge (tgt := 121) hx hb dX12_learns_114 (by decide) (fun c18 => ?_) (fun c18 => ?_)
        · rw [if_pos c18] at hF
          refine lv_iload hx hb dX12_learns_121 (lv_at hl 0 rfl) ?_
          injection hF with hz
          subst hz
          exact cm_reti hx hb hr rfl hlk hK hP hD hS dX12_learns_123
        rw [if_neg c18] at hF
        refine lv_iconst (v := 0) hx hb dX12_learns_117 (by decide) ?_
        refine lv_goto (tgt := 123) hx hb dX12_learns_118 (by decide) ?_
        injection hF with hz
        subst hz
        exact cm_reti hx hb hr rfl hlk hK hP hD hS dX12_learns_123
      rw [if_pos c17] at hF
      refine lv_iload hx hb dX12_learns_95 (lv_at hl 1 rfl) ?_
      refine lv_bipush (v := 30) hx hb dX12_learns_97 (by decide) ?_
      refine lv_icmp_le (tgt := 107) hx hb dX12_learns_99 (by decide) (fun c19 => ?_) (fun c19 => ?_)
      · rw [if_pos c19] at hF
        refine lv_iload hx hb dX12_learns_107 (lv_at hl 1 rfl) ?_
        refine lv_goto (tgt := 123) hx hb dX12_learns_109 (by decide) ?_
        refine W.eq (g2 := F0 m 123 ls [.int ((f_s (142 + l1).toNatClampNeg) + (l2 * (r13 / 100)))]) rfl ?_
        injection hF with hz
        subst hz
        exact cm_reti hx hb hr rfl hlk hK hP hD hS dX12_learns_123
      rw [if_neg c19] at hF
      refine lv_bipush (v := 30) hx hb dX12_learns_102 (by decide) ?_
      refine lv_goto (tgt := 123) hx hb dX12_learns_104 (by decide) ?_
      refine W.eq (g2 := F0 m 123 ls [.int 30]) rfl ?_
      injection hF with hz
      subst hz
      exact cm_reti hx hb hr rfl hlk hK hP hD hS dX12_learns_123
    rw [if_pos c12] at hF
    refine lv_bipush (v := (-2)) hx hb dX12_learns_40 (by decide) ?_
    injection hF with hz
    subst hz
    exact cm_reti hx hb hr rfl hlk hK hP hD hS dX12_learns_42
  rw [if_pos c6] at hF
  refine lv_iconst (v := (-1)) hx hb dX12_learns_18 (by decide) ?_
  injection hF with hz
  subst hz
  exact cm_reti hx hb hr rfl hlk hK hP hD hS dX12_learns_19

/-! HeadsByHairModel.ranBody(I)V -/
abbrev rm_X12_ranBody : Room := { frames := 0, cells := 0, slots := 0, locals := 0 }
set_option maxHeartbeats 4000000 in
set_option maxRecDepth 100000 in
theorem c_X12_ranBody (l : Launch) (G : GG) (h a_s a_image a_by a_truths a_bodies : Nat) (x_thrown x_hasImage x_act x_spot x_end x_isWrong x_open x_turn x_lean x_last x_angle x_asLay x_ticks x_ran x_kind x_number x_tellsV : Int32) (f_bodies : Nat → Int32) (l1 : Int32) (z_x_ran : Int32) (z_f_bodies : Nat → Int32) (hF : fX12_ranBody x_ran f_bodies l1 = some (z_x_ran, z_f_bodies)) : CMv l yX12_ranBody wsX12_ranBody rm_X12_ranBody G [o12 h x_thrown a_s a_image x_hasImage x_act x_spot x_end x_isWrong x_open a_by a_truths x_turn x_lean x_last x_angle x_asLay x_ticks a_bodies x_ran x_kind x_number x_tellsV, aI G a_bodies 20 f_bodies] [o12 h x_thrown a_s a_image x_hasImage x_act x_spot x_end x_isWrong x_open a_by a_truths x_turn x_lean x_last x_angle x_asLay x_ticks a_bodies z_x_ran x_kind x_number x_tellsV, aI G a_bodies 20 z_f_bodies] [.ref h, .int l1] := by
  refine cm_start (cc := cX12_ranBody) (maxL := 2) (ret := none) (Qc := fun A => QV G [o12 h x_thrown a_s a_image x_hasImage x_act x_spot x_end x_isWrong x_open a_by a_truths x_turn x_lean x_last x_angle x_asLay x_ticks a_bodies z_x_ran x_kind x_number x_tellsV, aI G a_bodies 20 z_f_bodies] A) (by decide +kernel) rfl (Nat.le_of_ble_eq_true rfl) ?_
  intro p e s m args below meth c A hx hb hr hlk hml hown hnm hts hA H locs hP hK hD hE hS ls hl
  have hown : s.vm.findClass RX12 = some m.cls := hown
  have hl : lv_has ls 2 [(0, .ref h), (1, .int l1)] := hl
  have hin12 : ∀ w ∈ wsX120, w ∈ wsX12_ranBody := by decide +kernel
  have lk_194 := hts (.fieldLink RX12 194 "HeadsByHairModel" "ran" "I") (by decide +kernel)
  have lk_25 := hts (.fieldLink RX12 25 "HeadsByHairModel" "bodies" "[I") (by decide +kernel)
  revert hF
  intro hF
  unfold fX12_ranBody at hF
  refine lv_aload_n hx hb dX12_ranBody_0 rfl (lv_at hl 0 rfl) ?_
  refine va_get (D := G.1) (ci := 12) (v := .int x_ran) (C := RX12) (T := TX12) (N := 22) hx hb hts hin12 hown hK hP 0 rfl rfl 18 (by decide) lk_194 (fun _ h9 => h9) rfl dX12_ranBody_1 ?_
  refine lv_bipush (v := 20) hx hb dX12_ranBody_4 (by decide) ?_
  refine lv_icmp_ge (tgt := 19) hx hb dX12_ranBody_6 (by decide) (fun c1 => ?_) (fun c1 => ?_)
  · rw [if_pos c1] at hF
    refine lv_aload_n hx hb dX12_ranBody_19 rfl (lv_at hl 0 rfl) ?_
    refine lv_dup hx hb dX12_ranBody_20 rfl ?_
    refine va_get (D := G.1) (ci := 12) (v := .int x_ran) (C := RX12) (T := TX12) (N := 22) hx hb hts hin12 hown hK hP 0 rfl rfl 18 (by decide) lk_194 (fun _ h9 => h9) rfl dX12_ranBody_21 ?_
    refine lv_iconst (v := 1) hx hb dX12_ranBody_24 (by decide) ?_
    refine lv_iadd hx hb dX12_ranBody_25 ?_
    refine va_put (D := G.1) (ci := 12) (v := .int (x_ran + 1)) (ty := .int) (C := RX12) (T := TX12) (N := 22) hx hb hts hin12 tyX12 tyX12_ok nmX12 hown hK hP hD hS 0 rfl rfl 18 (by decide) lk_194 (fun _ h9 => h9) rfl (tyX12_ok 18 (by decide)) rfl rfl (Nat.le_of_ble_eq_true rfl) dX12_ranBody_26 (fun H locs hP hD hS => ?_)
    have hP : va_P G.1 vwCl [o12 h x_thrown a_s a_image x_hasImage x_act x_spot x_end x_isWrong x_open a_by a_truths x_turn x_lean x_last x_angle x_asLay x_ticks a_bodies (x_ran + 1) x_kind x_number x_tellsV, aI G a_bodies 20 f_bodies] H := hP
    have hD : va_D A [o12 h x_thrown a_s a_image x_hasImage x_act x_spot x_end x_isWrong x_open a_by a_truths x_turn x_lean x_last x_angle x_asLay x_ticks a_bodies (x_ran + 1) x_kind x_number x_tellsV, aI G a_bodies 20 f_bodies] := hD
    injection hF with hz
    injection hz with hq0 hz
    subst hq0
    subst hz
    exact cm_retv hx hb hr hlk hK hP hD hS dX12_ranBody_29
  rw [if_neg c1] at hF
  refine lv_aload_n hx hb dX12_ranBody_9 rfl (lv_at hl 0 rfl) ?_
  refine va_get (D := G.1) (ci := 12) (v := .ref a_bodies) (C := RX12) (T := TX12) (N := 22) hx hb hts hin12 hown hK hP 0 rfl rfl 17 (by decide) lk_25 (fun _ h9 => h9) rfl dX12_ranBody_10 ?_
  refine lv_aload_n hx hb dX12_ranBody_13 rfl (lv_at hl 0 rfl) ?_
  refine va_get (D := G.1) (ci := 12) (v := .int x_ran) (C := RX12) (T := TX12) (N := 22) hx hb hts hin12 hown hK hP 0 rfl rfl 18 (by decide) lk_194 (fun _ h9 => h9) rfl dX12_ranBody_14 ?_
  refine lv_iload_n hx hb dX12_ranBody_17 rfl (lv_at hl 1 rfl) ?_
  obtain ⟨hi2, hF⟩ := ck_some hF
  refine va_iast (D := G.1) hx hb hK hP hD hS 1 0 rfl rfl hi2 dX12_ranBody_18 (fun H locs hP hD hS => ?_)
  have hP : va_P G.1 vwCl [o12 h x_thrown a_s a_image x_hasImage x_act x_spot x_end x_isWrong x_open a_by a_truths x_turn x_lean x_last x_angle x_asLay x_ticks a_bodies x_ran x_kind x_number x_tellsV, aI G a_bodies 20 (upd f_bodies x_ran.toNatClampNeg l1)] H := hP
  have hD : va_D A [o12 h x_thrown a_s a_image x_hasImage x_act x_spot x_end x_isWrong x_open a_by a_truths x_turn x_lean x_last x_angle x_asLay x_ticks a_bodies x_ran x_kind x_number x_tellsV, aI G a_bodies 20 (upd f_bodies x_ran.toNatClampNeg l1)] := hD
  refine lv_aload_n hx hb dX12_ranBody_19 rfl (lv_at hl 0 rfl) ?_
  refine lv_dup hx hb dX12_ranBody_20 rfl ?_
  refine va_get (D := G.1) (ci := 12) (v := .int x_ran) (C := RX12) (T := TX12) (N := 22) hx hb hts hin12 hown hK hP 0 rfl rfl 18 (by decide) lk_194 (fun _ h9 => h9) rfl dX12_ranBody_21 ?_
  refine W.eq (g2 := F0 m 24 ls [.int x_ran, .ref h]) rfl ?_
  refine lv_iconst (v := 1) hx hb dX12_ranBody_24 (by decide) ?_
  refine lv_iadd hx hb dX12_ranBody_25 ?_
  refine va_put (D := G.1) (ci := 12) (v := .int (x_ran + 1)) (ty := .int) (C := RX12) (T := TX12) (N := 22) hx hb hts hin12 tyX12 tyX12_ok nmX12 hown hK hP hD hS 0 rfl rfl 18 (by decide) lk_194 (fun _ h9 => h9) rfl (tyX12_ok 18 (by decide)) rfl rfl (Nat.le_of_ble_eq_true rfl) dX12_ranBody_26 (fun H locs hP hD hS => ?_)
  have hP : va_P G.1 vwCl [o12 h x_thrown a_s a_image x_hasImage x_act x_spot x_end x_isWrong x_open a_by a_truths x_turn x_lean x_last x_angle x_asLay x_ticks a_bodies (x_ran + 1) x_kind x_number x_tellsV, aI G a_bodies 20 (upd f_bodies x_ran.toNatClampNeg l1)] H := hP
  have hD : va_D A [o12 h x_thrown a_s a_image x_hasImage x_act x_spot x_end x_isWrong x_open a_by a_truths x_turn x_lean x_last x_angle x_asLay x_ticks a_bodies (x_ran + 1) x_kind x_number x_tellsV, aI G a_bodies 20 (upd f_bodies x_ran.toNatClampNeg l1)] := hD
  injection hF with hz
  injection hz with hq0 hz
  subst hq0
  subst hz
  exact cm_retv hx hb hr hlk hK hP hD hS dX12_ranBody_29

/-! HeadsByHairModel.isUnder(II)Z -/
abbrev rm_X12_isUnder : Room := { frames := 0, cells := 0, slots := 0, locals := 0 }
set_option maxHeartbeats 4000000 in
set_option maxRecDepth 100000 in
theorem c_X12_isUnder (l : Launch) (G : GG) (l0 : Int32) (l1 : Int32) (z : Int32) (hF : fX12_isUnder l0 l1 = some (z)) : CMi l yX12_isUnder wsX12_isUnder rm_X12_isUnder G [] [] [.int l0, .int l1] z := by
  refine cm_start (cc := cX12_isUnder) (maxL := 2) (ret := (some .boolean)) (Qc := fun A => QI G [] z A) (by decide +kernel) rfl (Nat.le_of_ble_eq_true rfl) ?_
  intro p e s m args below meth c A hx hb hr hlk hml hown hnm hts hA H locs hP hK hD hE hS ls hl
  have hown : s.vm.findClass RX12 = some m.cls := hown
  have hl : lv_has ls 2 [(0, .int l0), (1, .int l1)] := hl
  revert hF
  have B36 : ∀ (l0 : Int32) (l1 : Int32) (H : Heap) (locs : List Loc) (ls : Array Slot), va_P G.1 vwCl [] H → va_D A [] → va_S A s.heap H locs → lv_has ls 2 [(0, .int l0), (1, .int l1)] → fX12_isUnder_b36 l0 l1 = some (z) → W p l e (rm_X12_isUnder) s m args below meth c H locs 0 0 (MQ below (QI G [] z A) args s 0 0 A) (F0 m 36 ls []) := by
    intro l0 l1 H locs ls hP hD hS hl hF
    unfold fX12_isUnder_b36 at hF
    refine lv_iload_n hx hb dX12_isUnder_36 rfl (lv_at hl 1 rfl) ?_
    refine lv_iconst (v := 3) hx hb dX12_isUnder_37 (by decide) ?_
    refine lv_icmp_ne (tgt := 50) hx hb dX12_isUnder_38 (by decide) (fun c5 => ?_) (fun c5 => ?_)
    · rw [if_neg c5] at hF
      refine lv_iconst (v := 0) hx hb dX12_isUnder_50 (by decide) ?_
      injection hF with hz
      subst hz
      exact cm_reti hx hb hr (by decide) hlk hK hP hD hS dX12_isUnder_51
    rw [if_pos c5] at hF
    refine lv_iload_n hx hb dX12_isUnder_41 rfl (lv_at hl 0 rfl) ?_
    refine lv_iconst (v := 4) hx hb dX12_isUnder_42 (by decide) ?_
    refine lv_icmp_ne (tgt := 50) hx hb dX12_isUnder_43 (by decide) (fun c6 => ?_) (fun c6 => ?_)
    · rw [if_neg c6] at hF
      refine lv_iconst (v := 0) hx hb dX12_isUnder_50 (by decide) ?_
      injection hF with hz
      subst hz
      exact cm_reti hx hb hr (by decide) hlk hK hP hD hS dX12_isUnder_51
    rw [if_pos c6] at hF
    refine lv_iconst (v := 1) hx hb dX12_isUnder_46 (by decide) ?_
    refine lv_goto (tgt := 51) hx hb dX12_isUnder_47 (by decide) ?_
    injection hF with hz
    subst hz
    exact cm_reti hx hb hr (by decide) hlk hK hP hD hS dX12_isUnder_51
  have B25 : ∀ (l0 : Int32) (l1 : Int32) (H : Heap) (locs : List Loc) (ls : Array Slot), va_P G.1 vwCl [] H → va_D A [] → va_S A s.heap H locs → lv_has ls 2 [(0, .int l0), (1, .int l1)] → fX12_isUnder_b25 l0 l1 = some (z) → W p l e (rm_X12_isUnder) s m args below meth c H locs 0 0 (MQ below (QI G [] z A) args s 0 0 A) (F0 m 25 ls []) := by
    intro l0 l1 H locs ls hP hD hS hl hF
    unfold fX12_isUnder_b25 at hF
    refine lv_iload_n hx hb dX12_isUnder_25 rfl (lv_at hl 1 rfl) ?_
    refine lv_iconst (v := 2) hx hb dX12_isUnder_26 (by decide) ?_
    refine lv_icmp_ne (tgt := 36) hx hb dX12_isUnder_27 (by decide) (fun c4 => ?_) (fun c4 => ?_)
    · rw [if_neg c4] at hF
      exact B36 _ _ H locs ls hP hD hS (lv_sub hl [0, 1] rfl) hF
    rw [if_pos c4] at hF
    refine lv_iload_n hx hb dX12_isUnder_30 rfl (lv_at hl 0 rfl) ?_
    refine lv_bipush (v := 6) hx hb dX12_isUnder_31 (by decide) ?_
    refine lv_icmp_eq (tgt := 46) hx hb dX12_isUnder_33 (by decide) (fun c7 => ?_) (fun c7 => ?_)
    · rw [if_pos c7] at hF
      refine lv_iconst (v := 1) hx hb dX12_isUnder_46 (by decide) ?_
      refine lv_goto (tgt := 51) hx hb dX12_isUnder_47 (by decide) ?_
      injection hF with hz
      subst hz
      exact cm_reti hx hb hr (by decide) hlk hK hP hD hS dX12_isUnder_51
    rw [if_neg c7] at hF
    exact B36 _ _ H locs ls hP hD hS (lv_sub hl [0, 1] rfl) hF
  intro hF
  unfold fX12_isUnder at hF
  refine lv_iload_n hx hb dX12_isUnder_0 rfl (lv_at hl 1 rfl) ?_
  refine lv_if_eq (tgt := 46) hx hb dX12_isUnder_1 (by decide) (fun c1 => ?_) (fun c1 => ?_)
  · rw [if_pos c1] at hF
    refine lv_iconst (v := 1) hx hb dX12_isUnder_46 (by decide) ?_
    refine lv_goto (tgt := 51) hx hb dX12_isUnder_47 (by decide) ?_
    injection hF with hz
    subst hz
    exact cm_reti hx hb hr (by decide) hlk hK hP hD hS dX12_isUnder_51
  rw [if_neg c1] at hF
  refine lv_iload_n hx hb dX12_isUnder_4 rfl (lv_at hl 1 rfl) ?_
  refine lv_iload_n hx hb dX12_isUnder_5 rfl (lv_at hl 0 rfl) ?_
  refine lv_icmp_eq (tgt := 46) hx hb dX12_isUnder_6 (by decide) (fun c2 => ?_) (fun c2 => ?_)
  · rw [if_pos c2] at hF
    refine lv_iconst (v := 1) hx hb dX12_isUnder_46 (by decide) ?_
    refine lv_goto (tgt := 51) hx hb dX12_isUnder_47 (by decide) ?_
    injection hF with hz
    subst hz
    exact cm_reti hx hb hr (by decide) hlk hK hP hD hS dX12_isUnder_51
  rw [if_neg c2] at hF
  refine lv_iload_n hx hb dX12_isUnder_9 rfl (lv_at hl 1 rfl) ?_
  refine lv_iconst (v := 1) hx hb dX12_isUnder_10 (by decide) ?_
  refine lv_icmp_ne (tgt := 25) hx hb dX12_isUnder_11 (by decide) (fun c3 => ?_) (fun c3 => ?_)
  · rw [if_neg c3] at hF
    exact B25 _ _ H locs ls hP hD hS (lv_sub hl [0, 1] rfl) hF
  rw [if_pos c3] at hF
  refine lv_iload_n hx hb dX12_isUnder_14 rfl (lv_at hl 0 rfl) ?_
  refine lv_iconst (v := 2) hx hb dX12_isUnder_15 (by decide) ?_
  refine lv_icmp_eq (tgt := 46) hx hb dX12_isUnder_16 (by decide) (fun c8 => ?_) (fun c8 => ?_)
  · rw [if_pos c8] at hF
    refine lv_iconst (v := 1) hx hb dX12_isUnder_46 (by decide) ?_
    refine lv_goto (tgt := 51) hx hb dX12_isUnder_47 (by decide) ?_
    refine W.eq (g2 := F0 m 51 ls [.int 1]) rfl ?_
    injection hF with hz
    subst hz
    exact cm_reti hx hb hr (by decide) hlk hK hP hD hS dX12_isUnder_51
  rw [if_neg c8] at hF
  refine lv_iload_n hx hb dX12_isUnder_19 rfl (lv_at hl 0 rfl) ?_
  refine lv_bipush (v := 6) hx hb dX12_isUnder_20 (by decide) ?_
  refine W.eq (g2 := F0 m 22 ls [.int 6, .int l0]) rfl ?_
  refine lv_icmp_eq (tgt := 46) hx hb dX12_isUnder_22 (by decide) (fun c9 => ?_) (fun c9 => ?_)
  · rw [if_pos c9] at hF
    refine lv_iconst (v := 1) hx hb dX12_isUnder_46 (by decide) ?_
    refine lv_goto (tgt := 51) hx hb dX12_isUnder_47 (by decide) ?_
    injection hF with hz
    subst hz
    exact cm_reti hx hb hr (by decide) hlk hK hP hD hS dX12_isUnder_51
  rw [if_neg c9] at hF
  exact B25 _ _ H locs ls hP hD hS (lv_sub hl [0, 1] rfl) hF

/-! HeadsByHairModel.plainTurns(I)I -/
abbrev rm_X12_plainTurns : Room := { frames := 1, cells := 0, slots := 0, locals := 21 }
set_option maxHeartbeats 4000000 in
set_option maxRecDepth 100000 in
theorem c_X12_plainTurns (l : Launch) (G : GG) (h a_s a_image a_by a_truths a_bodies : Nat) (x_thrown x_hasImage x_act x_spot x_end x_isWrong x_open x_turn x_lean x_last x_angle x_asLay x_ticks x_ran x_kind x_number x_tellsV : Int32) (f_bodies : Nat → Int32) (l1 : Int32) (z : Int32) (z_x_ran : Int32) (z_f_bodies : Nat → Int32) (hF : fX12_plainTurns x_ran x_number f_bodies l1 = some (z, z_x_ran, z_f_bodies)) : CMi l yX12_plainTurns wsX12_plainTurns rm_X12_plainTurns G [o12 h x_thrown a_s a_image x_hasImage x_act x_spot x_end x_isWrong x_open a_by a_truths x_turn x_lean x_last x_angle x_asLay x_ticks a_bodies x_ran x_kind x_number x_tellsV, aI G a_bodies 20 f_bodies] [o12 h x_thrown a_s a_image x_hasImage x_act x_spot x_end x_isWrong x_open a_by a_truths x_turn x_lean x_last x_angle x_asLay x_ticks a_bodies z_x_ran x_kind x_number x_tellsV, aI G a_bodies 20 z_f_bodies] [.ref h, .int l1] z := by
  refine cm_start (cc := cX12_plainTurns) (maxL := 2) (ret := (some .int)) (Qc := fun A => QI G [o12 h x_thrown a_s a_image x_hasImage x_act x_spot x_end x_isWrong x_open a_by a_truths x_turn x_lean x_last x_angle x_asLay x_ticks a_bodies z_x_ran x_kind x_number x_tellsV, aI G a_bodies 20 z_f_bodies] z A) (by decide +kernel) rfl (Nat.le_of_ble_eq_true rfl) ?_
  intro p e s m args below meth c A hx hb hr hlk hml hown hnm hts hA H locs hP hK hD hE hS ls hl
  have hown : s.vm.findClass RX12 = some m.cls := hown
  have hl : lv_has ls 2 [(0, .ref h), (1, .int l1)] := hl
  have hin12 : ∀ w ∈ wsX120, w ∈ wsX12_plainTurns := by decide +kernel
  have lk_200 := hts (.fieldLink RX12 200 "HeadsByHairModel" "number" "I") (by decide +kernel)
  revert hF
  intro hF
  unfold fX12_plainTurns at hF
  refine lv_aload_n hx hb dX12_plainTurns_0 rfl (lv_at hl 0 rfl) ?_
  refine lv_iconst (v := 1) hx hb dX12_plainTurns_1 (by decide) ?_
  obtain ⟨r1, hc2, hF⟩ := bd_some hF
  have hPc := hP.sub (ws' := [o12 h x_thrown a_s a_image x_hasImage x_act x_spot x_end x_isWrong x_open a_by a_truths x_turn x_lean x_last x_angle x_asLay x_ticks a_bodies x_ran x_kind x_number x_tellsV, aI G a_bodies 20 f_bodies]) [0, 1] rfl
  have hDc := hD.sub (ws' := [o12 h x_thrown a_s a_image x_hasImage x_act x_spot x_end x_isWrong x_open a_by a_truths x_turn x_lean x_last x_angle x_asLay x_ticks a_bodies x_ran x_kind x_number x_tellsV, aI G a_bodies 20 f_bodies]) [0, 1] (by decide) rfl
  have hFc := va_free (wc := [o12 h x_thrown a_s a_image x_hasImage x_act x_spot x_end x_isWrong x_open a_by a_truths x_turn x_lean x_last x_angle x_asLay x_ticks a_bodies x_ran x_kind x_number x_tellsV, aI G a_bodies 20 f_bodies]) hD hS hA [0, 1] rfl
  have hM := c_X12_ranBody l G h a_s a_image a_by a_truths a_bodies x_thrown x_hasImage x_act x_spot x_end x_isWrong x_open x_turn x_lean x_last x_angle x_asLay x_ticks x_ran x_kind x_number x_tellsV f_bodies (1 : Int32) r1.1 r1.2 hc2 H.size
  refine cl_v (w1 := [o12 h x_thrown a_s a_image x_hasImage x_act x_spot x_end x_isWrong x_open a_by a_truths x_turn x_lean x_last x_angle x_asLay x_ticks a_bodies r1.1 x_kind x_number x_tellsV, aI G a_bodies 20 r1.2]) (ws' := [o12 h x_thrown a_s a_image x_hasImage x_act x_spot x_end x_isWrong x_open a_by a_truths x_turn x_lean x_last x_angle x_asLay x_ticks a_bodies r1.1 x_kind x_number x_tellsV, aI G a_bodies 20 r1.2]) hP hD hS hFc [0, 1] rfl rfl rfl (va_runV (As := [.int 1]) (rest := []) ⟨hx, hb, hml, hown, hts⟩ hM (cwV 1 hts gX12_plainTurns_X12_ranBody rfl rfl rfl (by decide +kernel) ⟨Nat.le_of_ble_eq_true rfl, Nat.le_of_ble_eq_true rfl⟩) (cp_V hK hE hS hPc hDc hFc (va_recv hK hPc (ci := 12) (q0 := 0) rfl rfl)) rfl rfl hl.1 rfl (lv_room (Nat.le_of_ble_eq_true rfl)) dX12_plainTurns_2 ⟨Nat.zero_le _, Nat.zero_le _⟩) (fun H locs hP hD hS => ?_)
  refine lv_iload_n hx hb dX12_plainTurns_5 rfl (lv_at hl 1 rfl) ?_
  refine lv_aload_n hx hb dX12_plainTurns_6 rfl (lv_at hl 0 rfl) ?_
  refine va_get (D := G.1) (ci := 12) (v := .int x_number) (C := RX12) (T := TX12) (N := 22) hx hb hts hin12 hown hK hP 0 rfl rfl 20 (by decide) lk_200 (fun _ h9 => h9) rfl dX12_plainTurns_7 ?_
  refine lv_iadd hx hb dX12_plainTurns_10 ?_
  injection hF with hz
  injection hz with hq0 hz
  injection hz with hq1 hz
  subst hq0
  subst hq1
  subst hz
  exact cm_reti hx hb hr rfl hlk hK hP hD hS dX12_plainTurns_11

/-! HeadsByHairModel.turningTurns(I)I -/
abbrev rm_X12_turningTurns : Room := { frames := 2, cells := 0, slots := 0, locals := 42 }
set_option maxHeartbeats 4000000 in
set_option maxRecDepth 100000 in
theorem c_X12_turningTurns (l : Launch) (G : GG) (h a_s a_image a_by a_truths a_bodies : Nat) (x_thrown x_hasImage x_act x_spot x_end x_isWrong x_open x_turn x_lean x_last x_angle x_asLay x_ticks x_ran x_kind x_number x_tellsV : Int32) (f_bodies : Nat → Int32) (l1 : Int32) (z : Int32) (z_x_ran : Int32) (z_f_bodies : Nat → Int32) (hF : fX12_turningTurns x_ran x_number f_bodies l1 = some (z, z_x_ran, z_f_bodies)) : CMi l yX12_turningTurns wsX12_turningTurns rm_X12_turningTurns G [o12 h x_thrown a_s a_image x_hasImage x_act x_spot x_end x_isWrong x_open a_by a_truths x_turn x_lean x_last x_angle x_asLay x_ticks a_bodies x_ran x_kind x_number x_tellsV, aI G a_bodies 20 f_bodies] [o12 h x_thrown a_s a_image x_hasImage x_act x_spot x_end x_isWrong x_open a_by a_truths x_turn x_lean x_last x_angle x_asLay x_ticks a_bodies z_x_ran x_kind x_number x_tellsV, aI G a_bodies 20 z_f_bodies] [.ref h, .int l1] z := by
  refine cm_start (cc := cX12_turningTurns) (maxL := 2) (ret := (some .int)) (Qc := fun A => QI G [o12 h x_thrown a_s a_image x_hasImage x_act x_spot x_end x_isWrong x_open a_by a_truths x_turn x_lean x_last x_angle x_asLay x_ticks a_bodies z_x_ran x_kind x_number x_tellsV, aI G a_bodies 20 z_f_bodies] z A) (by decide +kernel) rfl (Nat.le_of_ble_eq_true rfl) ?_
  intro p e s m args below meth c A hx hb hr hlk hml hown hnm hts hA H locs hP hK hD hE hS ls hl
  have hown : s.vm.findClass RX12 = some m.cls := hown
  have hl : lv_has ls 2 [(0, .ref h), (1, .int l1)] := hl
  revert hF
  intro hF
  unfold fX12_turningTurns at hF
  refine lv_aload_n hx hb dX12_turningTurns_0 rfl (lv_at hl 0 rfl) ?_
  refine lv_bipush (v := 11) hx hb dX12_turningTurns_1 (by decide) ?_
  obtain ⟨r1, hc2, hF⟩ := bd_some hF
  have hPc := hP.sub (ws' := [o12 h x_thrown a_s a_image x_hasImage x_act x_spot x_end x_isWrong x_open a_by a_truths x_turn x_lean x_last x_angle x_asLay x_ticks a_bodies x_ran x_kind x_number x_tellsV, aI G a_bodies 20 f_bodies]) [0, 1] rfl
  have hDc := hD.sub (ws' := [o12 h x_thrown a_s a_image x_hasImage x_act x_spot x_end x_isWrong x_open a_by a_truths x_turn x_lean x_last x_angle x_asLay x_ticks a_bodies x_ran x_kind x_number x_tellsV, aI G a_bodies 20 f_bodies]) [0, 1] (by decide) rfl
  have hFc := va_free (wc := [o12 h x_thrown a_s a_image x_hasImage x_act x_spot x_end x_isWrong x_open a_by a_truths x_turn x_lean x_last x_angle x_asLay x_ticks a_bodies x_ran x_kind x_number x_tellsV, aI G a_bodies 20 f_bodies]) hD hS hA [0, 1] rfl
  have hM := c_X12_ranBody l G h a_s a_image a_by a_truths a_bodies x_thrown x_hasImage x_act x_spot x_end x_isWrong x_open x_turn x_lean x_last x_angle x_asLay x_ticks x_ran x_kind x_number x_tellsV f_bodies (11 : Int32) r1.1 r1.2 hc2 H.size
  refine cl_v (w1 := [o12 h x_thrown a_s a_image x_hasImage x_act x_spot x_end x_isWrong x_open a_by a_truths x_turn x_lean x_last x_angle x_asLay x_ticks a_bodies r1.1 x_kind x_number x_tellsV, aI G a_bodies 20 r1.2]) (ws' := [o12 h x_thrown a_s a_image x_hasImage x_act x_spot x_end x_isWrong x_open a_by a_truths x_turn x_lean x_last x_angle x_asLay x_ticks a_bodies r1.1 x_kind x_number x_tellsV, aI G a_bodies 20 r1.2]) hP hD hS hFc [0, 1] rfl rfl rfl (va_runV (As := [.int 11]) (rest := []) ⟨hx, hb, hml, hown, hts⟩ hM (cwV 1 hts gX12_turningTurns_X12_ranBody rfl rfl rfl (by decide +kernel) ⟨Nat.le_of_ble_eq_true rfl, Nat.le_of_ble_eq_true rfl⟩) (cp_V hK hE hS hPc hDc hFc (va_recv hK hPc (ci := 12) (q0 := 0) rfl rfl)) rfl rfl hl.1 rfl (lv_room (Nat.le_of_ble_eq_true rfl)) dX12_turningTurns_3 ⟨Nat.zero_le _, Nat.zero_le _⟩) (fun H locs hP hD hS => ?_)
  refine lv_aload_n hx hb dX12_turningTurns_6 rfl (lv_at hl 0 rfl) ?_
  refine lv_iload_n hx hb dX12_turningTurns_7 rfl (lv_at hl 1 rfl) ?_
  refine lv_iconst (v := 3) hx hb dX12_turningTurns_8 (by decide) ?_
  refine lv_imul hx hb dX12_turningTurns_9 ?_
  obtain ⟨r3, hc4, hF⟩ := bd_some hF
  have hPc := hP.sub (ws' := [o12 h x_thrown a_s a_image x_hasImage x_act x_spot x_end x_isWrong x_open a_by a_truths x_turn x_lean x_last x_angle x_asLay x_ticks a_bodies r1.1 x_kind x_number x_tellsV, aI G a_bodies 20 r1.2]) [0, 1] rfl
  have hDc := hD.sub (ws' := [o12 h x_thrown a_s a_image x_hasImage x_act x_spot x_end x_isWrong x_open a_by a_truths x_turn x_lean x_last x_angle x_asLay x_ticks a_bodies r1.1 x_kind x_number x_tellsV, aI G a_bodies 20 r1.2]) [0, 1] (by decide) rfl
  have hFc := va_free (wc := [o12 h x_thrown a_s a_image x_hasImage x_act x_spot x_end x_isWrong x_open a_by a_truths x_turn x_lean x_last x_angle x_asLay x_ticks a_bodies r1.1 x_kind x_number x_tellsV, aI G a_bodies 20 r1.2]) hD hS hA [0, 1] rfl
  have hM := c_X12_plainTurns l G h a_s a_image a_by a_truths a_bodies x_thrown x_hasImage x_act x_spot x_end x_isWrong x_open x_turn x_lean x_last x_angle x_asLay x_ticks r1.1 x_kind x_number x_tellsV r1.2 (l1 * 3) r3.1 r3.2.1 r3.2.2 hc4 H.size
  refine cl_i (w1 := [o12 h x_thrown a_s a_image x_hasImage x_act x_spot x_end x_isWrong x_open a_by a_truths x_turn x_lean x_last x_angle x_asLay x_ticks a_bodies r3.2.1 x_kind x_number x_tellsV, aI G a_bodies 20 r3.2.2]) (ws' := [o12 h x_thrown a_s a_image x_hasImage x_act x_spot x_end x_isWrong x_open a_by a_truths x_turn x_lean x_last x_angle x_asLay x_ticks a_bodies r3.2.1 x_kind x_number x_tellsV, aI G a_bodies 20 r3.2.2]) hP hD hS hFc [0, 1] rfl rfl rfl (va_runV (As := [.int (l1 * 3)]) (rest := []) ⟨hx, hb, hml, hown, hts⟩ hM (cwV 1 hts gX12_turningTurns_X12_plainTurns rfl rfl rfl (by decide +kernel) ⟨Nat.le_of_ble_eq_true rfl, Nat.le_of_ble_eq_true rfl⟩) (cp_V hK hE hS hPc hDc hFc (va_recv hK hPc (ci := 12) (q0 := 0) rfl rfl)) rfl rfl hl.1 rfl (lv_room (Nat.le_of_ble_eq_true rfl)) dX12_turningTurns_10 ⟨Nat.zero_le _, Nat.zero_le _⟩) (fun H locs hP hD hS => ?_)
  injection hF with hz
  injection hz with hq0 hz
  injection hz with hq1 hz
  subst hq0
  subst hq1
  subst hz
  exact cm_reti hx hb hr rfl hlk hK hP hD hS dX12_turningTurns_13

/-! HeadsByHairModel.turnsActs(I)I -/
abbrev rm_X12_turnsActs : Room := { frames := 3, cells := 0, slots := 0, locals := 63 }
set_option maxHeartbeats 4000000 in
set_option maxRecDepth 100000 in
theorem c_X12_turnsActs (l : Launch) (G : GG) (h a_s a_image a_by a_truths a_bodies : Nat) (x_thrown x_hasImage x_act x_spot x_end x_isWrong x_open x_turn x_lean x_last x_angle x_asLay x_ticks x_ran x_kind x_number x_tellsV : Int32) (f_bodies : Nat → Int32) (l1 : Int32) (z : Int32) (z_x_ran : Int32) (z_f_bodies : Nat → Int32) (hF : fX12_turnsActs x_ran x_kind x_number f_bodies l1 = some (z, z_x_ran, z_f_bodies)) : CMi l yX12_turnsActs wsX12_turnsActs rm_X12_turnsActs G [o12 h x_thrown a_s a_image x_hasImage x_act x_spot x_end x_isWrong x_open a_by a_truths x_turn x_lean x_last x_angle x_asLay x_ticks a_bodies x_ran x_kind x_number x_tellsV, aI G a_bodies 20 f_bodies] [o12 h x_thrown a_s a_image x_hasImage x_act x_spot x_end x_isWrong x_open a_by a_truths x_turn x_lean x_last x_angle x_asLay x_ticks a_bodies z_x_ran x_kind x_number x_tellsV, aI G a_bodies 20 z_f_bodies] [.ref h, .int l1] z := by
  refine cm_start (cc := cX12_turnsActs) (maxL := 2) (ret := (some .int)) (Qc := fun A => QI G [o12 h x_thrown a_s a_image x_hasImage x_act x_spot x_end x_isWrong x_open a_by a_truths x_turn x_lean x_last x_angle x_asLay x_ticks a_bodies z_x_ran x_kind x_number x_tellsV, aI G a_bodies 20 z_f_bodies] z A) (by decide +kernel) rfl (Nat.le_of_ble_eq_true rfl) ?_
  intro p e s m args below meth c A hx hb hr hlk hml hown hnm hts hA H locs hP hK hD hE hS ls hl
  have hown : s.vm.findClass RX12 = some m.cls := hown
  have hl : lv_has ls 2 [(0, .ref h), (1, .int l1)] := hl
  have hin12 : ∀ w ∈ wsX120, w ∈ wsX12_turnsActs := by decide +kernel
  have lk_206 := hts (.fieldLink RX12 206 "HeadsByHairModel" "kind" "I") (by decide +kernel)
  have lk_200 := hts (.fieldLink RX12 200 "HeadsByHairModel" "number" "I") (by decide +kernel)
  revert hF
  intro hF
  unfold fX12_turnsActs at hF
  refine lv_aload_n hx hb dX12_turnsActs_0 rfl (lv_at hl 0 rfl) ?_
  refine va_get (D := G.1) (ci := 12) (v := .int x_kind) (C := RX12) (T := TX12) (N := 22) hx hb hts hin12 hown hK hP 0 rfl rfl 19 (by decide) lk_206 (fun _ h9 => h9) rfl dX12_turnsActs_1 ?_
  refine lv_bipush (v := 6) hx hb dX12_turnsActs_4 (by decide) ?_
  refine lv_icmp_ne (tgt := 26) hx hb dX12_turnsActs_6 (by decide) (fun c1 => ?_) (fun c1 => ?_)
  · rw [if_neg c1] at hF
    refine lv_aload_n hx hb dX12_turnsActs_26 rfl (lv_at hl 0 rfl) ?_
    refine va_get (D := G.1) (ci := 12) (v := .int x_kind) (C := RX12) (T := TX12) (N := 22) hx hb hts hin12 hown hK hP 0 rfl rfl 19 (by decide) lk_206 (fun _ h9 => h9) rfl dX12_turnsActs_27 ?_
    refine lv_iconst (v := 1) hx hb dX12_turnsActs_30 (by decide) ?_
    obtain ⟨r2, hc3, hF⟩ := bd_some hF
    have hPc := hP.sub (ws' := []) [] rfl
    have hDc := hD.sub (ws' := []) [] (by decide) rfl
    have hFc := va_free (wc := []) hD hS hA [] rfl
    have hM := c_X12_isUnder l G x_kind (1 : Int32) r2 hc3 H.size
    refine cl_i (w1 := []) (ws' := [o12 h x_thrown a_s a_image x_hasImage x_act x_spot x_end x_isWrong x_open a_by a_truths x_turn x_lean x_last x_angle x_asLay x_ticks a_bodies x_ran x_kind x_number x_tellsV, aI G a_bodies 20 f_bodies]) hP hD hS hFc [] rfl rfl rfl (va_runS (As := [.int x_kind, .int 1]) (rest := []) ⟨hx, hb, hml, hown, hts⟩ hM (va_cwS 2 hts gX12_turnsActs_X12_isUnder rfl rfl rfl (by decide +kernel) ⟨Nat.le_of_ble_eq_true rfl, Nat.le_of_ble_eq_true rfl⟩) (cp_S hK hE hS hPc hDc hFc) rfl rfl hl.1 rfl (lv_room (Nat.le_of_ble_eq_true rfl)) dX12_turnsActs_31 ⟨Nat.zero_le _, Nat.zero_le _⟩) (fun H locs hP hD hS => ?_)
    refine lv_if_eq (tgt := 45) hx hb dX12_turnsActs_34 (by decide) (fun c4 => ?_) (fun c4 => ?_)
    · rw [if_pos c4] at hF
      refine lv_aload_n hx hb dX12_turnsActs_45 rfl (lv_at hl 0 rfl) ?_
      refine lv_iload_n hx hb dX12_turnsActs_46 rfl (lv_at hl 1 rfl) ?_
      obtain ⟨r5, hc6, hF⟩ := bd_some hF
      have hPc := hP.sub (ws' := [o12 h x_thrown a_s a_image x_hasImage x_act x_spot x_end x_isWrong x_open a_by a_truths x_turn x_lean x_last x_angle x_asLay x_ticks a_bodies x_ran x_kind x_number x_tellsV, aI G a_bodies 20 f_bodies]) [0, 1] rfl
      have hDc := hD.sub (ws' := [o12 h x_thrown a_s a_image x_hasImage x_act x_spot x_end x_isWrong x_open a_by a_truths x_turn x_lean x_last x_angle x_asLay x_ticks a_bodies x_ran x_kind x_number x_tellsV, aI G a_bodies 20 f_bodies]) [0, 1] (by decide) rfl
      have hFc := va_free (wc := [o12 h x_thrown a_s a_image x_hasImage x_act x_spot x_end x_isWrong x_open a_by a_truths x_turn x_lean x_last x_angle x_asLay x_ticks a_bodies x_ran x_kind x_number x_tellsV, aI G a_bodies 20 f_bodies]) hD hS hA [0, 1] rfl
      have hM := c_X12_plainTurns l G h a_s a_image a_by a_truths a_bodies x_thrown x_hasImage x_act x_spot x_end x_isWrong x_open x_turn x_lean x_last x_angle x_asLay x_ticks x_ran x_kind x_number x_tellsV f_bodies l1 r5.1 r5.2.1 r5.2.2 hc6 H.size
      refine cl_i (w1 := [o12 h x_thrown a_s a_image x_hasImage x_act x_spot x_end x_isWrong x_open a_by a_truths x_turn x_lean x_last x_angle x_asLay x_ticks a_bodies r5.2.1 x_kind x_number x_tellsV, aI G a_bodies 20 r5.2.2]) (ws' := [o12 h x_thrown a_s a_image x_hasImage x_act x_spot x_end x_isWrong x_open a_by a_truths x_turn x_lean x_last x_angle x_asLay x_ticks a_bodies r5.2.1 x_kind x_number x_tellsV, aI G a_bodies 20 r5.2.2]) hP hD hS hFc [0, 1] rfl rfl rfl (va_runV (As := [.int l1]) (rest := []) ⟨hx, hb, hml, hown, hts⟩ hM (cwV 1 hts gX12_turnsActs_X12_plainTurns rfl rfl rfl (by decide +kernel) ⟨Nat.le_of_ble_eq_true rfl, Nat.le_of_ble_eq_true rfl⟩) (cp_V hK hE hS hPc hDc hFc (va_recv hK hPc (ci := 12) (q0 := 0) rfl rfl)) rfl rfl hl.1 rfl (lv_room (Nat.le_of_ble_eq_true rfl)) dX12_turnsActs_47 ⟨Nat.zero_le _, Nat.zero_le _⟩) (fun H locs hP hD hS => ?_)
      injection hF with hz
      injection hz with hq0 hz
      injection hz with hq1 hz
      subst hq0
      subst hq1
      subst hz
      exact cm_reti hx hb hr rfl hlk hK hP hD hS dX12_turnsActs_50
    rw [if_neg c4] at hF
    refine lv_aload_n hx hb dX12_turnsActs_37 rfl (lv_at hl 0 rfl) ?_
    refine lv_iload_n hx hb dX12_turnsActs_38 rfl (lv_at hl 1 rfl) ?_
    obtain ⟨r7, hc8, hF⟩ := bd_some hF
    have hPc := hP.sub (ws' := [o12 h x_thrown a_s a_image x_hasImage x_act x_spot x_end x_isWrong x_open a_by a_truths x_turn x_lean x_last x_angle x_asLay x_ticks a_bodies x_ran x_kind x_number x_tellsV, aI G a_bodies 20 f_bodies]) [0, 1] rfl
    have hDc := hD.sub (ws' := [o12 h x_thrown a_s a_image x_hasImage x_act x_spot x_end x_isWrong x_open a_by a_truths x_turn x_lean x_last x_angle x_asLay x_ticks a_bodies x_ran x_kind x_number x_tellsV, aI G a_bodies 20 f_bodies]) [0, 1] (by decide) rfl
    have hFc := va_free (wc := [o12 h x_thrown a_s a_image x_hasImage x_act x_spot x_end x_isWrong x_open a_by a_truths x_turn x_lean x_last x_angle x_asLay x_ticks a_bodies x_ran x_kind x_number x_tellsV, aI G a_bodies 20 f_bodies]) hD hS hA [0, 1] rfl
    have hM := c_X12_turningTurns l G h a_s a_image a_by a_truths a_bodies x_thrown x_hasImage x_act x_spot x_end x_isWrong x_open x_turn x_lean x_last x_angle x_asLay x_ticks x_ran x_kind x_number x_tellsV f_bodies l1 r7.1 r7.2.1 r7.2.2 hc8 H.size
    refine cl_i (w1 := [o12 h x_thrown a_s a_image x_hasImage x_act x_spot x_end x_isWrong x_open a_by a_truths x_turn x_lean x_last x_angle x_asLay x_ticks a_bodies r7.2.1 x_kind x_number x_tellsV, aI G a_bodies 20 r7.2.2]) (ws' := [o12 h x_thrown a_s a_image x_hasImage x_act x_spot x_end x_isWrong x_open a_by a_truths x_turn x_lean x_last x_angle x_asLay x_ticks a_bodies r7.2.1 x_kind x_number x_tellsV, aI G a_bodies 20 r7.2.2]) hP hD hS hFc [0, 1] rfl rfl rfl (va_runV (As := [.int l1]) (rest := []) ⟨hx, hb, hml, hown, hts⟩ hM (cwV 1 hts gX12_turnsActs_X12_turningTurns rfl rfl rfl (by decide +kernel) ⟨Nat.le_of_ble_eq_true rfl, Nat.le_of_ble_eq_true rfl⟩) (cp_V hK hE hS hPc hDc hFc (va_recv hK hPc (ci := 12) (q0 := 0) rfl rfl)) rfl rfl hl.1 rfl (lv_room (Nat.le_of_ble_eq_true rfl)) dX12_turnsActs_39 ⟨Nat.zero_le _, Nat.zero_le _⟩) (fun H locs hP hD hS => ?_)
    refine lv_goto (tgt := 50) hx hb dX12_turnsActs_42 (by decide) ?_
    refine W.eq (g2 := F0 m 50 ls [.int r7.1]) rfl ?_
    injection hF with hz
    injection hz with hq0 hz
    injection hz with hq1 hz
    subst hq0
    subst hq1
    subst hz
    exact cm_reti hx hb hr rfl hlk hK hP hD hS dX12_turnsActs_50
  rw [if_pos c1] at hF
  refine lv_aload_n hx hb dX12_turnsActs_9 rfl (lv_at hl 0 rfl) ?_
  refine lv_bipush (v := 51) hx hb dX12_turnsActs_10 (by decide) ?_
  obtain ⟨r9, hc10, hF⟩ := bd_some hF
  have hPc := hP.sub (ws' := [o12 h x_thrown a_s a_image x_hasImage x_act x_spot x_end x_isWrong x_open a_by a_truths x_turn x_lean x_last x_angle x_asLay x_ticks a_bodies x_ran x_kind x_number x_tellsV, aI G a_bodies 20 f_bodies]) [0, 1] rfl
  have hDc := hD.sub (ws' := [o12 h x_thrown a_s a_image x_hasImage x_act x_spot x_end x_isWrong x_open a_by a_truths x_turn x_lean x_last x_angle x_asLay x_ticks a_bodies x_ran x_kind x_number x_tellsV, aI G a_bodies 20 f_bodies]) [0, 1] (by decide) rfl
  have hFc := va_free (wc := [o12 h x_thrown a_s a_image x_hasImage x_act x_spot x_end x_isWrong x_open a_by a_truths x_turn x_lean x_last x_angle x_asLay x_ticks a_bodies x_ran x_kind x_number x_tellsV, aI G a_bodies 20 f_bodies]) hD hS hA [0, 1] rfl
  have hM := c_X12_ranBody l G h a_s a_image a_by a_truths a_bodies x_thrown x_hasImage x_act x_spot x_end x_isWrong x_open x_turn x_lean x_last x_angle x_asLay x_ticks x_ran x_kind x_number x_tellsV f_bodies (51 : Int32) r9.1 r9.2 hc10 H.size
  refine cl_v (w1 := [o12 h x_thrown a_s a_image x_hasImage x_act x_spot x_end x_isWrong x_open a_by a_truths x_turn x_lean x_last x_angle x_asLay x_ticks a_bodies r9.1 x_kind x_number x_tellsV, aI G a_bodies 20 r9.2]) (ws' := [o12 h x_thrown a_s a_image x_hasImage x_act x_spot x_end x_isWrong x_open a_by a_truths x_turn x_lean x_last x_angle x_asLay x_ticks a_bodies r9.1 x_kind x_number x_tellsV, aI G a_bodies 20 r9.2]) hP hD hS hFc [0, 1] rfl rfl rfl (va_runV (As := [.int 51]) (rest := []) ⟨hx, hb, hml, hown, hts⟩ hM (cwV 1 hts gX12_turnsActs_X12_ranBody rfl rfl rfl (by decide +kernel) ⟨Nat.le_of_ble_eq_true rfl, Nat.le_of_ble_eq_true rfl⟩) (cp_V hK hE hS hPc hDc hFc (va_recv hK hPc (ci := 12) (q0 := 0) rfl rfl)) rfl rfl hl.1 rfl (lv_room (Nat.le_of_ble_eq_true rfl)) dX12_turnsActs_12 ⟨Nat.zero_le _, Nat.zero_le _⟩) (fun H locs hP hD hS => ?_)
  refine lv_aload_n hx hb dX12_turnsActs_15 rfl (lv_at hl 0 rfl) ?_
  refine lv_iload_n hx hb dX12_turnsActs_16 rfl (lv_at hl 1 rfl) ?_
  obtain ⟨r11, hc12, hF⟩ := bd_some hF
  have hPc := hP.sub (ws' := [o12 h x_thrown a_s a_image x_hasImage x_act x_spot x_end x_isWrong x_open a_by a_truths x_turn x_lean x_last x_angle x_asLay x_ticks a_bodies r9.1 x_kind x_number x_tellsV, aI G a_bodies 20 r9.2]) [0, 1] rfl
  have hDc := hD.sub (ws' := [o12 h x_thrown a_s a_image x_hasImage x_act x_spot x_end x_isWrong x_open a_by a_truths x_turn x_lean x_last x_angle x_asLay x_ticks a_bodies r9.1 x_kind x_number x_tellsV, aI G a_bodies 20 r9.2]) [0, 1] (by decide) rfl
  have hFc := va_free (wc := [o12 h x_thrown a_s a_image x_hasImage x_act x_spot x_end x_isWrong x_open a_by a_truths x_turn x_lean x_last x_angle x_asLay x_ticks a_bodies r9.1 x_kind x_number x_tellsV, aI G a_bodies 20 r9.2]) hD hS hA [0, 1] rfl
  have hM := c_X12_turningTurns l G h a_s a_image a_by a_truths a_bodies x_thrown x_hasImage x_act x_spot x_end x_isWrong x_open x_turn x_lean x_last x_angle x_asLay x_ticks r9.1 x_kind x_number x_tellsV r9.2 l1 r11.1 r11.2.1 r11.2.2 hc12 H.size
  refine cl_i (w1 := [o12 h x_thrown a_s a_image x_hasImage x_act x_spot x_end x_isWrong x_open a_by a_truths x_turn x_lean x_last x_angle x_asLay x_ticks a_bodies r11.2.1 x_kind x_number x_tellsV, aI G a_bodies 20 r11.2.2]) (ws' := [o12 h x_thrown a_s a_image x_hasImage x_act x_spot x_end x_isWrong x_open a_by a_truths x_turn x_lean x_last x_angle x_asLay x_ticks a_bodies r11.2.1 x_kind x_number x_tellsV, aI G a_bodies 20 r11.2.2]) hP hD hS hFc [0, 1] rfl rfl rfl (va_runV (As := [.int l1]) (rest := []) ⟨hx, hb, hml, hown, hts⟩ hM (cwV 1 hts gX12_turnsActs_X12_turningTurns rfl rfl rfl (by decide +kernel) ⟨Nat.le_of_ble_eq_true rfl, Nat.le_of_ble_eq_true rfl⟩) (cp_V hK hE hS hPc hDc hFc (va_recv hK hPc (ci := 12) (q0 := 0) rfl rfl)) rfl rfl hl.1 rfl (lv_room (Nat.le_of_ble_eq_true rfl)) dX12_turnsActs_17 ⟨Nat.zero_le _, Nat.zero_le _⟩) (fun H locs hP hD hS => ?_)
  refine lv_aload_n hx hb dX12_turnsActs_20 rfl (lv_at hl 0 rfl) ?_
  refine va_get (D := G.1) (ci := 12) (v := .int x_number) (C := RX12) (T := TX12) (N := 22) hx hb hts hin12 hown hK hP 0 rfl rfl 20 (by decide) lk_200 (fun _ h9 => h9) rfl dX12_turnsActs_21 ?_
  refine lv_ixor hx hb dX12_turnsActs_24 ?_
  refine W.eq (g2 := F0 m 25 ls [.int (r11.1 ^^^ x_number)]) rfl ?_
  injection hF with hz
  injection hz with hq0 hz
  injection hz with hq1 hz
  subst hq0
  subst hq1
  subst hz
  exact cm_reti hx hb hr rfl hlk hK hP hD hS dX12_turnsActs_25

/-! HeadsByHairModel.plainLands(I)I -/
abbrev rm_X12_plainLands : Room := { frames := 4, cells := 0, slots := 0, locals := 84 }
set_option maxHeartbeats 4000000 in
set_option maxRecDepth 100000 in
theorem c_X12_plainLands (l : Launch) (G : GG) (h a_s a_image a_by a_truths a_bodies : Nat) (x_thrown x_hasImage x_act x_spot x_end x_isWrong x_open x_turn x_lean x_last x_angle x_asLay x_ticks x_ran x_kind x_number x_tellsV : Int32) (f_bodies : Nat → Int32) (l1 : Int32) (z : Int32) (z_x_ran : Int32) (z_f_bodies : Nat → Int32) (hF : fX12_plainLands x_ran x_kind x_number x_tellsV f_bodies l1 = some (z, z_x_ran, z_f_bodies)) : CMi l yX12_plainLands wsX12_plainLands rm_X12_plainLands G [o12 h x_thrown a_s a_image x_hasImage x_act x_spot x_end x_isWrong x_open a_by a_truths x_turn x_lean x_last x_angle x_asLay x_ticks a_bodies x_ran x_kind x_number x_tellsV, aI G a_bodies 20 f_bodies] [o12 h x_thrown a_s a_image x_hasImage x_act x_spot x_end x_isWrong x_open a_by a_truths x_turn x_lean x_last x_angle x_asLay x_ticks a_bodies z_x_ran x_kind x_number x_tellsV, aI G a_bodies 20 z_f_bodies] [.ref h, .int l1] z := by
  refine cm_start (cc := cX12_plainLands) (maxL := 2) (ret := (some .int)) (Qc := fun A => QI G [o12 h x_thrown a_s a_image x_hasImage x_act x_spot x_end x_isWrong x_open a_by a_truths x_turn x_lean x_last x_angle x_asLay x_ticks a_bodies z_x_ran x_kind x_number x_tellsV, aI G a_bodies 20 z_f_bodies] z A) (by decide +kernel) rfl (Nat.le_of_ble_eq_true rfl) ?_
  intro p e s m args below meth c A hx hb hr hlk hml hown hnm hts hA H locs hP hK hD hE hS ls hl
  have hown : s.vm.findClass RX12 = some m.cls := hown
  have hl : lv_has ls 2 [(0, .ref h), (1, .int l1)] := hl
  have hin12 : ∀ w ∈ wsX120, w ∈ wsX12_plainLands := by decide +kernel
  have lk_219 := hts (.fieldLink RX12 219 "HeadsByHairModel" "tellsV" "I") (by decide +kernel)
  revert hF
  intro hF
  unfold fX12_plainLands at hF
  refine lv_aload_n hx hb dX12_plainLands_0 rfl (lv_at hl 0 rfl) ?_
  refine lv_iconst (v := 2) hx hb dX12_plainLands_1 (by decide) ?_
  obtain ⟨r1, hc2, hF⟩ := bd_some hF
  have hPc := hP.sub (ws' := [o12 h x_thrown a_s a_image x_hasImage x_act x_spot x_end x_isWrong x_open a_by a_truths x_turn x_lean x_last x_angle x_asLay x_ticks a_bodies x_ran x_kind x_number x_tellsV, aI G a_bodies 20 f_bodies]) [0, 1] rfl
  have hDc := hD.sub (ws' := [o12 h x_thrown a_s a_image x_hasImage x_act x_spot x_end x_isWrong x_open a_by a_truths x_turn x_lean x_last x_angle x_asLay x_ticks a_bodies x_ran x_kind x_number x_tellsV, aI G a_bodies 20 f_bodies]) [0, 1] (by decide) rfl
  have hFc := va_free (wc := [o12 h x_thrown a_s a_image x_hasImage x_act x_spot x_end x_isWrong x_open a_by a_truths x_turn x_lean x_last x_angle x_asLay x_ticks a_bodies x_ran x_kind x_number x_tellsV, aI G a_bodies 20 f_bodies]) hD hS hA [0, 1] rfl
  have hM := c_X12_ranBody l G h a_s a_image a_by a_truths a_bodies x_thrown x_hasImage x_act x_spot x_end x_isWrong x_open x_turn x_lean x_last x_angle x_asLay x_ticks x_ran x_kind x_number x_tellsV f_bodies (2 : Int32) r1.1 r1.2 hc2 H.size
  refine cl_v (w1 := [o12 h x_thrown a_s a_image x_hasImage x_act x_spot x_end x_isWrong x_open a_by a_truths x_turn x_lean x_last x_angle x_asLay x_ticks a_bodies r1.1 x_kind x_number x_tellsV, aI G a_bodies 20 r1.2]) (ws' := [o12 h x_thrown a_s a_image x_hasImage x_act x_spot x_end x_isWrong x_open a_by a_truths x_turn x_lean x_last x_angle x_asLay x_ticks a_bodies r1.1 x_kind x_number x_tellsV, aI G a_bodies 20 r1.2]) hP hD hS hFc [0, 1] rfl rfl rfl (va_runV (As := [.int 2]) (rest := []) ⟨hx, hb, hml, hown, hts⟩ hM (cwV 1 hts gX12_plainLands_X12_ranBody rfl rfl rfl (by decide +kernel) ⟨Nat.le_of_ble_eq_true rfl, Nat.le_of_ble_eq_true rfl⟩) (cp_V hK hE hS hPc hDc hFc (va_recv hK hPc (ci := 12) (q0 := 0) rfl rfl)) rfl rfl hl.1 rfl (lv_room (Nat.le_of_ble_eq_true rfl)) dX12_plainLands_2 ⟨Nat.zero_le _, Nat.zero_le _⟩) (fun H locs hP hD hS => ?_)
  refine lv_aload_n hx hb dX12_plainLands_5 rfl (lv_at hl 0 rfl) ?_
  refine lv_iload_n hx hb dX12_plainLands_6 rfl (lv_at hl 1 rfl) ?_
  obtain ⟨r3, hc4, hF⟩ := bd_some hF
  have hPc := hP.sub (ws' := [o12 h x_thrown a_s a_image x_hasImage x_act x_spot x_end x_isWrong x_open a_by a_truths x_turn x_lean x_last x_angle x_asLay x_ticks a_bodies r1.1 x_kind x_number x_tellsV, aI G a_bodies 20 r1.2]) [0, 1] rfl
  have hDc := hD.sub (ws' := [o12 h x_thrown a_s a_image x_hasImage x_act x_spot x_end x_isWrong x_open a_by a_truths x_turn x_lean x_last x_angle x_asLay x_ticks a_bodies r1.1 x_kind x_number x_tellsV, aI G a_bodies 20 r1.2]) [0, 1] (by decide) rfl
  have hFc := va_free (wc := [o12 h x_thrown a_s a_image x_hasImage x_act x_spot x_end x_isWrong x_open a_by a_truths x_turn x_lean x_last x_angle x_asLay x_ticks a_bodies r1.1 x_kind x_number x_tellsV, aI G a_bodies 20 r1.2]) hD hS hA [0, 1] rfl
  have hM := c_X12_turnsActs l G h a_s a_image a_by a_truths a_bodies x_thrown x_hasImage x_act x_spot x_end x_isWrong x_open x_turn x_lean x_last x_angle x_asLay x_ticks r1.1 x_kind x_number x_tellsV r1.2 l1 r3.1 r3.2.1 r3.2.2 hc4 H.size
  refine cl_i (w1 := [o12 h x_thrown a_s a_image x_hasImage x_act x_spot x_end x_isWrong x_open a_by a_truths x_turn x_lean x_last x_angle x_asLay x_ticks a_bodies r3.2.1 x_kind x_number x_tellsV, aI G a_bodies 20 r3.2.2]) (ws' := [o12 h x_thrown a_s a_image x_hasImage x_act x_spot x_end x_isWrong x_open a_by a_truths x_turn x_lean x_last x_angle x_asLay x_ticks a_bodies r3.2.1 x_kind x_number x_tellsV, aI G a_bodies 20 r3.2.2]) hP hD hS hFc [0, 1] rfl rfl rfl (va_runV (As := [.int l1]) (rest := []) ⟨hx, hb, hml, hown, hts⟩ hM (cwV 1 hts gX12_plainLands_X12_turnsActs rfl rfl rfl (by decide +kernel) ⟨Nat.le_of_ble_eq_true rfl, Nat.le_of_ble_eq_true rfl⟩) (cp_V hK hE hS hPc hDc hFc (va_recv hK hPc (ci := 12) (q0 := 0) rfl rfl)) rfl rfl hl.1 rfl (lv_room (Nat.le_of_ble_eq_true rfl)) dX12_plainLands_7 ⟨Nat.zero_le _, Nat.zero_le _⟩) (fun H locs hP hD hS => ?_)
  refine lv_aload_n hx hb dX12_plainLands_10 rfl (lv_at hl 0 rfl) ?_
  refine va_get (D := G.1) (ci := 12) (v := .int x_tellsV) (C := RX12) (T := TX12) (N := 22) hx hb hts hin12 hown hK hP 0 rfl rfl 21 (by decide) lk_219 (fun _ h9 => h9) rfl dX12_plainLands_11 ?_
  refine lv_isub hx hb dX12_plainLands_14 ?_
  injection hF with hz
  injection hz with hq0 hz
  injection hz with hq1 hz
  subst hq0
  subst hq1
  subst hz
  exact cm_reti hx hb hr rfl hlk hK hP hD hS dX12_plainLands_15

/-! HeadsByHairModel.caughtLands(I)I -/
abbrev rm_X12_caughtLands : Room := { frames := 5, cells := 0, slots := 0, locals := 105 }
set_option maxHeartbeats 4000000 in
set_option maxRecDepth 100000 in
theorem c_X12_caughtLands (l : Launch) (G : GG) (h a_s a_image a_by a_truths a_bodies : Nat) (x_thrown x_hasImage x_act x_spot x_end x_isWrong x_open x_turn x_lean x_last x_angle x_asLay x_ticks x_ran x_kind x_number x_tellsV : Int32) (f_bodies : Nat → Int32) (l1 : Int32) (z : Int32) (z_x_ran : Int32) (z_f_bodies : Nat → Int32) (hF : fX12_caughtLands x_ran x_kind x_number x_tellsV f_bodies l1 = some (z, z_x_ran, z_f_bodies)) : CMi l yX12_caughtLands wsX12_caughtLands rm_X12_caughtLands G [o12 h x_thrown a_s a_image x_hasImage x_act x_spot x_end x_isWrong x_open a_by a_truths x_turn x_lean x_last x_angle x_asLay x_ticks a_bodies x_ran x_kind x_number x_tellsV, aI G a_bodies 20 f_bodies] [o12 h x_thrown a_s a_image x_hasImage x_act x_spot x_end x_isWrong x_open a_by a_truths x_turn x_lean x_last x_angle x_asLay x_ticks a_bodies z_x_ran x_kind x_number x_tellsV, aI G a_bodies 20 z_f_bodies] [.ref h, .int l1] z := by
  refine cm_start (cc := cX12_caughtLands) (maxL := 2) (ret := (some .int)) (Qc := fun A => QI G [o12 h x_thrown a_s a_image x_hasImage x_act x_spot x_end x_isWrong x_open a_by a_truths x_turn x_lean x_last x_angle x_asLay x_ticks a_bodies z_x_ran x_kind x_number x_tellsV, aI G a_bodies 20 z_f_bodies] z A) (by decide +kernel) rfl (Nat.le_of_ble_eq_true rfl) ?_
  intro p e s m args below meth c A hx hb hr hlk hml hown hnm hts hA H locs hP hK hD hE hS ls hl
  have hown : s.vm.findClass RX12 = some m.cls := hown
  have hl : lv_has ls 2 [(0, .ref h), (1, .int l1)] := hl
  revert hF
  intro hF
  unfold fX12_caughtLands at hF
  refine lv_aload_n hx hb dX12_caughtLands_0 rfl (lv_at hl 0 rfl) ?_
  refine lv_bipush (v := 21) hx hb dX12_caughtLands_1 (by decide) ?_
  obtain ⟨r1, hc2, hF⟩ := bd_some hF
  have hPc := hP.sub (ws' := [o12 h x_thrown a_s a_image x_hasImage x_act x_spot x_end x_isWrong x_open a_by a_truths x_turn x_lean x_last x_angle x_asLay x_ticks a_bodies x_ran x_kind x_number x_tellsV, aI G a_bodies 20 f_bodies]) [0, 1] rfl
  have hDc := hD.sub (ws' := [o12 h x_thrown a_s a_image x_hasImage x_act x_spot x_end x_isWrong x_open a_by a_truths x_turn x_lean x_last x_angle x_asLay x_ticks a_bodies x_ran x_kind x_number x_tellsV, aI G a_bodies 20 f_bodies]) [0, 1] (by decide) rfl
  have hFc := va_free (wc := [o12 h x_thrown a_s a_image x_hasImage x_act x_spot x_end x_isWrong x_open a_by a_truths x_turn x_lean x_last x_angle x_asLay x_ticks a_bodies x_ran x_kind x_number x_tellsV, aI G a_bodies 20 f_bodies]) hD hS hA [0, 1] rfl
  have hM := c_X12_ranBody l G h a_s a_image a_by a_truths a_bodies x_thrown x_hasImage x_act x_spot x_end x_isWrong x_open x_turn x_lean x_last x_angle x_asLay x_ticks x_ran x_kind x_number x_tellsV f_bodies (21 : Int32) r1.1 r1.2 hc2 H.size
  refine cl_v (w1 := [o12 h x_thrown a_s a_image x_hasImage x_act x_spot x_end x_isWrong x_open a_by a_truths x_turn x_lean x_last x_angle x_asLay x_ticks a_bodies r1.1 x_kind x_number x_tellsV, aI G a_bodies 20 r1.2]) (ws' := [o12 h x_thrown a_s a_image x_hasImage x_act x_spot x_end x_isWrong x_open a_by a_truths x_turn x_lean x_last x_angle x_asLay x_ticks a_bodies r1.1 x_kind x_number x_tellsV, aI G a_bodies 20 r1.2]) hP hD hS hFc [0, 1] rfl rfl rfl (va_runV (As := [.int 21]) (rest := []) ⟨hx, hb, hml, hown, hts⟩ hM (cwV 1 hts gX12_caughtLands_X12_ranBody rfl rfl rfl (by decide +kernel) ⟨Nat.le_of_ble_eq_true rfl, Nat.le_of_ble_eq_true rfl⟩) (cp_V hK hE hS hPc hDc hFc (va_recv hK hPc (ci := 12) (q0 := 0) rfl rfl)) rfl rfl hl.1 rfl (lv_room (Nat.le_of_ble_eq_true rfl)) dX12_caughtLands_3 ⟨Nat.zero_le _, Nat.zero_le _⟩) (fun H locs hP hD hS => ?_)
  refine lv_aload_n hx hb dX12_caughtLands_6 rfl (lv_at hl 0 rfl) ?_
  refine lv_iload_n hx hb dX12_caughtLands_7 rfl (lv_at hl 1 rfl) ?_
  obtain ⟨r3, hc4, hF⟩ := bd_some hF
  have hPc := hP.sub (ws' := [o12 h x_thrown a_s a_image x_hasImage x_act x_spot x_end x_isWrong x_open a_by a_truths x_turn x_lean x_last x_angle x_asLay x_ticks a_bodies r1.1 x_kind x_number x_tellsV, aI G a_bodies 20 r1.2]) [0, 1] rfl
  have hDc := hD.sub (ws' := [o12 h x_thrown a_s a_image x_hasImage x_act x_spot x_end x_isWrong x_open a_by a_truths x_turn x_lean x_last x_angle x_asLay x_ticks a_bodies r1.1 x_kind x_number x_tellsV, aI G a_bodies 20 r1.2]) [0, 1] (by decide) rfl
  have hFc := va_free (wc := [o12 h x_thrown a_s a_image x_hasImage x_act x_spot x_end x_isWrong x_open a_by a_truths x_turn x_lean x_last x_angle x_asLay x_ticks a_bodies r1.1 x_kind x_number x_tellsV, aI G a_bodies 20 r1.2]) hD hS hA [0, 1] rfl
  have hM := c_X12_plainLands l G h a_s a_image a_by a_truths a_bodies x_thrown x_hasImage x_act x_spot x_end x_isWrong x_open x_turn x_lean x_last x_angle x_asLay x_ticks r1.1 x_kind x_number x_tellsV r1.2 l1 r3.1 r3.2.1 r3.2.2 hc4 H.size
  refine cl_i (w1 := [o12 h x_thrown a_s a_image x_hasImage x_act x_spot x_end x_isWrong x_open a_by a_truths x_turn x_lean x_last x_angle x_asLay x_ticks a_bodies r3.2.1 x_kind x_number x_tellsV, aI G a_bodies 20 r3.2.2]) (ws' := [o12 h x_thrown a_s a_image x_hasImage x_act x_spot x_end x_isWrong x_open a_by a_truths x_turn x_lean x_last x_angle x_asLay x_ticks a_bodies r3.2.1 x_kind x_number x_tellsV, aI G a_bodies 20 r3.2.2]) hP hD hS hFc [0, 1] rfl rfl rfl (va_runV (As := [.int l1]) (rest := []) ⟨hx, hb, hml, hown, hts⟩ hM (cwV 1 hts gX12_caughtLands_X12_plainLands rfl rfl rfl (by decide +kernel) ⟨Nat.le_of_ble_eq_true rfl, Nat.le_of_ble_eq_true rfl⟩) (cp_V hK hE hS hPc hDc hFc (va_recv hK hPc (ci := 12) (q0 := 0) rfl rfl)) rfl rfl hl.1 rfl (lv_room (Nat.le_of_ble_eq_true rfl)) dX12_caughtLands_8 ⟨Nat.zero_le _, Nat.zero_le _⟩) (fun H locs hP hD hS => ?_)
  refine lv_ineg hx hb dX12_caughtLands_11 ?_
  injection hF with hz
  injection hz with hq0 hz
  injection hz with hq1 hz
  subst hq0
  subst hq1
  subst hz
  exact cm_reti hx hb hr rfl hlk hK hP hD hS dX12_caughtLands_12

/-! HeadsByHairModel.landsActs(I)I -/
abbrev rm_X12_landsActs : Room := { frames := 6, cells := 0, slots := 0, locals := 126 }
set_option maxHeartbeats 4000000 in
set_option maxRecDepth 100000 in
theorem c_X12_landsActs (l : Launch) (G : GG) (h a_s a_image a_by a_truths a_bodies : Nat) (x_thrown x_hasImage x_act x_spot x_end x_isWrong x_open x_turn x_lean x_last x_angle x_asLay x_ticks x_ran x_kind x_number x_tellsV : Int32) (f_bodies : Nat → Int32) (l1 : Int32) (z : Int32) (z_x_ran : Int32) (z_f_bodies : Nat → Int32) (hF : fX12_landsActs x_ran x_kind x_number x_tellsV f_bodies l1 = some (z, z_x_ran, z_f_bodies)) : CMi l yX12_landsActs wsX12_landsActs rm_X12_landsActs G [o12 h x_thrown a_s a_image x_hasImage x_act x_spot x_end x_isWrong x_open a_by a_truths x_turn x_lean x_last x_angle x_asLay x_ticks a_bodies x_ran x_kind x_number x_tellsV, aI G a_bodies 20 f_bodies] [o12 h x_thrown a_s a_image x_hasImage x_act x_spot x_end x_isWrong x_open a_by a_truths x_turn x_lean x_last x_angle x_asLay x_ticks a_bodies z_x_ran x_kind x_number x_tellsV, aI G a_bodies 20 z_f_bodies] [.ref h, .int l1] z := by
  refine cm_start (cc := cX12_landsActs) (maxL := 2) (ret := (some .int)) (Qc := fun A => QI G [o12 h x_thrown a_s a_image x_hasImage x_act x_spot x_end x_isWrong x_open a_by a_truths x_turn x_lean x_last x_angle x_asLay x_ticks a_bodies z_x_ran x_kind x_number x_tellsV, aI G a_bodies 20 z_f_bodies] z A) (by decide +kernel) rfl (Nat.le_of_ble_eq_true rfl) ?_
  intro p e s m args below meth c A hx hb hr hlk hml hown hnm hts hA H locs hP hK hD hE hS ls hl
  have hown : s.vm.findClass RX12 = some m.cls := hown
  have hl : lv_has ls 2 [(0, .ref h), (1, .int l1)] := hl
  have hin12 : ∀ w ∈ wsX120, w ∈ wsX12_landsActs := by decide +kernel
  have lk_206 := hts (.fieldLink RX12 206 "HeadsByHairModel" "kind" "I") (by decide +kernel)
  have lk_219 := hts (.fieldLink RX12 219 "HeadsByHairModel" "tellsV" "I") (by decide +kernel)
  revert hF
  intro hF
  unfold fX12_landsActs at hF
  refine lv_aload_n hx hb dX12_landsActs_0 rfl (lv_at hl 0 rfl) ?_
  refine va_get (D := G.1) (ci := 12) (v := .int x_kind) (C := RX12) (T := TX12) (N := 22) hx hb hts hin12 hown hK hP 0 rfl rfl 19 (by decide) lk_206 (fun _ h9 => h9) rfl dX12_landsActs_1 ?_
  refine lv_iconst (v := 4) hx hb dX12_landsActs_4 (by decide) ?_
  refine lv_icmp_ne (tgt := 25) hx hb dX12_landsActs_5 (by decide) (fun c1 => ?_) (fun c1 => ?_)
  · rw [if_neg c1] at hF
    refine lv_aload_n hx hb dX12_landsActs_25 rfl (lv_at hl 0 rfl) ?_
    refine va_get (D := G.1) (ci := 12) (v := .int x_kind) (C := RX12) (T := TX12) (N := 22) hx hb hts hin12 hown hK hP 0 rfl rfl 19 (by decide) lk_206 (fun _ h9 => h9) rfl dX12_landsActs_26 ?_
    refine lv_iconst (v := 3) hx hb dX12_landsActs_29 (by decide) ?_
    refine lv_icmp_ne (tgt := 41) hx hb dX12_landsActs_30 (by decide) (fun c2 => ?_) (fun c2 => ?_)
    · rw [if_neg c2] at hF
      refine lv_aload_n hx hb dX12_landsActs_41 rfl (lv_at hl 0 rfl) ?_
      refine lv_iload_n hx hb dX12_landsActs_42 rfl (lv_at hl 1 rfl) ?_
      obtain ⟨r3, hc4, hF⟩ := bd_some hF
      have hPc := hP.sub (ws' := [o12 h x_thrown a_s a_image x_hasImage x_act x_spot x_end x_isWrong x_open a_by a_truths x_turn x_lean x_last x_angle x_asLay x_ticks a_bodies x_ran x_kind x_number x_tellsV, aI G a_bodies 20 f_bodies]) [0, 1] rfl
      have hDc := hD.sub (ws' := [o12 h x_thrown a_s a_image x_hasImage x_act x_spot x_end x_isWrong x_open a_by a_truths x_turn x_lean x_last x_angle x_asLay x_ticks a_bodies x_ran x_kind x_number x_tellsV, aI G a_bodies 20 f_bodies]) [0, 1] (by decide) rfl
      have hFc := va_free (wc := [o12 h x_thrown a_s a_image x_hasImage x_act x_spot x_end x_isWrong x_open a_by a_truths x_turn x_lean x_last x_angle x_asLay x_ticks a_bodies x_ran x_kind x_number x_tellsV, aI G a_bodies 20 f_bodies]) hD hS hA [0, 1] rfl
      have hM := c_X12_plainLands l G h a_s a_image a_by a_truths a_bodies x_thrown x_hasImage x_act x_spot x_end x_isWrong x_open x_turn x_lean x_last x_angle x_asLay x_ticks x_ran x_kind x_number x_tellsV f_bodies l1 r3.1 r3.2.1 r3.2.2 hc4 H.size
      refine cl_i (w1 := [o12 h x_thrown a_s a_image x_hasImage x_act x_spot x_end x_isWrong x_open a_by a_truths x_turn x_lean x_last x_angle x_asLay x_ticks a_bodies r3.2.1 x_kind x_number x_tellsV, aI G a_bodies 20 r3.2.2]) (ws' := [o12 h x_thrown a_s a_image x_hasImage x_act x_spot x_end x_isWrong x_open a_by a_truths x_turn x_lean x_last x_angle x_asLay x_ticks a_bodies r3.2.1 x_kind x_number x_tellsV, aI G a_bodies 20 r3.2.2]) hP hD hS hFc [0, 1] rfl rfl rfl (va_runV (As := [.int l1]) (rest := []) ⟨hx, hb, hml, hown, hts⟩ hM (cwV 1 hts gX12_landsActs_X12_plainLands rfl rfl rfl (by decide +kernel) ⟨Nat.le_of_ble_eq_true rfl, Nat.le_of_ble_eq_true rfl⟩) (cp_V hK hE hS hPc hDc hFc (va_recv hK hPc (ci := 12) (q0 := 0) rfl rfl)) rfl rfl hl.1 rfl (lv_room (Nat.le_of_ble_eq_true rfl)) dX12_landsActs_43 ⟨Nat.zero_le _, Nat.zero_le _⟩) (fun H locs hP hD hS => ?_)
      injection hF with hz
      injection hz with hq0 hz
      injection hz with hq1 hz
      subst hq0
      subst hq1
      subst hz
      exact cm_reti hx hb hr rfl hlk hK hP hD hS dX12_landsActs_46
    rw [if_pos c2] at hF
    refine lv_aload_n hx hb dX12_landsActs_33 rfl (lv_at hl 0 rfl) ?_
    refine lv_iload_n hx hb dX12_landsActs_34 rfl (lv_at hl 1 rfl) ?_
    obtain ⟨r5, hc6, hF⟩ := bd_some hF
    have hPc := hP.sub (ws' := [o12 h x_thrown a_s a_image x_hasImage x_act x_spot x_end x_isWrong x_open a_by a_truths x_turn x_lean x_last x_angle x_asLay x_ticks a_bodies x_ran x_kind x_number x_tellsV, aI G a_bodies 20 f_bodies]) [0, 1] rfl
    have hDc := hD.sub (ws' := [o12 h x_thrown a_s a_image x_hasImage x_act x_spot x_end x_isWrong x_open a_by a_truths x_turn x_lean x_last x_angle x_asLay x_ticks a_bodies x_ran x_kind x_number x_tellsV, aI G a_bodies 20 f_bodies]) [0, 1] (by decide) rfl
    have hFc := va_free (wc := [o12 h x_thrown a_s a_image x_hasImage x_act x_spot x_end x_isWrong x_open a_by a_truths x_turn x_lean x_last x_angle x_asLay x_ticks a_bodies x_ran x_kind x_number x_tellsV, aI G a_bodies 20 f_bodies]) hD hS hA [0, 1] rfl
    have hM := c_X12_caughtLands l G h a_s a_image a_by a_truths a_bodies x_thrown x_hasImage x_act x_spot x_end x_isWrong x_open x_turn x_lean x_last x_angle x_asLay x_ticks x_ran x_kind x_number x_tellsV f_bodies l1 r5.1 r5.2.1 r5.2.2 hc6 H.size
    refine cl_i (w1 := [o12 h x_thrown a_s a_image x_hasImage x_act x_spot x_end x_isWrong x_open a_by a_truths x_turn x_lean x_last x_angle x_asLay x_ticks a_bodies r5.2.1 x_kind x_number x_tellsV, aI G a_bodies 20 r5.2.2]) (ws' := [o12 h x_thrown a_s a_image x_hasImage x_act x_spot x_end x_isWrong x_open a_by a_truths x_turn x_lean x_last x_angle x_asLay x_ticks a_bodies r5.2.1 x_kind x_number x_tellsV, aI G a_bodies 20 r5.2.2]) hP hD hS hFc [0, 1] rfl rfl rfl (va_runV (As := [.int l1]) (rest := []) ⟨hx, hb, hml, hown, hts⟩ hM (cwV 1 hts gX12_landsActs_X12_caughtLands rfl rfl rfl (by decide +kernel) ⟨Nat.le_of_ble_eq_true rfl, Nat.le_of_ble_eq_true rfl⟩) (cp_V hK hE hS hPc hDc hFc (va_recv hK hPc (ci := 12) (q0 := 0) rfl rfl)) rfl rfl hl.1 rfl (lv_room (Nat.le_of_ble_eq_true rfl)) dX12_landsActs_35 ⟨Nat.zero_le _, Nat.zero_le _⟩) (fun H locs hP hD hS => ?_)
    refine lv_goto (tgt := 46) hx hb dX12_landsActs_38 (by decide) ?_
    injection hF with hz
    injection hz with hq0 hz
    injection hz with hq1 hz
    subst hq0
    subst hq1
    subst hz
    exact cm_reti hx hb hr rfl hlk hK hP hD hS dX12_landsActs_46
  rw [if_pos c1] at hF
  refine lv_aload_n hx hb dX12_landsActs_8 rfl (lv_at hl 0 rfl) ?_
  refine lv_bipush (v := 61) hx hb dX12_landsActs_9 (by decide) ?_
  obtain ⟨r7, hc8, hF⟩ := bd_some hF
  have hPc := hP.sub (ws' := [o12 h x_thrown a_s a_image x_hasImage x_act x_spot x_end x_isWrong x_open a_by a_truths x_turn x_lean x_last x_angle x_asLay x_ticks a_bodies x_ran x_kind x_number x_tellsV, aI G a_bodies 20 f_bodies]) [0, 1] rfl
  have hDc := hD.sub (ws' := [o12 h x_thrown a_s a_image x_hasImage x_act x_spot x_end x_isWrong x_open a_by a_truths x_turn x_lean x_last x_angle x_asLay x_ticks a_bodies x_ran x_kind x_number x_tellsV, aI G a_bodies 20 f_bodies]) [0, 1] (by decide) rfl
  have hFc := va_free (wc := [o12 h x_thrown a_s a_image x_hasImage x_act x_spot x_end x_isWrong x_open a_by a_truths x_turn x_lean x_last x_angle x_asLay x_ticks a_bodies x_ran x_kind x_number x_tellsV, aI G a_bodies 20 f_bodies]) hD hS hA [0, 1] rfl
  have hM := c_X12_ranBody l G h a_s a_image a_by a_truths a_bodies x_thrown x_hasImage x_act x_spot x_end x_isWrong x_open x_turn x_lean x_last x_angle x_asLay x_ticks x_ran x_kind x_number x_tellsV f_bodies (61 : Int32) r7.1 r7.2 hc8 H.size
  refine cl_v (w1 := [o12 h x_thrown a_s a_image x_hasImage x_act x_spot x_end x_isWrong x_open a_by a_truths x_turn x_lean x_last x_angle x_asLay x_ticks a_bodies r7.1 x_kind x_number x_tellsV, aI G a_bodies 20 r7.2]) (ws' := [o12 h x_thrown a_s a_image x_hasImage x_act x_spot x_end x_isWrong x_open a_by a_truths x_turn x_lean x_last x_angle x_asLay x_ticks a_bodies r7.1 x_kind x_number x_tellsV, aI G a_bodies 20 r7.2]) hP hD hS hFc [0, 1] rfl rfl rfl (va_runV (As := [.int 61]) (rest := []) ⟨hx, hb, hml, hown, hts⟩ hM (cwV 1 hts gX12_landsActs_X12_ranBody rfl rfl rfl (by decide +kernel) ⟨Nat.le_of_ble_eq_true rfl, Nat.le_of_ble_eq_true rfl⟩) (cp_V hK hE hS hPc hDc hFc (va_recv hK hPc (ci := 12) (q0 := 0) rfl rfl)) rfl rfl hl.1 rfl (lv_room (Nat.le_of_ble_eq_true rfl)) dX12_landsActs_11 ⟨Nat.zero_le _, Nat.zero_le _⟩) (fun H locs hP hD hS => ?_)
  refine lv_aload_n hx hb dX12_landsActs_14 rfl (lv_at hl 0 rfl) ?_
  refine lv_iload_n hx hb dX12_landsActs_15 rfl (lv_at hl 1 rfl) ?_
  obtain ⟨r9, hc10, hF⟩ := bd_some hF
  have hPc := hP.sub (ws' := [o12 h x_thrown a_s a_image x_hasImage x_act x_spot x_end x_isWrong x_open a_by a_truths x_turn x_lean x_last x_angle x_asLay x_ticks a_bodies r7.1 x_kind x_number x_tellsV, aI G a_bodies 20 r7.2]) [0, 1] rfl
  have hDc := hD.sub (ws' := [o12 h x_thrown a_s a_image x_hasImage x_act x_spot x_end x_isWrong x_open a_by a_truths x_turn x_lean x_last x_angle x_asLay x_ticks a_bodies r7.1 x_kind x_number x_tellsV, aI G a_bodies 20 r7.2]) [0, 1] (by decide) rfl
  have hFc := va_free (wc := [o12 h x_thrown a_s a_image x_hasImage x_act x_spot x_end x_isWrong x_open a_by a_truths x_turn x_lean x_last x_angle x_asLay x_ticks a_bodies r7.1 x_kind x_number x_tellsV, aI G a_bodies 20 r7.2]) hD hS hA [0, 1] rfl
  have hM := c_X12_caughtLands l G h a_s a_image a_by a_truths a_bodies x_thrown x_hasImage x_act x_spot x_end x_isWrong x_open x_turn x_lean x_last x_angle x_asLay x_ticks r7.1 x_kind x_number x_tellsV r7.2 l1 r9.1 r9.2.1 r9.2.2 hc10 H.size
  refine cl_i (w1 := [o12 h x_thrown a_s a_image x_hasImage x_act x_spot x_end x_isWrong x_open a_by a_truths x_turn x_lean x_last x_angle x_asLay x_ticks a_bodies r9.2.1 x_kind x_number x_tellsV, aI G a_bodies 20 r9.2.2]) (ws' := [o12 h x_thrown a_s a_image x_hasImage x_act x_spot x_end x_isWrong x_open a_by a_truths x_turn x_lean x_last x_angle x_asLay x_ticks a_bodies r9.2.1 x_kind x_number x_tellsV, aI G a_bodies 20 r9.2.2]) hP hD hS hFc [0, 1] rfl rfl rfl (va_runV (As := [.int l1]) (rest := []) ⟨hx, hb, hml, hown, hts⟩ hM (cwV 1 hts gX12_landsActs_X12_caughtLands rfl rfl rfl (by decide +kernel) ⟨Nat.le_of_ble_eq_true rfl, Nat.le_of_ble_eq_true rfl⟩) (cp_V hK hE hS hPc hDc hFc (va_recv hK hPc (ci := 12) (q0 := 0) rfl rfl)) rfl rfl hl.1 rfl (lv_room (Nat.le_of_ble_eq_true rfl)) dX12_landsActs_16 ⟨Nat.zero_le _, Nat.zero_le _⟩) (fun H locs hP hD hS => ?_)
  refine lv_aload_n hx hb dX12_landsActs_19 rfl (lv_at hl 0 rfl) ?_
  refine va_get (D := G.1) (ci := 12) (v := .int x_tellsV) (C := RX12) (T := TX12) (N := 22) hx hb hts hin12 hown hK hP 0 rfl rfl 21 (by decide) lk_219 (fun _ h9 => h9) rfl dX12_landsActs_20 ?_
  refine lv_iadd hx hb dX12_landsActs_23 ?_
  refine W.eq (g2 := F0 m 24 ls [.int (r9.1 + x_tellsV)]) rfl ?_
  injection hF with hz
  injection hz with hq0 hz
  injection hz with hq1 hz
  subst hq0
  subst hq1
  subst hz
  exact cm_reti hx hb hr rfl hlk hK hP hD hS dX12_landsActs_24

/-! HeadsByHairModel.plainLeans(I)I -/
abbrev rm_X12_plainLeans : Room := { frames := 7, cells := 0, slots := 0, locals := 147 }
set_option maxHeartbeats 4000000 in
set_option maxRecDepth 100000 in
theorem c_X12_plainLeans (l : Launch) (G : GG) (h a_s a_image a_by a_truths a_bodies : Nat) (x_thrown x_hasImage x_act x_spot x_end x_isWrong x_open x_turn x_lean x_last x_angle x_asLay x_ticks x_ran x_kind x_number x_tellsV : Int32) (f_bodies : Nat → Int32) (l1 : Int32) (z : Int32) (z_x_ran : Int32) (z_f_bodies : Nat → Int32) (hF : fX12_plainLeans x_ran x_kind x_number x_tellsV f_bodies l1 = some (z, z_x_ran, z_f_bodies)) : CMi l yX12_plainLeans wsX12_plainLeans rm_X12_plainLeans G [o12 h x_thrown a_s a_image x_hasImage x_act x_spot x_end x_isWrong x_open a_by a_truths x_turn x_lean x_last x_angle x_asLay x_ticks a_bodies x_ran x_kind x_number x_tellsV, aI G a_bodies 20 f_bodies] [o12 h x_thrown a_s a_image x_hasImage x_act x_spot x_end x_isWrong x_open a_by a_truths x_turn x_lean x_last x_angle x_asLay x_ticks a_bodies z_x_ran x_kind x_number x_tellsV, aI G a_bodies 20 z_f_bodies] [.ref h, .int l1] z := by
  refine cm_start (cc := cX12_plainLeans) (maxL := 2) (ret := (some .int)) (Qc := fun A => QI G [o12 h x_thrown a_s a_image x_hasImage x_act x_spot x_end x_isWrong x_open a_by a_truths x_turn x_lean x_last x_angle x_asLay x_ticks a_bodies z_x_ran x_kind x_number x_tellsV, aI G a_bodies 20 z_f_bodies] z A) (by decide +kernel) rfl (Nat.le_of_ble_eq_true rfl) ?_
  intro p e s m args below meth c A hx hb hr hlk hml hown hnm hts hA H locs hP hK hD hE hS ls hl
  have hown : s.vm.findClass RX12 = some m.cls := hown
  have hl : lv_has ls 2 [(0, .ref h), (1, .int l1)] := hl
  revert hF
  intro hF
  unfold fX12_plainLeans at hF
  refine lv_aload_n hx hb dX12_plainLeans_0 rfl (lv_at hl 0 rfl) ?_
  refine lv_iconst (v := 3) hx hb dX12_plainLeans_1 (by decide) ?_
  obtain ⟨r1, hc2, hF⟩ := bd_some hF
  have hPc := hP.sub (ws' := [o12 h x_thrown a_s a_image x_hasImage x_act x_spot x_end x_isWrong x_open a_by a_truths x_turn x_lean x_last x_angle x_asLay x_ticks a_bodies x_ran x_kind x_number x_tellsV, aI G a_bodies 20 f_bodies]) [0, 1] rfl
  have hDc := hD.sub (ws' := [o12 h x_thrown a_s a_image x_hasImage x_act x_spot x_end x_isWrong x_open a_by a_truths x_turn x_lean x_last x_angle x_asLay x_ticks a_bodies x_ran x_kind x_number x_tellsV, aI G a_bodies 20 f_bodies]) [0, 1] (by decide) rfl
  have hFc := va_free (wc := [o12 h x_thrown a_s a_image x_hasImage x_act x_spot x_end x_isWrong x_open a_by a_truths x_turn x_lean x_last x_angle x_asLay x_ticks a_bodies x_ran x_kind x_number x_tellsV, aI G a_bodies 20 f_bodies]) hD hS hA [0, 1] rfl
  have hM := c_X12_ranBody l G h a_s a_image a_by a_truths a_bodies x_thrown x_hasImage x_act x_spot x_end x_isWrong x_open x_turn x_lean x_last x_angle x_asLay x_ticks x_ran x_kind x_number x_tellsV f_bodies (3 : Int32) r1.1 r1.2 hc2 H.size
  refine cl_v (w1 := [o12 h x_thrown a_s a_image x_hasImage x_act x_spot x_end x_isWrong x_open a_by a_truths x_turn x_lean x_last x_angle x_asLay x_ticks a_bodies r1.1 x_kind x_number x_tellsV, aI G a_bodies 20 r1.2]) (ws' := [o12 h x_thrown a_s a_image x_hasImage x_act x_spot x_end x_isWrong x_open a_by a_truths x_turn x_lean x_last x_angle x_asLay x_ticks a_bodies r1.1 x_kind x_number x_tellsV, aI G a_bodies 20 r1.2]) hP hD hS hFc [0, 1] rfl rfl rfl (va_runV (As := [.int 3]) (rest := []) ⟨hx, hb, hml, hown, hts⟩ hM (cwV 1 hts gX12_plainLeans_X12_ranBody rfl rfl rfl (by decide +kernel) ⟨Nat.le_of_ble_eq_true rfl, Nat.le_of_ble_eq_true rfl⟩) (cp_V hK hE hS hPc hDc hFc (va_recv hK hPc (ci := 12) (q0 := 0) rfl rfl)) rfl rfl hl.1 rfl (lv_room (Nat.le_of_ble_eq_true rfl)) dX12_plainLeans_2 ⟨Nat.zero_le _, Nat.zero_le _⟩) (fun H locs hP hD hS => ?_)
  refine lv_aload_n hx hb dX12_plainLeans_5 rfl (lv_at hl 0 rfl) ?_
  refine lv_iload_n hx hb dX12_plainLeans_6 rfl (lv_at hl 1 rfl) ?_
  obtain ⟨r3, hc4, hF⟩ := bd_some hF
  have hPc := hP.sub (ws' := [o12 h x_thrown a_s a_image x_hasImage x_act x_spot x_end x_isWrong x_open a_by a_truths x_turn x_lean x_last x_angle x_asLay x_ticks a_bodies r1.1 x_kind x_number x_tellsV, aI G a_bodies 20 r1.2]) [0, 1] rfl
  have hDc := hD.sub (ws' := [o12 h x_thrown a_s a_image x_hasImage x_act x_spot x_end x_isWrong x_open a_by a_truths x_turn x_lean x_last x_angle x_asLay x_ticks a_bodies r1.1 x_kind x_number x_tellsV, aI G a_bodies 20 r1.2]) [0, 1] (by decide) rfl
  have hFc := va_free (wc := [o12 h x_thrown a_s a_image x_hasImage x_act x_spot x_end x_isWrong x_open a_by a_truths x_turn x_lean x_last x_angle x_asLay x_ticks a_bodies r1.1 x_kind x_number x_tellsV, aI G a_bodies 20 r1.2]) hD hS hA [0, 1] rfl
  have hM := c_X12_landsActs l G h a_s a_image a_by a_truths a_bodies x_thrown x_hasImage x_act x_spot x_end x_isWrong x_open x_turn x_lean x_last x_angle x_asLay x_ticks r1.1 x_kind x_number x_tellsV r1.2 l1 r3.1 r3.2.1 r3.2.2 hc4 H.size
  refine cl_i (w1 := [o12 h x_thrown a_s a_image x_hasImage x_act x_spot x_end x_isWrong x_open a_by a_truths x_turn x_lean x_last x_angle x_asLay x_ticks a_bodies r3.2.1 x_kind x_number x_tellsV, aI G a_bodies 20 r3.2.2]) (ws' := [o12 h x_thrown a_s a_image x_hasImage x_act x_spot x_end x_isWrong x_open a_by a_truths x_turn x_lean x_last x_angle x_asLay x_ticks a_bodies r3.2.1 x_kind x_number x_tellsV, aI G a_bodies 20 r3.2.2]) hP hD hS hFc [0, 1] rfl rfl rfl (va_runV (As := [.int l1]) (rest := []) ⟨hx, hb, hml, hown, hts⟩ hM (cwV 1 hts gX12_plainLeans_X12_landsActs rfl rfl rfl (by decide +kernel) ⟨Nat.le_of_ble_eq_true rfl, Nat.le_of_ble_eq_true rfl⟩) (cp_V hK hE hS hPc hDc hFc (va_recv hK hPc (ci := 12) (q0 := 0) rfl rfl)) rfl rfl hl.1 rfl (lv_room (Nat.le_of_ble_eq_true rfl)) dX12_plainLeans_7 ⟨Nat.zero_le _, Nat.zero_le _⟩) (fun H locs hP hD hS => ?_)
  refine lv_iconst (v := 2) hx hb dX12_plainLeans_10 (by decide) ?_
  refine lv_imul hx hb dX12_plainLeans_11 ?_
  injection hF with hz
  injection hz with hq0 hz
  injection hz with hq1 hz
  subst hq0
  subst hq1
  subst hz
  exact cm_reti hx hb hr rfl hlk hK hP hD hS dX12_plainLeans_12

/-! HeadsByHairModel.leansActs(I)I -/
abbrev rm_X12_leansActs : Room := { frames := 8, cells := 0, slots := 0, locals := 168 }
set_option maxHeartbeats 4000000 in
set_option maxRecDepth 100000 in
theorem c_X12_leansActs (l : Launch) (G : GG) (h a_s a_image a_by a_truths a_bodies : Nat) (x_thrown x_hasImage x_act x_spot x_end x_isWrong x_open x_turn x_lean x_last x_angle x_asLay x_ticks x_ran x_kind x_number x_tellsV : Int32) (f_bodies : Nat → Int32) (l1 : Int32) (z : Int32) (z_x_ran : Int32) (z_f_bodies : Nat → Int32) (hF : fX12_leansActs x_ran x_kind x_number x_tellsV f_bodies l1 = some (z, z_x_ran, z_f_bodies)) : CMi l yX12_leansActs wsX12_leansActs rm_X12_leansActs G [o12 h x_thrown a_s a_image x_hasImage x_act x_spot x_end x_isWrong x_open a_by a_truths x_turn x_lean x_last x_angle x_asLay x_ticks a_bodies x_ran x_kind x_number x_tellsV, aI G a_bodies 20 f_bodies] [o12 h x_thrown a_s a_image x_hasImage x_act x_spot x_end x_isWrong x_open a_by a_truths x_turn x_lean x_last x_angle x_asLay x_ticks a_bodies z_x_ran x_kind x_number x_tellsV, aI G a_bodies 20 z_f_bodies] [.ref h, .int l1] z := by
  refine cm_start (cc := cX12_leansActs) (maxL := 3) (ret := (some .int)) (Qc := fun A => QI G [o12 h x_thrown a_s a_image x_hasImage x_act x_spot x_end x_isWrong x_open a_by a_truths x_turn x_lean x_last x_angle x_asLay x_ticks a_bodies z_x_ran x_kind x_number x_tellsV, aI G a_bodies 20 z_f_bodies] z A) (by decide +kernel) rfl (Nat.le_of_ble_eq_true rfl) ?_
  intro p e s m args below meth c A hx hb hr hlk hml hown hnm hts hA H locs hP hK hD hE hS ls hl
  have hown : s.vm.findClass RX12 = some m.cls := hown
  have hl : lv_has ls 3 [(0, .ref h), (1, .int l1)] := hl
  have hin12 : ∀ w ∈ wsX120, w ∈ wsX12_leansActs := by decide +kernel
  have lk_206 := hts (.fieldLink RX12 206 "HeadsByHairModel" "kind" "I") (by decide +kernel)
  revert hF
  intro hF
  unfold fX12_leansActs at hF
  refine lv_aload_n hx hb dX12_leansActs_0 rfl (lv_at hl 0 rfl) ?_
  refine va_get (D := G.1) (ci := 12) (v := .int x_kind) (C := RX12) (T := TX12) (N := 22) hx hb hts hin12 hown hK hP 0 rfl rfl 19 (by decide) lk_206 (fun _ h9 => h9) rfl dX12_leansActs_1 ?_
  refine lv_iconst (v := 5) hx hb dX12_leansActs_4 (by decide) ?_
  refine lv_icmp_ne (tgt := 23) hx hb dX12_leansActs_5 (by decide) (fun c1 => ?_) (fun c1 => ?_)
  · rw [if_neg c1] at hF
    refine lv_aload_n hx hb dX12_leansActs_23 rfl (lv_at hl 0 rfl) ?_
    refine va_get (D := G.1) (ci := 12) (v := .int x_kind) (C := RX12) (T := TX12) (N := 22) hx hb hts hin12 hown hK hP 0 rfl rfl 19 (by decide) lk_206 (fun _ h9 => h9) rfl dX12_leansActs_24 ?_
    refine lv_iconst (v := 2) hx hb dX12_leansActs_27 (by decide) ?_
    obtain ⟨r2, hc3, hF⟩ := bd_some hF
    have hPc := hP.sub (ws' := []) [] rfl
    have hDc := hD.sub (ws' := []) [] (by decide) rfl
    have hFc := va_free (wc := []) hD hS hA [] rfl
    have hM := c_X12_isUnder l G x_kind (2 : Int32) r2 hc3 H.size
    refine cl_i (w1 := []) (ws' := [o12 h x_thrown a_s a_image x_hasImage x_act x_spot x_end x_isWrong x_open a_by a_truths x_turn x_lean x_last x_angle x_asLay x_ticks a_bodies x_ran x_kind x_number x_tellsV, aI G a_bodies 20 f_bodies]) hP hD hS hFc [] rfl rfl rfl (va_runS (As := [.int x_kind, .int 2]) (rest := []) ⟨hx, hb, hml, hown, hts⟩ hM (va_cwS 2 hts gX12_leansActs_X12_isUnder rfl rfl rfl (by decide +kernel) ⟨Nat.le_of_ble_eq_true rfl, Nat.le_of_ble_eq_true rfl⟩) (cp_S hK hE hS hPc hDc hFc) rfl rfl hl.1 rfl (lv_room (Nat.le_of_ble_eq_true rfl)) dX12_leansActs_28 ⟨Nat.zero_le _, Nat.zero_le _⟩) (fun H locs hP hD hS => ?_)
    refine lv_if_eq (tgt := 56) hx hb dX12_leansActs_31 (by decide) (fun c4 => ?_) (fun c4 => ?_)
    · rw [if_pos c4] at hF
      refine lv_aload_n hx hb dX12_leansActs_56 rfl (lv_at hl 0 rfl) ?_
      refine lv_iload_n hx hb dX12_leansActs_57 rfl (lv_at hl 1 rfl) ?_
      obtain ⟨r5, hc6, hF⟩ := bd_some hF
      have hPc := hP.sub (ws' := [o12 h x_thrown a_s a_image x_hasImage x_act x_spot x_end x_isWrong x_open a_by a_truths x_turn x_lean x_last x_angle x_asLay x_ticks a_bodies x_ran x_kind x_number x_tellsV, aI G a_bodies 20 f_bodies]) [0, 1] rfl
      have hDc := hD.sub (ws' := [o12 h x_thrown a_s a_image x_hasImage x_act x_spot x_end x_isWrong x_open a_by a_truths x_turn x_lean x_last x_angle x_asLay x_ticks a_bodies x_ran x_kind x_number x_tellsV, aI G a_bodies 20 f_bodies]) [0, 1] (by decide) rfl
      have hFc := va_free (wc := [o12 h x_thrown a_s a_image x_hasImage x_act x_spot x_end x_isWrong x_open a_by a_truths x_turn x_lean x_last x_angle x_asLay x_ticks a_bodies x_ran x_kind x_number x_tellsV, aI G a_bodies 20 f_bodies]) hD hS hA [0, 1] rfl
      have hM := c_X12_plainLeans l G h a_s a_image a_by a_truths a_bodies x_thrown x_hasImage x_act x_spot x_end x_isWrong x_open x_turn x_lean x_last x_angle x_asLay x_ticks x_ran x_kind x_number x_tellsV f_bodies l1 r5.1 r5.2.1 r5.2.2 hc6 H.size
      refine cl_i (w1 := [o12 h x_thrown a_s a_image x_hasImage x_act x_spot x_end x_isWrong x_open a_by a_truths x_turn x_lean x_last x_angle x_asLay x_ticks a_bodies r5.2.1 x_kind x_number x_tellsV, aI G a_bodies 20 r5.2.2]) (ws' := [o12 h x_thrown a_s a_image x_hasImage x_act x_spot x_end x_isWrong x_open a_by a_truths x_turn x_lean x_last x_angle x_asLay x_ticks a_bodies r5.2.1 x_kind x_number x_tellsV, aI G a_bodies 20 r5.2.2]) hP hD hS hFc [0, 1] rfl rfl rfl (va_runV (As := [.int l1]) (rest := []) ⟨hx, hb, hml, hown, hts⟩ hM (cwV 1 hts gX12_leansActs_X12_plainLeans rfl rfl rfl (by decide +kernel) ⟨Nat.le_of_ble_eq_true rfl, Nat.le_of_ble_eq_true rfl⟩) (cp_V hK hE hS hPc hDc hFc (va_recv hK hPc (ci := 12) (q0 := 0) rfl rfl)) rfl rfl hl.1 rfl (lv_room (Nat.le_of_ble_eq_true rfl)) dX12_leansActs_58 ⟨Nat.zero_le _, Nat.zero_le _⟩) (fun H locs hP hD hS => ?_)
      injection hF with hz
      injection hz with hq0 hz
      injection hz with hq1 hz
      subst hq0
      subst hq1
      subst hz
      exact cm_reti hx hb hr rfl hlk hK hP hD hS dX12_leansActs_61
    rw [if_neg c4] at hF
    refine lv_aload_n hx hb dX12_leansActs_34 rfl (lv_at hl 0 rfl) ?_
    refine lv_bipush (v := 41) hx hb dX12_leansActs_35 (by decide) ?_
    obtain ⟨r7, hc8, hF⟩ := bd_some hF
    have hPc := hP.sub (ws' := [o12 h x_thrown a_s a_image x_hasImage x_act x_spot x_end x_isWrong x_open a_by a_truths x_turn x_lean x_last x_angle x_asLay x_ticks a_bodies x_ran x_kind x_number x_tellsV, aI G a_bodies 20 f_bodies]) [0, 1] rfl
    have hDc := hD.sub (ws' := [o12 h x_thrown a_s a_image x_hasImage x_act x_spot x_end x_isWrong x_open a_by a_truths x_turn x_lean x_last x_angle x_asLay x_ticks a_bodies x_ran x_kind x_number x_tellsV, aI G a_bodies 20 f_bodies]) [0, 1] (by decide) rfl
    have hFc := va_free (wc := [o12 h x_thrown a_s a_image x_hasImage x_act x_spot x_end x_isWrong x_open a_by a_truths x_turn x_lean x_last x_angle x_asLay x_ticks a_bodies x_ran x_kind x_number x_tellsV, aI G a_bodies 20 f_bodies]) hD hS hA [0, 1] rfl
    have hM := c_X12_ranBody l G h a_s a_image a_by a_truths a_bodies x_thrown x_hasImage x_act x_spot x_end x_isWrong x_open x_turn x_lean x_last x_angle x_asLay x_ticks x_ran x_kind x_number x_tellsV f_bodies (41 : Int32) r7.1 r7.2 hc8 H.size
    refine cl_v (w1 := [o12 h x_thrown a_s a_image x_hasImage x_act x_spot x_end x_isWrong x_open a_by a_truths x_turn x_lean x_last x_angle x_asLay x_ticks a_bodies r7.1 x_kind x_number x_tellsV, aI G a_bodies 20 r7.2]) (ws' := [o12 h x_thrown a_s a_image x_hasImage x_act x_spot x_end x_isWrong x_open a_by a_truths x_turn x_lean x_last x_angle x_asLay x_ticks a_bodies r7.1 x_kind x_number x_tellsV, aI G a_bodies 20 r7.2]) hP hD hS hFc [0, 1] rfl rfl rfl (va_runV (As := [.int 41]) (rest := []) ⟨hx, hb, hml, hown, hts⟩ hM (cwV 1 hts gX12_leansActs_X12_ranBody rfl rfl rfl (by decide +kernel) ⟨Nat.le_of_ble_eq_true rfl, Nat.le_of_ble_eq_true rfl⟩) (cp_V hK hE hS hPc hDc hFc (va_recv hK hPc (ci := 12) (q0 := 0) rfl rfl)) rfl rfl hl.1 rfl (lv_room (Nat.le_of_ble_eq_true rfl)) dX12_leansActs_37 ⟨Nat.zero_le _, Nat.zero_le _⟩) (fun H locs hP hD hS => ?_)
    refine lv_aload_n hx hb dX12_leansActs_40 rfl (lv_at hl 0 rfl) ?_
    refine W.eq (g2 := F0 m 41 ls [.ref h]) rfl ?_
    refine lv_iload_n hx hb dX12_leansActs_41 rfl (lv_at hl 1 rfl) ?_
    refine lv_iconst (v := 1) hx hb dX12_leansActs_42 (by decide) ?_
    refine lv_isub hx hb dX12_leansActs_43 ?_
    obtain ⟨r9, hc10, hF⟩ := bd_some hF
    have hPc := hP.sub (ws' := [o12 h x_thrown a_s a_image x_hasImage x_act x_spot x_end x_isWrong x_open a_by a_truths x_turn x_lean x_last x_angle x_asLay x_ticks a_bodies r7.1 x_kind x_number x_tellsV, aI G a_bodies 20 r7.2]) [0, 1] rfl
    have hDc := hD.sub (ws' := [o12 h x_thrown a_s a_image x_hasImage x_act x_spot x_end x_isWrong x_open a_by a_truths x_turn x_lean x_last x_angle x_asLay x_ticks a_bodies r7.1 x_kind x_number x_tellsV, aI G a_bodies 20 r7.2]) [0, 1] (by decide) rfl
    have hFc := va_free (wc := [o12 h x_thrown a_s a_image x_hasImage x_act x_spot x_end x_isWrong x_open a_by a_truths x_turn x_lean x_last x_angle x_asLay x_ticks a_bodies r7.1 x_kind x_number x_tellsV, aI G a_bodies 20 r7.2]) hD hS hA [0, 1] rfl
    have hM := c_X12_plainLeans l G h a_s a_image a_by a_truths a_bodies x_thrown x_hasImage x_act x_spot x_end x_isWrong x_open x_turn x_lean x_last x_angle x_asLay x_ticks r7.1 x_kind x_number x_tellsV r7.2 (l1 - 1) r9.1 r9.2.1 r9.2.2 hc10 H.size
    refine cl_i (w1 := [o12 h x_thrown a_s a_image x_hasImage x_act x_spot x_end x_isWrong x_open a_by a_truths x_turn x_lean x_last x_angle x_asLay x_ticks a_bodies r9.2.1 x_kind x_number x_tellsV, aI G a_bodies 20 r9.2.2]) (ws' := [o12 h x_thrown a_s a_image x_hasImage x_act x_spot x_end x_isWrong x_open a_by a_truths x_turn x_lean x_last x_angle x_asLay x_ticks a_bodies r9.2.1 x_kind x_number x_tellsV, aI G a_bodies 20 r9.2.2]) hP hD hS hFc [0, 1] rfl rfl rfl (va_runV (As := [.int (l1 - 1)]) (rest := []) ⟨hx, hb, hml, hown, hts⟩ hM (cwV 1 hts gX12_leansActs_X12_plainLeans rfl rfl rfl (by decide +kernel) ⟨Nat.le_of_ble_eq_true rfl, Nat.le_of_ble_eq_true rfl⟩) (cp_V hK hE hS hPc hDc hFc (va_recv hK hPc (ci := 12) (q0 := 0) rfl rfl)) rfl rfl hl.1 rfl (lv_room (Nat.le_of_ble_eq_true rfl)) dX12_leansActs_44 ⟨Nat.zero_le _, Nat.zero_le _⟩) (fun H locs hP hD hS => ?_)
    refine lv_istore_n (lv' := [(2, .int r9.1), (0, .ref h), (1, .int l1)]) hx hb dX12_leansActs_47 rfl hl (by decide) rfl (fun ls hl => ?_)
    refine lv_iload_n hx hb dX12_leansActs_48 rfl (lv_at hl 0 rfl) ?_
    refine lv_aload_n hx hb dX12_leansActs_49 rfl (lv_at hl 1 rfl) ?_
    refine lv_iconst (v := 2) hx hb dX12_leansActs_50 (by decide) ?_
    obtain ⟨r11, hc12, hF⟩ := bd_some hF
    have hPc := hP.sub (ws' := [o12 h x_thrown a_s a_image x_hasImage x_act x_spot x_end x_isWrong x_open a_by a_truths x_turn x_lean x_last x_angle x_asLay x_ticks a_bodies r9.2.1 x_kind x_number x_tellsV, aI G a_bodies 20 r9.2.2]) [0, 1] rfl
    have hDc := hD.sub (ws' := [o12 h x_thrown a_s a_image x_hasImage x_act x_spot x_end x_isWrong x_open a_by a_truths x_turn x_lean x_last x_angle x_asLay x_ticks a_bodies r9.2.1 x_kind x_number x_tellsV, aI G a_bodies 20 r9.2.2]) [0, 1] (by decide) rfl
    have hFc := va_free (wc := [o12 h x_thrown a_s a_image x_hasImage x_act x_spot x_end x_isWrong x_open a_by a_truths x_turn x_lean x_last x_angle x_asLay x_ticks a_bodies r9.2.1 x_kind x_number x_tellsV, aI G a_bodies 20 r9.2.2]) hD hS hA [0, 1] rfl
    have hM := c_X12_turnsActs l G h a_s a_image a_by a_truths a_bodies x_thrown x_hasImage x_act x_spot x_end x_isWrong x_open x_turn x_lean x_last x_angle x_asLay x_ticks r9.2.1 x_kind x_number x_tellsV r9.2.2 (2 : Int32) r11.1 r11.2.1 r11.2.2 hc12 H.size
    refine cl_i (w1 := [o12 h x_thrown a_s a_image x_hasImage x_act x_spot x_end x_isWrong x_open a_by a_truths x_turn x_lean x_last x_angle x_asLay x_ticks a_bodies r11.2.1 x_kind x_number x_tellsV, aI G a_bodies 20 r11.2.2]) (ws' := [o12 h x_thrown a_s a_image x_hasImage x_act x_spot x_end x_isWrong x_open a_by a_truths x_turn x_lean x_last x_angle x_asLay x_ticks a_bodies r11.2.1 x_kind x_number x_tellsV, aI G a_bodies 20 r11.2.2]) hP hD hS hFc [0, 1] rfl rfl rfl (va_runV (As := [.int 2]) (rest := [.int r9.1]) ⟨hx, hb, hml, hown, hts⟩ hM (cwV 1 hts gX12_leansActs_X12_turnsActs rfl rfl rfl (by decide +kernel) ⟨Nat.le_of_ble_eq_true rfl, Nat.le_of_ble_eq_true rfl⟩) (cp_V hK hE hS hPc hDc hFc (va_recv hK hPc (ci := 12) (q0 := 0) rfl rfl)) rfl rfl hl.1 rfl (lv_room (Nat.le_of_ble_eq_true rfl)) dX12_leansActs_51 ⟨Nat.zero_le _, Nat.zero_le _⟩) (fun H locs hP hD hS => ?_)
    refine lv_iadd hx hb dX12_leansActs_54 ?_
    injection hF with hz
    injection hz with hq0 hz
    injection hz with hq1 hz
    subst hq0
    subst hq1
    subst hz
    exact cm_reti hx hb hr rfl hlk hK hP hD hS dX12_leansActs_55
  rw [if_pos c1] at hF
  refine lv_aload_n hx hb dX12_leansActs_8 rfl (lv_at hl 0 rfl) ?_
  refine lv_bipush (v := 31) hx hb dX12_leansActs_9 (by decide) ?_
  obtain ⟨r13, hc14, hF⟩ := bd_some hF
  have hPc := hP.sub (ws' := [o12 h x_thrown a_s a_image x_hasImage x_act x_spot x_end x_isWrong x_open a_by a_truths x_turn x_lean x_last x_angle x_asLay x_ticks a_bodies x_ran x_kind x_number x_tellsV, aI G a_bodies 20 f_bodies]) [0, 1] rfl
  have hDc := hD.sub (ws' := [o12 h x_thrown a_s a_image x_hasImage x_act x_spot x_end x_isWrong x_open a_by a_truths x_turn x_lean x_last x_angle x_asLay x_ticks a_bodies x_ran x_kind x_number x_tellsV, aI G a_bodies 20 f_bodies]) [0, 1] (by decide) rfl
  have hFc := va_free (wc := [o12 h x_thrown a_s a_image x_hasImage x_act x_spot x_end x_isWrong x_open a_by a_truths x_turn x_lean x_last x_angle x_asLay x_ticks a_bodies x_ran x_kind x_number x_tellsV, aI G a_bodies 20 f_bodies]) hD hS hA [0, 1] rfl
  have hM := c_X12_ranBody l G h a_s a_image a_by a_truths a_bodies x_thrown x_hasImage x_act x_spot x_end x_isWrong x_open x_turn x_lean x_last x_angle x_asLay x_ticks x_ran x_kind x_number x_tellsV f_bodies (31 : Int32) r13.1 r13.2 hc14 H.size
  refine cl_v (w1 := [o12 h x_thrown a_s a_image x_hasImage x_act x_spot x_end x_isWrong x_open a_by a_truths x_turn x_lean x_last x_angle x_asLay x_ticks a_bodies r13.1 x_kind x_number x_tellsV, aI G a_bodies 20 r13.2]) (ws' := [o12 h x_thrown a_s a_image x_hasImage x_act x_spot x_end x_isWrong x_open a_by a_truths x_turn x_lean x_last x_angle x_asLay x_ticks a_bodies r13.1 x_kind x_number x_tellsV, aI G a_bodies 20 r13.2]) hP hD hS hFc [0, 1] rfl rfl rfl (va_runV (As := [.int 31]) (rest := []) ⟨hx, hb, hml, hown, hts⟩ hM (cwV 1 hts gX12_leansActs_X12_ranBody rfl rfl rfl (by decide +kernel) ⟨Nat.le_of_ble_eq_true rfl, Nat.le_of_ble_eq_true rfl⟩) (cp_V hK hE hS hPc hDc hFc (va_recv hK hPc (ci := 12) (q0 := 0) rfl rfl)) rfl rfl hl.1 rfl (lv_room (Nat.le_of_ble_eq_true rfl)) dX12_leansActs_11 ⟨Nat.zero_le _, Nat.zero_le _⟩) (fun H locs hP hD hS => ?_)
  refine lv_aload_n hx hb dX12_leansActs_14 rfl (lv_at hl 0 rfl) ?_
  refine lv_iload_n hx hb dX12_leansActs_15 rfl (lv_at hl 1 rfl) ?_
  obtain ⟨r15, hc16, hF⟩ := bd_some hF
  have hPc := hP.sub (ws' := [o12 h x_thrown a_s a_image x_hasImage x_act x_spot x_end x_isWrong x_open a_by a_truths x_turn x_lean x_last x_angle x_asLay x_ticks a_bodies r13.1 x_kind x_number x_tellsV, aI G a_bodies 20 r13.2]) [0, 1] rfl
  have hDc := hD.sub (ws' := [o12 h x_thrown a_s a_image x_hasImage x_act x_spot x_end x_isWrong x_open a_by a_truths x_turn x_lean x_last x_angle x_asLay x_ticks a_bodies r13.1 x_kind x_number x_tellsV, aI G a_bodies 20 r13.2]) [0, 1] (by decide) rfl
  have hFc := va_free (wc := [o12 h x_thrown a_s a_image x_hasImage x_act x_spot x_end x_isWrong x_open a_by a_truths x_turn x_lean x_last x_angle x_asLay x_ticks a_bodies r13.1 x_kind x_number x_tellsV, aI G a_bodies 20 r13.2]) hD hS hA [0, 1] rfl
  have hM := c_X12_plainLeans l G h a_s a_image a_by a_truths a_bodies x_thrown x_hasImage x_act x_spot x_end x_isWrong x_open x_turn x_lean x_last x_angle x_asLay x_ticks r13.1 x_kind x_number x_tellsV r13.2 l1 r15.1 r15.2.1 r15.2.2 hc16 H.size
  refine cl_i (w1 := [o12 h x_thrown a_s a_image x_hasImage x_act x_spot x_end x_isWrong x_open a_by a_truths x_turn x_lean x_last x_angle x_asLay x_ticks a_bodies r15.2.1 x_kind x_number x_tellsV, aI G a_bodies 20 r15.2.2]) (ws' := [o12 h x_thrown a_s a_image x_hasImage x_act x_spot x_end x_isWrong x_open a_by a_truths x_turn x_lean x_last x_angle x_asLay x_ticks a_bodies r15.2.1 x_kind x_number x_tellsV, aI G a_bodies 20 r15.2.2]) hP hD hS hFc [0, 1] rfl rfl rfl (va_runV (As := [.int l1]) (rest := []) ⟨hx, hb, hml, hown, hts⟩ hM (cwV 1 hts gX12_leansActs_X12_plainLeans rfl rfl rfl (by decide +kernel) ⟨Nat.le_of_ble_eq_true rfl, Nat.le_of_ble_eq_true rfl⟩) (cp_V hK hE hS hPc hDc hFc (va_recv hK hPc (ci := 12) (q0 := 0) rfl rfl)) rfl rfl hl.1 rfl (lv_room (Nat.le_of_ble_eq_true rfl)) dX12_leansActs_16 ⟨Nat.zero_le _, Nat.zero_le _⟩) (fun H locs hP hD hS => ?_)
  refine lv_bipush (v := 7) hx hb dX12_leansActs_19 (by decide) ?_
  refine lv_ixor hx hb dX12_leansActs_21 ?_
  injection hF with hz
  injection hz with hq0 hz
  injection hz with hq1 hz
  subst hq0
  subst hq1
  subst hz
  exact cm_reti hx hb hr rfl hlk hK hP hD hS dX12_leansActs_22

/-! HeadsByHairModel.act(III)I -/
abbrev rm_X12_act : Room := { frames := 9, cells := 0, slots := 0, locals := 190 }
set_option maxHeartbeats 4000000 in
set_option maxRecDepth 100000 in
theorem c_X12_act (l : Launch) (G : GG) (h a_s a_image a_by a_truths a_bodies : Nat) (x_thrown x_hasImage x_act x_spot x_end x_isWrong x_open x_turn x_lean x_last x_angle x_asLay x_ticks x_ran x_kind x_number x_tellsV : Int32) (f_bodies : Nat → Int32) (f_s : Nat → Int32) (l1 : Int32) (l2 : Int32) (l3 : Int32) (z : Int32) (z_x_ran : Int32) (z_x_kind : Int32) (z_x_number : Int32) (z_x_tellsV : Int32) (z_f_bodies : Nat → Int32) (hF : fX12_act x_ran x_kind x_number x_tellsV f_bodies f_s l1 l2 l3 = some (z, z_x_ran, z_x_kind, z_x_number, z_x_tellsV, z_f_bodies)) : CMi l yX12_act wsX12_act rm_X12_act G [o12 h x_thrown a_s a_image x_hasImage x_act x_spot x_end x_isWrong x_open a_by a_truths x_turn x_lean x_last x_angle x_asLay x_ticks a_bodies x_ran x_kind x_number x_tellsV, aI G a_bodies 20 f_bodies, aI G a_s 1394 f_s] [o12 h x_thrown a_s a_image x_hasImage x_act x_spot x_end x_isWrong x_open a_by a_truths x_turn x_lean x_last x_angle x_asLay x_ticks a_bodies z_x_ran z_x_kind z_x_number z_x_tellsV, aI G a_bodies 20 z_f_bodies, aI G a_s 1394 f_s] [.ref h, .int l1, .int l2, .int l3] z := by
  refine cm_start (cc := cX12_act) (maxL := 4) (ret := (some .int)) (Qc := fun A => QI G [o12 h x_thrown a_s a_image x_hasImage x_act x_spot x_end x_isWrong x_open a_by a_truths x_turn x_lean x_last x_angle x_asLay x_ticks a_bodies z_x_ran z_x_kind z_x_number z_x_tellsV, aI G a_bodies 20 z_f_bodies, aI G a_s 1394 f_s] z A) (by decide +kernel) rfl (Nat.le_of_ble_eq_true rfl) ?_
  intro p e s m args below meth c A hx hb hr hlk hml hown hnm hts hA H locs hP hK hD hE hS ls hl
  have hown : s.vm.findClass RX12 = some m.cls := hown
  have hl : lv_has ls 4 [(0, .ref h), (1, .int l1), (2, .int l2), (3, .int l3)] := hl
  have hin12 : ∀ w ∈ wsX120, w ∈ wsX12_act := by decide +kernel
  have lk_194 := hts (.fieldLink RX12 194 "HeadsByHairModel" "ran" "I") (by decide +kernel)
  have lk_9 := hts (.fieldLink RX12 9 "HeadsByHairModel" "s" "[I") (by decide +kernel)
  have lk_206 := hts (.fieldLink RX12 206 "HeadsByHairModel" "kind" "I") (by decide +kernel)
  have lk_200 := hts (.fieldLink RX12 200 "HeadsByHairModel" "number" "I") (by decide +kernel)
  have lk_219 := hts (.fieldLink RX12 219 "HeadsByHairModel" "tellsV" "I") (by decide +kernel)
  revert hF
  intro hF
  unfold fX12_act at hF
  refine lv_aload_n hx hb dX12_act_0 rfl (lv_at hl 0 rfl) ?_
  refine lv_iconst (v := 0) hx hb dX12_act_1 (by decide) ?_
  refine va_put (D := G.1) (ci := 12) (v := .int 0) (ty := .int) (C := RX12) (T := TX12) (N := 22) hx hb hts hin12 tyX12 tyX12_ok nmX12 hown hK hP hD hS 0 rfl rfl 18 (by decide) lk_194 (fun _ h9 => h9) rfl (tyX12_ok 18 (by decide)) rfl rfl (Nat.le_of_ble_eq_true rfl) dX12_act_2 (fun H locs hP hD hS => ?_)
  have hP : va_P G.1 vwCl [o12 h x_thrown a_s a_image x_hasImage x_act x_spot x_end x_isWrong x_open a_by a_truths x_turn x_lean x_last x_angle x_asLay x_ticks a_bodies 0 x_kind x_number x_tellsV, aI G a_bodies 20 f_bodies, aI G a_s 1394 f_s] H := hP
  have hD : va_D A [o12 h x_thrown a_s a_image x_hasImage x_act x_spot x_end x_isWrong x_open a_by a_truths x_turn x_lean x_last x_angle x_asLay x_ticks a_bodies 0 x_kind x_number x_tellsV, aI G a_bodies 20 f_bodies, aI G a_s 1394 f_s] := hD
  refine lv_aload_n hx hb dX12_act_5 rfl (lv_at hl 0 rfl) ?_
  refine lv_iload_n hx hb dX12_act_6 rfl (lv_at hl 1 rfl) ?_
  obtain ⟨r1, hc2, hF⟩ := bd_some hF
  have hPc := hP.sub (ws' := [o12 h x_thrown a_s a_image x_hasImage x_act x_spot x_end x_isWrong x_open a_by a_truths x_turn x_lean x_last x_angle x_asLay x_ticks a_bodies 0 x_kind x_number x_tellsV, aI G a_s 1394 f_s]) [0, 2] rfl
  have hDc := hD.sub (ws' := [o12 h x_thrown a_s a_image x_hasImage x_act x_spot x_end x_isWrong x_open a_by a_truths x_turn x_lean x_last x_angle x_asLay x_ticks a_bodies 0 x_kind x_number x_tellsV, aI G a_s 1394 f_s]) [0, 2] (by decide) rfl
  have hFc := va_free (wc := [o12 h x_thrown a_s a_image x_hasImage x_act x_spot x_end x_isWrong x_open a_by a_truths x_turn x_lean x_last x_angle x_asLay x_ticks a_bodies 0 x_kind x_number x_tellsV, aI G a_s 1394 f_s]) hD hS hA [0, 2] rfl
  have hM := c_X12_isLaw l G h a_s a_image a_by a_truths a_bodies x_thrown x_hasImage x_act x_spot x_end x_isWrong x_open x_turn x_lean x_last x_angle x_asLay x_ticks 0 x_kind x_number x_tellsV f_s l1 r1 hc2 H.size
  refine cl_i (w1 := [o12 h x_thrown a_s a_image x_hasImage x_act x_spot x_end x_isWrong x_open a_by a_truths x_turn x_lean x_last x_angle x_asLay x_ticks a_bodies 0 x_kind x_number x_tellsV, aI G a_s 1394 f_s]) (ws' := [o12 h x_thrown a_s a_image x_hasImage x_act x_spot x_end x_isWrong x_open a_by a_truths x_turn x_lean x_last x_angle x_asLay x_ticks a_bodies 0 x_kind x_number x_tellsV, aI G a_bodies 20 f_bodies, aI G a_s 1394 f_s]) hP hD hS hFc [0, 2] rfl rfl rfl (va_runV (As := [.int l1]) (rest := []) ⟨hx, hb, hml, hown, hts⟩ hM (cwV 1 hts gX12_act_X12_isLaw rfl rfl rfl (by decide +kernel) ⟨Nat.le_of_ble_eq_true rfl, Nat.le_of_ble_eq_true rfl⟩) (cp_V hK hE hS hPc hDc hFc (va_recv hK hPc (ci := 12) (q0 := 0) rfl rfl)) rfl rfl hl.1 rfl (lv_room (Nat.le_of_ble_eq_true rfl)) dX12_act_7 ⟨Nat.zero_le _, Nat.zero_le _⟩) (fun H locs hP hD hS => ?_)
  refine lv_if_eq (tgt := 22) hx hb dX12_act_10 (by decide) (fun c3 => ?_) (fun c3 => ?_)
  · rw [if_pos c3] at hF
    refine lv_iconst (v := 0) hx hb dX12_act_22 (by decide) ?_
    injection hF with hz
    injection hz with hq0 hz
    injection hz with hq1 hz
    injection hz with hq2 hz
    injection hz with hq3 hz
    injection hz with hq4 hz
    subst hq0
    subst hq1
    subst hq2
    subst hq3
    subst hq4
    subst hz
    exact cm_reti hx hb hr rfl hlk hK hP hD hS dX12_act_23
  rw [if_neg c3] at hF
  refine lv_iload_n hx hb dX12_act_13 rfl (lv_at hl 2 rfl) ?_
  refine lv_iconst (v := 0) hx hb dX12_act_14 (by decide) ?_
  refine lv_iconst (v := 2) hx hb dX12_act_15 (by decide) ?_
  obtain ⟨r4, hc5, hF⟩ := bd_some hF
  have hPc := hP.sub (ws' := []) [] rfl
  have hDc := hD.sub (ws' := []) [] (by decide) rfl
  have hFc := va_free (wc := []) hD hS hA [] rfl
  have hM := c_X12_in l G l2 (0 : Int32) (2 : Int32) r4 hc5 H.size
  refine cl_i (w1 := []) (ws' := [o12 h x_thrown a_s a_image x_hasImage x_act x_spot x_end x_isWrong x_open a_by a_truths x_turn x_lean x_last x_angle x_asLay x_ticks a_bodies 0 x_kind x_number x_tellsV, aI G a_bodies 20 f_bodies, aI G a_s 1394 f_s]) hP hD hS hFc [] rfl rfl rfl (va_runS (As := [.int l2, .int 0, .int 2]) (rest := []) ⟨hx, hb, hml, hown, hts⟩ hM (va_cwS 3 hts gX12_act_X12_in rfl rfl rfl (by decide +kernel) ⟨Nat.le_of_ble_eq_true rfl, Nat.le_of_ble_eq_true rfl⟩) (cp_S hK hE hS hPc hDc hFc) rfl rfl hl.1 rfl (lv_room (Nat.le_of_ble_eq_true rfl)) dX12_act_16 ⟨Nat.zero_le _, Nat.zero_le _⟩) (fun H locs hP hD hS => ?_)
  refine lv_if_ne (tgt := 24) hx hb dX12_act_19 (by decide) (fun c6 => ?_) (fun c6 => ?_)
  · rw [if_neg c6] at hF
    refine lv_aload_n hx hb dX12_act_24 rfl (lv_at hl 0 rfl) ?_
    refine W.eq (g2 := F0 m 25 ls [.ref h]) rfl ?_
    refine lv_aload_n hx hb dX12_act_25 rfl (lv_at hl 0 rfl) ?_
    refine va_get (D := G.1) (ci := 12) (v := .ref a_s) (C := RX12) (T := TX12) (N := 22) hx hb hts hin12 hown hK hP 0 rfl rfl 1 (by decide) lk_9 (fun _ h9 => h9) rfl dX12_act_26 ?_
    refine lv_sipush (v := 226) hx hb dX12_act_29 (by decide) ?_
    refine lv_iload_n hx hb dX12_act_32 rfl (lv_at hl 1 rfl) ?_
    refine lv_iadd hx hb dX12_act_33 ?_
    obtain ⟨hi7, hF⟩ := ck_some hF
    refine va_iald (D := G.1) hx hb hK hP 2 0 rfl rfl hi7 dX12_act_34 ?_
    refine va_put (D := G.1) (ci := 12) (v := .int (f_s (226 + l1).toNatClampNeg)) (ty := .int) (C := RX12) (T := TX12) (N := 22) hx hb hts hin12 tyX12 tyX12_ok nmX12 hown hK hP hD hS 0 rfl rfl 19 (by decide) lk_206 (fun _ h9 => h9) rfl (tyX12_ok 19 (by decide)) rfl rfl (Nat.le_of_ble_eq_true rfl) dX12_act_35 (fun H locs hP hD hS => ?_)
    have hP : va_P G.1 vwCl [o12 h x_thrown a_s a_image x_hasImage x_act x_spot x_end x_isWrong x_open a_by a_truths x_turn x_lean x_last x_angle x_asLay x_ticks a_bodies 0 (f_s (226 + l1).toNatClampNeg) x_number x_tellsV, aI G a_bodies 20 f_bodies, aI G a_s 1394 f_s] H := hP
    have hD : va_D A [o12 h x_thrown a_s a_image x_hasImage x_act x_spot x_end x_isWrong x_open a_by a_truths x_turn x_lean x_last x_angle x_asLay x_ticks a_bodies 0 (f_s (226 + l1).toNatClampNeg) x_number x_tellsV, aI G a_bodies 20 f_bodies, aI G a_s 1394 f_s] := hD
    refine lv_aload_n hx hb dX12_act_38 rfl (lv_at hl 0 rfl) ?_
    refine lv_iload_n hx hb dX12_act_39 rfl (lv_at hl 1 rfl) ?_
    refine va_put (D := G.1) (ci := 12) (v := .int l1) (ty := .int) (C := RX12) (T := TX12) (N := 22) hx hb hts hin12 tyX12 tyX12_ok nmX12 hown hK hP hD hS 0 rfl rfl 20 (by decide) lk_200 (fun _ h9 => h9) rfl (tyX12_ok 20 (by decide)) rfl rfl (Nat.le_of_ble_eq_true rfl) dX12_act_40 (fun H locs hP hD hS => ?_)
    have hP : va_P G.1 vwCl [o12 h x_thrown a_s a_image x_hasImage x_act x_spot x_end x_isWrong x_open a_by a_truths x_turn x_lean x_last x_angle x_asLay x_ticks a_bodies 0 (f_s (226 + l1).toNatClampNeg) l1 x_tellsV, aI G a_bodies 20 f_bodies, aI G a_s 1394 f_s] H := hP
    have hD : va_D A [o12 h x_thrown a_s a_image x_hasImage x_act x_spot x_end x_isWrong x_open a_by a_truths x_turn x_lean x_last x_angle x_asLay x_ticks a_bodies 0 (f_s (226 + l1).toNatClampNeg) l1 x_tellsV, aI G a_bodies 20 f_bodies, aI G a_s 1394 f_s] := hD
    refine lv_aload_n hx hb dX12_act_43 rfl (lv_at hl 0 rfl) ?_
    refine lv_aload_n hx hb dX12_act_44 rfl (lv_at hl 0 rfl) ?_
    refine va_get (D := G.1) (ci := 12) (v := .ref a_s) (C := RX12) (T := TX12) (N := 22) hx hb hts hin12 hown hK hP 0 rfl rfl 1 (by decide) lk_9 (fun _ h9 => h9) rfl dX12_act_45 ?_
    refine lv_sipush (v := 234) hx hb dX12_act_48 (by decide) ?_
    refine W.eq (g2 := F0 m 51 ls [.int 234, .ref a_s, .ref h]) rfl ?_
    refine lv_iload_n hx hb dX12_act_51 rfl (lv_at hl 1 rfl) ?_
    refine lv_iadd hx hb dX12_act_52 ?_
    obtain ⟨hi8, hF⟩ := ck_some hF
    refine va_iald (D := G.1) hx hb hK hP 2 0 rfl rfl hi8 dX12_act_53 ?_
    refine va_put (D := G.1) (ci := 12) (v := .int (f_s (234 + l1).toNatClampNeg)) (ty := .int) (C := RX12) (T := TX12) (N := 22) hx hb hts hin12 tyX12 tyX12_ok nmX12 hown hK hP hD hS 0 rfl rfl 21 (by decide) lk_219 (fun _ h9 => h9) rfl (tyX12_ok 21 (by decide)) rfl rfl (Nat.le_of_ble_eq_true rfl) dX12_act_54 (fun H locs hP hD hS => ?_)
    have hP : va_P G.1 vwCl [o12 h x_thrown a_s a_image x_hasImage x_act x_spot x_end x_isWrong x_open a_by a_truths x_turn x_lean x_last x_angle x_asLay x_ticks a_bodies 0 (f_s (226 + l1).toNatClampNeg) l1 (f_s (234 + l1).toNatClampNeg), aI G a_bodies 20 f_bodies, aI G a_s 1394 f_s] H := hP
    have hD : va_D A [o12 h x_thrown a_s a_image x_hasImage x_act x_spot x_end x_isWrong x_open a_by a_truths x_turn x_lean x_last x_angle x_asLay x_ticks a_bodies 0 (f_s (226 + l1).toNatClampNeg) l1 (f_s (234 + l1).toNatClampNeg), aI G a_bodies 20 f_bodies, aI G a_s 1394 f_s] := hD
    refine lv_iload_n hx hb dX12_act_57 rfl (lv_at hl 2 rfl) ?_
    refine lv_if_ne (tgt := 69) hx hb dX12_act_58 (by decide) (fun c9 => ?_) (fun c9 => ?_)
    · rw [if_neg c9] at hF
      refine lv_iload_n hx hb dX12_act_69 rfl (lv_at hl 2 rfl) ?_
      refine lv_iconst (v := 1) hx hb dX12_act_70 (by decide) ?_
      refine lv_icmp_ne (tgt := 82) hx hb dX12_act_71 (by decide) (fun c10 => ?_) (fun c10 => ?_)
      · rw [if_neg c10] at hF
        refine lv_aload_n hx hb dX12_act_82 rfl (lv_at hl 0 rfl) ?_
        refine lv_iload_n hx hb dX12_act_83 rfl (lv_at hl 3 rfl) ?_
        obtain ⟨r11, hc12, hF⟩ := bd_some hF
        have hPc := hP.sub (ws' := [o12 h x_thrown a_s a_image x_hasImage x_act x_spot x_end x_isWrong x_open a_by a_truths x_turn x_lean x_last x_angle x_asLay x_ticks a_bodies 0 (f_s (226 + l1).toNatClampNeg) l1 (f_s (234 + l1).toNatClampNeg), aI G a_bodies 20 f_bodies]) [0, 1] rfl
        have hDc := hD.sub (ws' := [o12 h x_thrown a_s a_image x_hasImage x_act x_spot x_end x_isWrong x_open a_by a_truths x_turn x_lean x_last x_angle x_asLay x_ticks a_bodies 0 (f_s (226 + l1).toNatClampNeg) l1 (f_s (234 + l1).toNatClampNeg), aI G a_bodies 20 f_bodies]) [0, 1] (by decide) rfl
        have hFc := va_free (wc := [o12 h x_thrown a_s a_image x_hasImage x_act x_spot x_end x_isWrong x_open a_by a_truths x_turn x_lean x_last x_angle x_asLay x_ticks a_bodies 0 (f_s (226 + l1).toNatClampNeg) l1 (f_s (234 + l1).toNatClampNeg), aI G a_bodies 20 f_bodies]) hD hS hA [0, 1] rfl
        have hM := c_X12_leansActs l G h a_s a_image a_by a_truths a_bodies x_thrown x_hasImage x_act x_spot x_end x_isWrong x_open x_turn x_lean x_last x_angle x_asLay x_ticks 0 (f_s (226 + l1).toNatClampNeg) l1 (f_s (234 + l1).toNatClampNeg) f_bodies l3 r11.1 r11.2.1 r11.2.2 hc12 H.size
        refine cl_i (w1 := [o12 h x_thrown a_s a_image x_hasImage x_act x_spot x_end x_isWrong x_open a_by a_truths x_turn x_lean x_last x_angle x_asLay x_ticks a_bodies r11.2.1 (f_s (226 + l1).toNatClampNeg) l1 (f_s (234 + l1).toNatClampNeg), aI G a_bodies 20 r11.2.2]) (ws' := [o12 h x_thrown a_s a_image x_hasImage x_act x_spot x_end x_isWrong x_open a_by a_truths x_turn x_lean x_last x_angle x_asLay x_ticks a_bodies r11.2.1 (f_s (226 + l1).toNatClampNeg) l1 (f_s (234 + l1).toNatClampNeg), aI G a_bodies 20 r11.2.2, aI G a_s 1394 f_s]) hP hD hS hFc [0, 1] rfl rfl rfl (va_runV (As := [.int l3]) (rest := []) ⟨hx, hb, hml, hown, hts⟩ hM (cwV 1 hts gX12_act_X12_leansActs rfl rfl rfl (by decide +kernel) ⟨Nat.le_of_ble_eq_true rfl, Nat.le_of_ble_eq_true rfl⟩) (cp_V hK hE hS hPc hDc hFc (va_recv hK hPc (ci := 12) (q0 := 0) rfl rfl)) rfl rfl hl.1 rfl (lv_room (Nat.le_of_ble_eq_true rfl)) dX12_act_84 ⟨Nat.zero_le _, Nat.zero_le _⟩) (fun H locs hP hD hS => ?_)
        injection hF with hz
        injection hz with hq0 hz
        injection hz with hq1 hz
        injection hz with hq2 hz
        injection hz with hq3 hz
        injection hz with hq4 hz
        subst hq0
        subst hq1
        subst hq2
        subst hq3
        subst hq4
        subst hz
        exact cm_reti hx hb hr rfl hlk hK hP hD hS dX12_act_87
      rw [if_pos c10] at hF
      refine lv_aload_n hx hb dX12_act_74 rfl (lv_at hl 0 rfl) ?_
      refine lv_iload_n hx hb dX12_act_75 rfl (lv_at hl 3 rfl) ?_
      obtain ⟨r13, hc14, hF⟩ := bd_some hF
      have hPc := hP.sub (ws' := [o12 h x_thrown a_s a_image x_hasImage x_act x_spot x_end x_isWrong x_open a_by a_truths x_turn x_lean x_last x_angle x_asLay x_ticks a_bodies 0 (f_s (226 + l1).toNatClampNeg) l1 (f_s (234 + l1).toNatClampNeg), aI G a_bodies 20 f_bodies]) [0, 1] rfl
      have hDc := hD.sub (ws' := [o12 h x_thrown a_s a_image x_hasImage x_act x_spot x_end x_isWrong x_open a_by a_truths x_turn x_lean x_last x_angle x_asLay x_ticks a_bodies 0 (f_s (226 + l1).toNatClampNeg) l1 (f_s (234 + l1).toNatClampNeg), aI G a_bodies 20 f_bodies]) [0, 1] (by decide) rfl
      have hFc := va_free (wc := [o12 h x_thrown a_s a_image x_hasImage x_act x_spot x_end x_isWrong x_open a_by a_truths x_turn x_lean x_last x_angle x_asLay x_ticks a_bodies 0 (f_s (226 + l1).toNatClampNeg) l1 (f_s (234 + l1).toNatClampNeg), aI G a_bodies 20 f_bodies]) hD hS hA [0, 1] rfl
      have hM := c_X12_landsActs l G h a_s a_image a_by a_truths a_bodies x_thrown x_hasImage x_act x_spot x_end x_isWrong x_open x_turn x_lean x_last x_angle x_asLay x_ticks 0 (f_s (226 + l1).toNatClampNeg) l1 (f_s (234 + l1).toNatClampNeg) f_bodies l3 r13.1 r13.2.1 r13.2.2 hc14 H.size
      refine cl_i (w1 := [o12 h x_thrown a_s a_image x_hasImage x_act x_spot x_end x_isWrong x_open a_by a_truths x_turn x_lean x_last x_angle x_asLay x_ticks a_bodies r13.2.1 (f_s (226 + l1).toNatClampNeg) l1 (f_s (234 + l1).toNatClampNeg), aI G a_bodies 20 r13.2.2]) (ws' := [o12 h x_thrown a_s a_image x_hasImage x_act x_spot x_end x_isWrong x_open a_by a_truths x_turn x_lean x_last x_angle x_asLay x_ticks a_bodies r13.2.1 (f_s (226 + l1).toNatClampNeg) l1 (f_s (234 + l1).toNatClampNeg), aI G a_bodies 20 r13.2.2, aI G a_s 1394 f_s]) hP hD hS hFc [0, 1] rfl rfl rfl (va_runV (As := [.int l3]) (rest := []) ⟨hx, hb, hml, hown, hts⟩ hM (cwV 1 hts gX12_act_X12_landsActs rfl rfl rfl (by decide +kernel) ⟨Nat.le_of_ble_eq_true rfl, Nat.le_of_ble_eq_true rfl⟩) (cp_V hK hE hS hPc hDc hFc (va_recv hK hPc (ci := 12) (q0 := 0) rfl rfl)) rfl rfl hl.1 rfl (lv_room (Nat.le_of_ble_eq_true rfl)) dX12_act_76 ⟨Nat.zero_le _, Nat.zero_le _⟩) (fun H locs hP hD hS => ?_)
      refine lv_goto (tgt := 87) hx hb dX12_act_79 (by decide) ?_
      injection hF with hz
      injection hz with hq0 hz
      injection hz with hq1 hz
      injection hz with hq2 hz
      injection hz with hq3 hz
      injection hz with hq4 hz
      subst hq0
      subst hq1
      subst hq2
      subst hq3
      subst hq4
      subst hz
      exact cm_reti hx hb hr rfl hlk hK hP hD hS dX12_act_87
    rw [if_pos c9] at hF
    refine lv_aload_n hx hb dX12_act_61 rfl (lv_at hl 0 rfl) ?_
    refine lv_iload_n hx hb dX12_act_62 rfl (lv_at hl 3 rfl) ?_
    obtain ⟨r15, hc16, hF⟩ := bd_some hF
    have hPc := hP.sub (ws' := [o12 h x_thrown a_s a_image x_hasImage x_act x_spot x_end x_isWrong x_open a_by a_truths x_turn x_lean x_last x_angle x_asLay x_ticks a_bodies 0 (f_s (226 + l1).toNatClampNeg) l1 (f_s (234 + l1).toNatClampNeg), aI G a_bodies 20 f_bodies]) [0, 1] rfl
    have hDc := hD.sub (ws' := [o12 h x_thrown a_s a_image x_hasImage x_act x_spot x_end x_isWrong x_open a_by a_truths x_turn x_lean x_last x_angle x_asLay x_ticks a_bodies 0 (f_s (226 + l1).toNatClampNeg) l1 (f_s (234 + l1).toNatClampNeg), aI G a_bodies 20 f_bodies]) [0, 1] (by decide) rfl
    have hFc := va_free (wc := [o12 h x_thrown a_s a_image x_hasImage x_act x_spot x_end x_isWrong x_open a_by a_truths x_turn x_lean x_last x_angle x_asLay x_ticks a_bodies 0 (f_s (226 + l1).toNatClampNeg) l1 (f_s (234 + l1).toNatClampNeg), aI G a_bodies 20 f_bodies]) hD hS hA [0, 1] rfl
    have hM := c_X12_turnsActs l G h a_s a_image a_by a_truths a_bodies x_thrown x_hasImage x_act x_spot x_end x_isWrong x_open x_turn x_lean x_last x_angle x_asLay x_ticks 0 (f_s (226 + l1).toNatClampNeg) l1 (f_s (234 + l1).toNatClampNeg) f_bodies l3 r15.1 r15.2.1 r15.2.2 hc16 H.size
    refine cl_i (w1 := [o12 h x_thrown a_s a_image x_hasImage x_act x_spot x_end x_isWrong x_open a_by a_truths x_turn x_lean x_last x_angle x_asLay x_ticks a_bodies r15.2.1 (f_s (226 + l1).toNatClampNeg) l1 (f_s (234 + l1).toNatClampNeg), aI G a_bodies 20 r15.2.2]) (ws' := [o12 h x_thrown a_s a_image x_hasImage x_act x_spot x_end x_isWrong x_open a_by a_truths x_turn x_lean x_last x_angle x_asLay x_ticks a_bodies r15.2.1 (f_s (226 + l1).toNatClampNeg) l1 (f_s (234 + l1).toNatClampNeg), aI G a_bodies 20 r15.2.2, aI G a_s 1394 f_s]) hP hD hS hFc [0, 1] rfl rfl rfl (va_runV (As := [.int l3]) (rest := []) ⟨hx, hb, hml, hown, hts⟩ hM (cwV 1 hts gX12_act_X12_turnsActs rfl rfl rfl (by decide +kernel) ⟨Nat.le_of_ble_eq_true rfl, Nat.le_of_ble_eq_true rfl⟩) (cp_V hK hE hS hPc hDc hFc (va_recv hK hPc (ci := 12) (q0 := 0) rfl rfl)) rfl rfl hl.1 rfl (lv_room (Nat.le_of_ble_eq_true rfl)) dX12_act_63 ⟨Nat.zero_le _, Nat.zero_le _⟩) (fun H locs hP hD hS => ?_)
    refine lv_goto (tgt := 87) hx hb dX12_act_66 (by decide) ?_
    injection hF with hz
    injection hz with hq0 hz
    injection hz with hq1 hz
    injection hz with hq2 hz
    injection hz with hq3 hz
    injection hz with hq4 hz
    subst hq0
    subst hq1
    subst hq2
    subst hq3
    subst hq4
    subst hz
    exact cm_reti hx hb hr rfl hlk hK hP hD hS dX12_act_87
  rw [if_pos c6] at hF
  refine lv_iconst (v := 0) hx hb dX12_act_22 (by decide) ?_
  refine W.eq (g2 := F0 m 23 ls [.int 0]) rfl ?_
  injection hF with hz
  injection hz with hq0 hz
  injection hz with hq1 hz
  injection hz with hq2 hz
  injection hz with hq3 hz
  injection hz with hq4 hz
  subst hq0
  subst hq1
  subst hq2
  subst hq3
  subst hq4
  subst hz
  exact cm_reti hx hb hr rfl hlk hK hP hD hS dX12_act_23

/-! HeadsByHairModel.trace(I)I -/
abbrev rm_X12_trace : Room := { frames := 1, cells := 0, slots := 0, locals := 22 }
set_option maxHeartbeats 4000000 in
set_option maxRecDepth 100000 in
theorem c_X12_trace (l : Launch) (G : GG) (h a_s a_image a_by a_truths a_bodies : Nat) (x_thrown x_hasImage x_act x_spot x_end x_isWrong x_open x_turn x_lean x_last x_angle x_asLay x_ticks x_ran x_kind x_number x_tellsV : Int32) (f_bodies : Nat → Int32) (l1 : Int32) (z : Int32) (hF : fX12_trace x_ran f_bodies l1 = some (z)) : CMi l yX12_trace wsX12_trace rm_X12_trace G [o12 h x_thrown a_s a_image x_hasImage x_act x_spot x_end x_isWrong x_open a_by a_truths x_turn x_lean x_last x_angle x_asLay x_ticks a_bodies x_ran x_kind x_number x_tellsV, aI G a_bodies 20 f_bodies] [o12 h x_thrown a_s a_image x_hasImage x_act x_spot x_end x_isWrong x_open a_by a_truths x_turn x_lean x_last x_angle x_asLay x_ticks a_bodies x_ran x_kind x_number x_tellsV, aI G a_bodies 20 f_bodies] [.ref h, .int l1] z := by
  refine cm_start (cc := cX12_trace) (maxL := 2) (ret := (some .int)) (Qc := fun A => QI G [o12 h x_thrown a_s a_image x_hasImage x_act x_spot x_end x_isWrong x_open a_by a_truths x_turn x_lean x_last x_angle x_asLay x_ticks a_bodies x_ran x_kind x_number x_tellsV, aI G a_bodies 20 f_bodies] z A) (by decide +kernel) rfl (Nat.le_of_ble_eq_true rfl) ?_
  intro p e s m args below meth c A hx hb hr hlk hml hown hnm hts hA H locs hP hK hD hE hS ls hl
  have hown : s.vm.findClass RX12 = some m.cls := hown
  have hl : lv_has ls 2 [(0, .ref h), (1, .int l1)] := hl
  have hin12 : ∀ w ∈ wsX120, w ∈ wsX12_trace := by decide +kernel
  have lk_194 := hts (.fieldLink RX12 194 "HeadsByHairModel" "ran" "I") (by decide +kernel)
  have lk_25 := hts (.fieldLink RX12 25 "HeadsByHairModel" "bodies" "[I") (by decide +kernel)
  revert hF
  have B20 : ∀ (l1 : Int32) (s0 : Int32) (s1 : Int32) (s2 : Int32) (H : Heap) (locs : List Loc) (ls : Array Slot), va_P G.1 vwCl [o12 h x_thrown a_s a_image x_hasImage x_act x_spot x_end x_isWrong x_open a_by a_truths x_turn x_lean x_last x_angle x_asLay x_ticks a_bodies x_ran x_kind x_number x_tellsV, aI G a_bodies 20 f_bodies] H → va_D A [o12 h x_thrown a_s a_image x_hasImage x_act x_spot x_end x_isWrong x_open a_by a_truths x_turn x_lean x_last x_angle x_asLay x_ticks a_bodies x_ran x_kind x_number x_tellsV, aI G a_bodies 20 f_bodies] → va_S A s.heap H locs → lv_has ls 2 [(0, .ref h), (1, .int l1)] → fX12_trace_b20 x_ran f_bodies l1 s0 s1 s2 = some (z) → W p l e (rm_X12_trace) s m args below meth c H locs 0 0 (MQ below (QI G [o12 h x_thrown a_s a_image x_hasImage x_act x_spot x_end x_isWrong x_open a_by a_truths x_turn x_lean x_last x_angle x_asLay x_ticks a_bodies x_ran x_kind x_number x_tellsV, aI G a_bodies 20 f_bodies] z A) args s 0 0 A) (F0 m 20 ls [.int s2, .int s1, .int s0]) := by
    intro l1 s0 s1 s2 H locs ls hP hD hS hl hF
    unfold fX12_trace_b20 at hF
    refine lv_iconst (v := 1) hx hb dX12_trace_20 (by decide) ?_
    refine lv_isub hx hb dX12_trace_21 ?_
    obtain ⟨r2, hc3, hF⟩ := bd_some hF
    have hPc := hP.sub (ws' := []) [] rfl
    have hDc := hD.sub (ws' := []) [] (by decide) rfl
    have hFc := va_free (wc := []) hD hS hA [] rfl
    have hM := c_X12_in l G s0 s1 (s2 - 1) r2 hc3 H.size
    refine cl_i (w1 := []) (ws' := [o12 h x_thrown a_s a_image x_hasImage x_act x_spot x_end x_isWrong x_open a_by a_truths x_turn x_lean x_last x_angle x_asLay x_ticks a_bodies x_ran x_kind x_number x_tellsV, aI G a_bodies 20 f_bodies]) hP hD hS hFc [] rfl rfl rfl (va_runS (As := [.int s0, .int s1, .int (s2 - 1)]) (rest := []) ⟨hx, hb, hml, hown, hts⟩ hM (va_cwS 3 hts gX12_trace_X12_in rfl rfl rfl (by decide +kernel) ⟨Nat.le_of_ble_eq_true rfl, Nat.le_of_ble_eq_true rfl⟩) (cp_S hK hE hS hPc hDc hFc) rfl rfl hl.1 rfl (lv_room (Nat.le_of_ble_eq_true rfl)) dX12_trace_22 ⟨Nat.zero_le _, Nat.zero_le _⟩) (fun H locs hP hD hS => ?_)
    refine lv_if_eq (tgt := 37) hx hb dX12_trace_25 (by decide) (fun c4 => ?_) (fun c4 => ?_)
    · rw [if_pos c4] at hF
      refine lv_iconst (v := (-1)) hx hb dX12_trace_37 (by decide) ?_
      injection hF with hz
      subst hz
      exact cm_reti hx hb hr rfl hlk hK hP hD hS dX12_trace_38
    rw [if_neg c4] at hF
    refine lv_aload_n hx hb dX12_trace_28 rfl (lv_at hl 0 rfl) ?_
    refine va_get (D := G.1) (ci := 12) (v := .ref a_bodies) (C := RX12) (T := TX12) (N := 22) hx hb hts hin12 hown hK hP 0 rfl rfl 17 (by decide) lk_25 (fun _ h9 => h9) rfl dX12_trace_29 ?_
    refine lv_iload_n hx hb dX12_trace_32 rfl (lv_at hl 1 rfl) ?_
    obtain ⟨hi5, hF⟩ := ck_some hF
    refine va_iald (D := G.1) hx hb hK hP 1 0 rfl rfl hi5 dX12_trace_33 ?_
    refine lv_goto (tgt := 38) hx hb dX12_trace_34 (by decide) ?_
    injection hF with hz
    subst hz
    exact cm_reti hx hb hr rfl hlk hK hP hD hS dX12_trace_38
  intro hF
  unfold fX12_trace at hF
  refine lv_iload_n hx hb dX12_trace_0 rfl (lv_at hl 1 rfl) ?_
  refine lv_iconst (v := 0) hx hb dX12_trace_1 (by decide) ?_
  refine lv_aload_n hx hb dX12_trace_2 rfl (lv_at hl 0 rfl) ?_
  refine va_get (D := G.1) (ci := 12) (v := .int x_ran) (C := RX12) (T := TX12) (N := 22) hx hb hts hin12 hown hK hP 0 rfl rfl 18 (by decide) lk_194 (fun _ h9 => h9) rfl dX12_trace_3 ?_
  refine lv_bipush (v := 20) hx hb dX12_trace_6 (by decide) ?_
  refine lv_icmp_ge (tgt := 18) hx hb dX12_trace_8 (by decide) (fun c1 => ?_) (fun c1 => ?_)
  · rw [if_pos c1] at hF
    refine lv_bipush (v := 20) hx hb dX12_trace_18 (by decide) ?_
    exact B20 _ _ _ _ H locs ls hP hD hS (lv_sub hl [0, 1] rfl) hF
  rw [if_neg c1] at hF
  refine lv_aload_n hx hb dX12_trace_11 rfl (lv_at hl 0 rfl) ?_
  refine va_get (D := G.1) (ci := 12) (v := .int x_ran) (C := RX12) (T := TX12) (N := 22) hx hb hts hin12 hown hK hP 0 rfl rfl 18 (by decide) lk_194 (fun _ h9 => h9) rfl dX12_trace_12 ?_
  refine lv_goto (tgt := 20) hx hb dX12_trace_15 (by decide) ?_
  exact B20 _ _ _ _ H locs ls hP hD hS (lv_sub hl [0, 1] rfl) hF

/-! HeadsByHairModel.as(II)I -/
abbrev rm_X12_as : Room := { frames := 2, cells := 0, slots := 0, locals := 43 }
set_option maxHeartbeats 4000000 in
set_option maxRecDepth 100000 in
theorem c_X12_as (l : Launch) (G : GG) (h a_s a_image a_by a_truths a_bodies : Nat) (x_thrown x_hasImage x_act x_spot x_end x_isWrong x_open x_turn x_lean x_last x_angle x_asLay x_ticks x_ran x_kind x_number x_tellsV : Int32) (f_s : Nat → Int32) (l1 : Int32) (l2 : Int32) (z : Int32) (hF : fX12_as f_s l1 l2 = some (z)) : CMi l yX12_as wsX12_as rm_X12_as G [o12 h x_thrown a_s a_image x_hasImage x_act x_spot x_end x_isWrong x_open a_by a_truths x_turn x_lean x_last x_angle x_asLay x_ticks a_bodies x_ran x_kind x_number x_tellsV, aI G a_s 1394 f_s] [o12 h x_thrown a_s a_image x_hasImage x_act x_spot x_end x_isWrong x_open a_by a_truths x_turn x_lean x_last x_angle x_asLay x_ticks a_bodies x_ran x_kind x_number x_tellsV, aI G a_s 1394 f_s] [.ref h, .int l1, .int l2] z := by
  refine cm_start (cc := cX12_as) (maxL := 3) (ret := (some .int)) (Qc := fun A => QI G [o12 h x_thrown a_s a_image x_hasImage x_act x_spot x_end x_isWrong x_open a_by a_truths x_turn x_lean x_last x_angle x_asLay x_ticks a_bodies x_ran x_kind x_number x_tellsV, aI G a_s 1394 f_s] z A) (by decide +kernel) rfl (Nat.le_of_ble_eq_true rfl) ?_
  intro p e s m args below meth c A hx hb hr hlk hml hown hnm hts hA H locs hP hK hD hE hS ls hl
  have hown : s.vm.findClass RX12 = some m.cls := hown
  have hl : lv_has ls 3 [(0, .ref h), (1, .int l1), (2, .int l2)] := hl
  have hin12 : ∀ w ∈ wsX120, w ∈ wsX12_as := by decide +kernel
  have lk_9 := hts (.fieldLink RX12 9 "HeadsByHairModel" "s" "[I") (by decide +kernel)
  revert hF
  intro hF
  unfold fX12_as at hF
  refine lv_aload_n hx hb dX12_as_0 rfl (lv_at hl 0 rfl) ?_
  refine lv_iload_n hx hb dX12_as_1 rfl (lv_at hl 1 rfl) ?_
  obtain ⟨r1, hc2, hF⟩ := bd_some hF
  have hPc := hP.sub (ws' := [o12 h x_thrown a_s a_image x_hasImage x_act x_spot x_end x_isWrong x_open a_by a_truths x_turn x_lean x_last x_angle x_asLay x_ticks a_bodies x_ran x_kind x_number x_tellsV, aI G a_s 1394 f_s]) [0, 1] rfl
  have hDc := hD.sub (ws' := [o12 h x_thrown a_s a_image x_hasImage x_act x_spot x_end x_isWrong x_open a_by a_truths x_turn x_lean x_last x_angle x_asLay x_ticks a_bodies x_ran x_kind x_number x_tellsV, aI G a_s 1394 f_s]) [0, 1] (by decide) rfl
  have hFc := va_free (wc := [o12 h x_thrown a_s a_image x_hasImage x_act x_spot x_end x_isWrong x_open a_by a_truths x_turn x_lean x_last x_angle x_asLay x_ticks a_bodies x_ran x_kind x_number x_tellsV, aI G a_s 1394 f_s]) hD hS hA [0, 1] rfl
  have hM := c_X12_isLaw l G h a_s a_image a_by a_truths a_bodies x_thrown x_hasImage x_act x_spot x_end x_isWrong x_open x_turn x_lean x_last x_angle x_asLay x_ticks x_ran x_kind x_number x_tellsV f_s l1 r1 hc2 H.size
  refine cl_i (w1 := [o12 h x_thrown a_s a_image x_hasImage x_act x_spot x_end x_isWrong x_open a_by a_truths x_turn x_lean x_last x_angle x_asLay x_ticks a_bodies x_ran x_kind x_number x_tellsV, aI G a_s 1394 f_s]) (ws' := [o12 h x_thrown a_s a_image x_hasImage x_act x_spot x_end x_isWrong x_open a_by a_truths x_turn x_lean x_last x_angle x_asLay x_ticks a_bodies x_ran x_kind x_number x_tellsV, aI G a_s 1394 f_s]) hP hD hS hFc [0, 1] rfl rfl rfl (va_runV (As := [.int l1]) (rest := []) ⟨hx, hb, hml, hown, hts⟩ hM (cwV 1 hts gX12_as_X12_isLaw rfl rfl rfl (by decide +kernel) ⟨Nat.le_of_ble_eq_true rfl, Nat.le_of_ble_eq_true rfl⟩) (cp_V hK hE hS hPc hDc hFc (va_recv hK hPc (ci := 12) (q0 := 0) rfl rfl)) rfl rfl hl.1 rfl (lv_room (Nat.le_of_ble_eq_true rfl)) dX12_as_2 ⟨Nat.zero_le _, Nat.zero_le _⟩) (fun H locs hP hD hS => ?_)
  refine lv_if_eq (tgt := 18) hx hb dX12_as_5 (by decide) (fun c3 => ?_) (fun c3 => ?_)
  · rw [if_pos c3] at hF
    refine lv_iconst (v := (-1)) hx hb dX12_as_18 (by decide) ?_
    injection hF with hz
    subst hz
    exact cm_reti hx hb hr rfl hlk hK hP hD hS dX12_as_19
  rw [if_neg c3] at hF
  refine lv_iload_n hx hb dX12_as_8 rfl (lv_at hl 2 rfl) ?_
  refine lv_iconst (v := 0) hx hb dX12_as_9 (by decide) ?_
  refine lv_bipush (v := 6) hx hb dX12_as_10 (by decide) ?_
  obtain ⟨r4, hc5, hF⟩ := bd_some hF
  have hPc := hP.sub (ws' := []) [] rfl
  have hDc := hD.sub (ws' := []) [] (by decide) rfl
  have hFc := va_free (wc := []) hD hS hA [] rfl
  have hM := c_X12_in l G l2 (0 : Int32) (6 : Int32) r4 hc5 H.size
  refine cl_i (w1 := []) (ws' := [o12 h x_thrown a_s a_image x_hasImage x_act x_spot x_end x_isWrong x_open a_by a_truths x_turn x_lean x_last x_angle x_asLay x_ticks a_bodies x_ran x_kind x_number x_tellsV, aI G a_s 1394 f_s]) hP hD hS hFc [] rfl rfl rfl (va_runS (As := [.int l2, .int 0, .int 6]) (rest := []) ⟨hx, hb, hml, hown, hts⟩ hM (va_cwS 3 hts gX12_as_X12_in rfl rfl rfl (by decide +kernel) ⟨Nat.le_of_ble_eq_true rfl, Nat.le_of_ble_eq_true rfl⟩) (cp_S hK hE hS hPc hDc hFc) rfl rfl hl.1 rfl (lv_room (Nat.le_of_ble_eq_true rfl)) dX12_as_12 ⟨Nat.zero_le _, Nat.zero_le _⟩) (fun H locs hP hD hS => ?_)
  refine lv_if_ne (tgt := 20) hx hb dX12_as_15 (by decide) (fun c6 => ?_) (fun c6 => ?_)
  · rw [if_neg c6] at hF
    refine lv_aload_n hx hb dX12_as_20 rfl (lv_at hl 0 rfl) ?_
    refine va_get (D := G.1) (ci := 12) (v := .ref a_s) (C := RX12) (T := TX12) (N := 22) hx hb hts hin12 hown hK hP 0 rfl rfl 1 (by decide) lk_9 (fun _ h9 => h9) rfl dX12_as_21 ?_
    refine lv_sipush (v := 226) hx hb dX12_as_24 (by decide) ?_
    refine lv_iload_n hx hb dX12_as_27 rfl (lv_at hl 1 rfl) ?_
    refine W.eq (g2 := F0 m 28 ls [.int l1, .int 226, .ref a_s]) rfl ?_
    refine lv_iadd hx hb dX12_as_28 ?_
    obtain ⟨hi7, hF⟩ := ck_some hF
    refine va_iald (D := G.1) hx hb hK hP 1 0 rfl rfl hi7 dX12_as_29 ?_
    refine lv_iload_n hx hb dX12_as_30 rfl (lv_at hl 2 rfl) ?_
    obtain ⟨r8, hc9, hF⟩ := bd_some hF
    have hPc := hP.sub (ws' := []) [] rfl
    have hDc := hD.sub (ws' := []) [] (by decide) rfl
    have hFc := va_free (wc := []) hD hS hA [] rfl
    have hM := c_X12_isUnder l G (f_s (226 + l1).toNatClampNeg) l2 r8 hc9 H.size
    refine cl_i (w1 := []) (ws' := [o12 h x_thrown a_s a_image x_hasImage x_act x_spot x_end x_isWrong x_open a_by a_truths x_turn x_lean x_last x_angle x_asLay x_ticks a_bodies x_ran x_kind x_number x_tellsV, aI G a_s 1394 f_s]) hP hD hS hFc [] rfl rfl rfl (va_runS (As := [.int (f_s (226 + l1).toNatClampNeg), .int l2]) (rest := []) ⟨hx, hb, hml, hown, hts⟩ hM (va_cwS 2 hts gX12_as_X12_isUnder rfl rfl rfl (by decide +kernel) ⟨Nat.le_of_ble_eq_true rfl, Nat.le_of_ble_eq_true rfl⟩) (cp_S hK hE hS hPc hDc hFc) rfl rfl hl.1 rfl (lv_room (Nat.le_of_ble_eq_true rfl)) dX12_as_31 ⟨Nat.zero_le _, Nat.zero_le _⟩) (fun H locs hP hD hS => ?_)
    refine lv_if_eq (tgt := 50) hx hb dX12_as_34 (by decide) (fun c10 => ?_) (fun c10 => ?_)
    · rw [if_pos c10] at hF
      refine lv_bipush (v := (-6)) hx hb dX12_as_50 (by decide) ?_
      injection hF with hz
      subst hz
      exact cm_reti hx hb hr rfl hlk hK hP hD hS dX12_as_52
    rw [if_neg c10] at hF
    refine lv_aload_n hx hb dX12_as_37 rfl (lv_at hl 0 rfl) ?_
    refine va_get (D := G.1) (ci := 12) (v := .ref a_s) (C := RX12) (T := TX12) (N := 22) hx hb hts hin12 hown hK hP 0 rfl rfl 1 (by decide) lk_9 (fun _ h9 => h9) rfl dX12_as_38 ?_
    refine lv_sipush (v := 234) hx hb dX12_as_41 (by decide) ?_
    refine lv_iload_n hx hb dX12_as_44 rfl (lv_at hl 1 rfl) ?_
    refine lv_iadd hx hb dX12_as_45 ?_
    obtain ⟨hi11, hF⟩ := ck_some hF
    refine va_iald (D := G.1) hx hb hK hP 1 0 rfl rfl hi11 dX12_as_46 ?_
    refine lv_goto (tgt := 52) hx hb dX12_as_47 (by decide) ?_
    injection hF with hz
    subst hz
    exact cm_reti hx hb hr rfl hlk hK hP hD hS dX12_as_52
  rw [if_pos c6] at hF
  refine lv_iconst (v := (-1)) hx hb dX12_as_18 (by decide) ?_
  injection hF with hz
  subst hz
  exact cm_reti hx hb hr rfl hlk hK hP hD hS dX12_as_19

/-! HeadsByHairModel.image()I -/
abbrev rm_X12_image : Room := { frames := 0, cells := 0, slots := 0, locals := 0 }
set_option maxHeartbeats 4000000 in
set_option maxRecDepth 100000 in
theorem c_X12_image (l : Launch) (G : GG) (h a_s a_image a_by a_truths a_bodies : Nat) (x_thrown x_hasImage x_act x_spot x_end x_isWrong x_open x_turn x_lean x_last x_angle x_asLay x_ticks x_ran x_kind x_number x_tellsV : Int32) (f_image : Nat → Int32) (f_s : Nat → Int32) (z : Int32) (z_x_hasImage : Int32) (z_f_image : Nat → Int32) (hF : fX12_image x_hasImage f_image f_s = some (z, z_x_hasImage, z_f_image)) : CMi l yX12_image wsX12_image rm_X12_image G [o12 h x_thrown a_s a_image x_hasImage x_act x_spot x_end x_isWrong x_open a_by a_truths x_turn x_lean x_last x_angle x_asLay x_ticks a_bodies x_ran x_kind x_number x_tellsV, aI G a_image 1394 f_image, aI G a_s 1394 f_s] [o12 h x_thrown a_s a_image z_x_hasImage x_act x_spot x_end x_isWrong x_open a_by a_truths x_turn x_lean x_last x_angle x_asLay x_ticks a_bodies x_ran x_kind x_number x_tellsV, aI G a_image 1394 z_f_image, aI G a_s 1394 f_s] [.ref h] z := by
  refine cm_start (cc := cX12_image) (maxL := 2) (ret := (some .int)) (Qc := fun A => QI G [o12 h x_thrown a_s a_image z_x_hasImage x_act x_spot x_end x_isWrong x_open a_by a_truths x_turn x_lean x_last x_angle x_asLay x_ticks a_bodies x_ran x_kind x_number x_tellsV, aI G a_image 1394 z_f_image, aI G a_s 1394 f_s] z A) (by decide +kernel) rfl (Nat.le_of_ble_eq_true rfl) ?_
  intro p e s m args below meth c A hx hb hr hlk hml hown hnm hts hA H locs hP hK hD hE hS ls hl
  have hown : s.vm.findClass RX12 = some m.cls := hown
  have hl : lv_has ls 2 [(0, .ref h)] := hl
  have hin12 : ∀ w ∈ wsX120, w ∈ wsX12_image := by decide +kernel
  have lk_15 := hts (.fieldLink RX12 15 "HeadsByHairModel" "image" "[I") (by decide +kernel)
  have lk_9 := hts (.fieldLink RX12 9 "HeadsByHairModel" "s" "[I") (by decide +kernel)
  have lk_237 := hts (.fieldLink RX12 237 "HeadsByHairModel" "hasImage" "Z") (by decide +kernel)
  revert hF
  have LP2 : ∀ (x_hasImage : Int32) (k27 : (Nat → Int32) → Option (Int32 × Int32 × (Nat → Int32))) (hk27 : ∀ (f_image : Nat → Int32) (H : Heap) (locs : List Loc) (ls : Array Slot), va_P G.1 vwCl [o12 h x_thrown a_s a_image x_hasImage x_act x_spot x_end x_isWrong x_open a_by a_truths x_turn x_lean x_last x_angle x_asLay x_ticks a_bodies x_ran x_kind x_number x_tellsV, aI G a_image 1394 f_image, aI G a_s 1394 f_s] H → va_D A [o12 h x_thrown a_s a_image x_hasImage x_act x_spot x_end x_isWrong x_open a_by a_truths x_turn x_lean x_last x_angle x_asLay x_ticks a_bodies x_ran x_kind x_number x_tellsV, aI G a_image 1394 f_image, aI G a_s 1394 f_s] → va_S A s.heap H locs → lv_has ls 2 [(0, .ref h)] → k27 f_image = some (z, z_x_hasImage, z_f_image) → W p l e (rm_X12_image) s m args below meth c H locs 0 0 (MQ below (QI G [o12 h x_thrown a_s a_image z_x_hasImage x_act x_spot x_end x_isWrong x_open a_by a_truths x_turn x_lean x_last x_angle x_asLay x_ticks a_bodies x_ran x_kind x_number x_tellsV, aI G a_image 1394 z_f_image, aI G a_s 1394 f_s] z A) args s 0 0 A) (F0 m 27 ls [])) (n : Nat) (f_image : Nat → Int32) (l1 : Int32) (H : Heap) (locs : List Loc) (ls : Array Slot), va_P G.1 vwCl [o12 h x_thrown a_s a_image x_hasImage x_act x_spot x_end x_isWrong x_open a_by a_truths x_turn x_lean x_last x_angle x_asLay x_ticks a_bodies x_ran x_kind x_number x_tellsV, aI G a_image 1394 f_image, aI G a_s 1394 f_s] H → va_D A [o12 h x_thrown a_s a_image x_hasImage x_act x_spot x_end x_isWrong x_open a_by a_truths x_turn x_lean x_last x_angle x_asLay x_ticks a_bodies x_ran x_kind x_number x_tellsV, aI G a_image 1394 f_image, aI G a_s 1394 f_s] → va_S A s.heap H locs → lv_has ls 2 [(0, .ref h), (1, .int l1)] → fX12_image_L2 k27 x_hasImage f_s n f_image l1 = some (z, z_x_hasImage, z_f_image) → W p l e (rm_X12_image) s m args below meth c H locs 0 0 (MQ below (QI G [o12 h x_thrown a_s a_image z_x_hasImage x_act x_spot x_end x_isWrong x_open a_by a_truths x_turn x_lean x_last x_angle x_asLay x_ticks a_bodies x_ran x_kind x_number x_tellsV, aI G a_image 1394 z_f_image, aI G a_s 1394 f_s] z A) args s 0 0 A) (F0 m 2 ls []) := by
    intro x_hasImage k27 hk27 n
    induction n with
    | zero =>
      intro f_image l1 H locs ls hP hD hS hl hF
      cases hF
    | succ n ih =>
      intro f_image l1 H locs ls hP hD hS hl hF
      rw [fX12_image_L2] at hF
      refine lv_iload_n hx hb dX12_image_2 rfl (lv_at hl 1 rfl) ?_
      refine lv_sipush (v := 1394) hx hb dX12_image_3 (by decide) ?_
      refine lv_icmp_ge (tgt := 27) hx hb dX12_image_6 (by decide) (fun c1 => ?_) (fun c1 => ?_)
      · rw [if_pos c1] at hF
        exact hk27 _ H locs ls hP hD hS (lv_sub hl [0] rfl) hF
      rw [if_neg c1] at hF
      refine lv_aload_n hx hb dX12_image_9 rfl (lv_at hl 0 rfl) ?_
      refine va_get (D := G.1) (ci := 12) (v := .ref a_image) (C := RX12) (T := TX12) (N := 22) hx hb hts hin12 hown hK hP 0 rfl rfl 2 (by decide) lk_15 (fun _ h9 => h9) rfl dX12_image_10 ?_
      refine lv_iload_n hx hb dX12_image_13 rfl (lv_at hl 1 rfl) ?_
      refine lv_aload_n hx hb dX12_image_14 rfl (lv_at hl 0 rfl) ?_
      refine va_get (D := G.1) (ci := 12) (v := .ref a_s) (C := RX12) (T := TX12) (N := 22) hx hb hts hin12 hown hK hP 0 rfl rfl 1 (by decide) lk_9 (fun _ h9 => h9) rfl dX12_image_15 ?_
      refine lv_iload_n hx hb dX12_image_18 rfl (lv_at hl 1 rfl) ?_
      obtain ⟨hi2, hF⟩ := ck_some hF
      refine va_iald (D := G.1) hx hb hK hP 2 0 rfl rfl hi2 dX12_image_19 ?_
      refine va_iast (D := G.1) hx hb hK hP hD hS 1 0 rfl rfl hi2 dX12_image_20 (fun H locs hP hD hS => ?_)
      have hP : va_P G.1 vwCl [o12 h x_thrown a_s a_image x_hasImage x_act x_spot x_end x_isWrong x_open a_by a_truths x_turn x_lean x_last x_angle x_asLay x_ticks a_bodies x_ran x_kind x_number x_tellsV, aI G a_image 1394 (upd f_image l1.toNatClampNeg (f_s l1.toNatClampNeg)), aI G a_s 1394 f_s] H := hP
      have hD : va_D A [o12 h x_thrown a_s a_image x_hasImage x_act x_spot x_end x_isWrong x_open a_by a_truths x_turn x_lean x_last x_angle x_asLay x_ticks a_bodies x_ran x_kind x_number x_tellsV, aI G a_image 1394 (upd f_image l1.toNatClampNeg (f_s l1.toNatClampNeg)), aI G a_s 1394 f_s] := hD
      refine lv_iinc (v := l1 + 1) (lv' := [(1, .int (l1 + 1)), (0, .ref h)]) hx hb dX12_image_21 hl (k := 1) rfl rfl (by decide) rfl (fun ls hl => ?_)
      refine lv_goto (tgt := 2) hx hb dX12_image_24 (by decide) ?_
      exact ih _ _ H locs ls hP hD hS (lv_sub hl [1, 0] rfl) hF
  intro hF
  unfold fX12_image at hF
  refine lv_iconst (v := 0) hx hb dX12_image_0 (by decide) ?_
  refine lv_istore_n (lv' := [(1, .int 0), (0, .ref h)]) hx hb dX12_image_1 rfl hl (by decide) rfl (fun ls hl => ?_)
  refine LP2 _ _ (fun f_image_3 H locs ls hP hD hS hl hF => ?_) _ _ _ H locs ls hP hD hS (lv_sub hl [1, 0] rfl) hF
  refine lv_aload_n hx hb dX12_image_27 rfl (lv_at hl 0 rfl) ?_
  refine lv_iconst (v := 1) hx hb dX12_image_28 (by decide) ?_
  refine va_put (D := G.1) (ci := 12) (v := .int 1) (ty := .boolean) (C := RX12) (T := TX12) (N := 22) hx hb hts hin12 tyX12 tyX12_ok nmX12 hown hK hP hD hS 0 rfl rfl 3 (by decide) lk_237 (fun _ h9 => h9) rfl (tyX12_ok 3 (by decide)) (by decide) (by decide) (Nat.le_of_ble_eq_true rfl) dX12_image_29 (fun H locs hP hD hS => ?_)
  have hP : va_P G.1 vwCl [o12 h x_thrown a_s a_image 1 x_act x_spot x_end x_isWrong x_open a_by a_truths x_turn x_lean x_last x_angle x_asLay x_ticks a_bodies x_ran x_kind x_number x_tellsV, aI G a_image 1394 f_image_3, aI G a_s 1394 f_s] H := hP
  have hD : va_D A [o12 h x_thrown a_s a_image 1 x_act x_spot x_end x_isWrong x_open a_by a_truths x_turn x_lean x_last x_angle x_asLay x_ticks a_bodies x_ran x_kind x_number x_tellsV, aI G a_image 1394 f_image_3, aI G a_s 1394 f_s] := hD
  refine lv_aload_n hx hb dX12_image_32 rfl (lv_at hl 0 rfl) ?_
  refine va_get (D := G.1) (ci := 12) (v := .ref a_s) (C := RX12) (T := TX12) (N := 22) hx hb hts hin12 hown hK hP 0 rfl rfl 1 (by decide) lk_9 (fun _ h9 => h9) rfl dX12_image_33 ?_
  refine lv_iconst (v := 1) hx hb dX12_image_36 (by decide) ?_
  refine va_iald (D := G.1) hx hb hK hP 2 0 rfl rfl (by unfold vp_in; decide) dX12_image_37 ?_
  refine lv_eqi (y := f_s 1) rfl ?_
  injection hF with hz
  injection hz with hq0 hz
  injection hz with hq1 hz
  subst hq0
  subst hq1
  subst hz
  exact cm_reti hx hb hr rfl hlk hK hP hD hS dX12_image_38

/-! HeadsByHairModel.undo()I -/
abbrev rm_X12_undo : Room := { frames := 0, cells := 0, slots := 0, locals := 0 }
set_option maxHeartbeats 4000000 in
set_option maxRecDepth 100000 in
theorem c_X12_undo (l : Launch) (G : GG) (h a_s a_image a_by a_truths a_bodies : Nat) (x_thrown x_hasImage x_act x_spot x_end x_isWrong x_open x_turn x_lean x_last x_angle x_asLay x_ticks x_ran x_kind x_number x_tellsV : Int32) (f_image : Nat → Int32) (f_s : Nat → Int32) (z : Int32) (z_f_s : Nat → Int32) (hF : fX12_undo x_hasImage f_image f_s = some (z, z_f_s)) : CMi l yX12_undo wsX12_undo rm_X12_undo G [o12 h x_thrown a_s a_image x_hasImage x_act x_spot x_end x_isWrong x_open a_by a_truths x_turn x_lean x_last x_angle x_asLay x_ticks a_bodies x_ran x_kind x_number x_tellsV, aI G a_image 1394 f_image, aI G a_s 1394 f_s] [o12 h x_thrown a_s a_image x_hasImage x_act x_spot x_end x_isWrong x_open a_by a_truths x_turn x_lean x_last x_angle x_asLay x_ticks a_bodies x_ran x_kind x_number x_tellsV, aI G a_image 1394 f_image, aI G a_s 1394 z_f_s] [.ref h] z := by
  refine cm_start (cc := cX12_undo) (maxL := 2) (ret := (some .int)) (Qc := fun A => QI G [o12 h x_thrown a_s a_image x_hasImage x_act x_spot x_end x_isWrong x_open a_by a_truths x_turn x_lean x_last x_angle x_asLay x_ticks a_bodies x_ran x_kind x_number x_tellsV, aI G a_image 1394 f_image, aI G a_s 1394 z_f_s] z A) (by decide +kernel) rfl (Nat.le_of_ble_eq_true rfl) ?_
  intro p e s m args below meth c A hx hb hr hlk hml hown hnm hts hA H locs hP hK hD hE hS ls hl
  have hown : s.vm.findClass RX12 = some m.cls := hown
  have hl : lv_has ls 2 [(0, .ref h)] := hl
  have hin12 : ∀ w ∈ wsX120, w ∈ wsX12_undo := by decide +kernel
  have lk_237 := hts (.fieldLink RX12 237 "HeadsByHairModel" "hasImage" "Z") (by decide +kernel)
  have lk_9 := hts (.fieldLink RX12 9 "HeadsByHairModel" "s" "[I") (by decide +kernel)
  have lk_15 := hts (.fieldLink RX12 15 "HeadsByHairModel" "image" "[I") (by decide +kernel)
  revert hF
  have LP12 : ∀ (n : Nat) (f_s : Nat → Int32) (l1 : Int32) (H : Heap) (locs : List Loc) (ls : Array Slot), va_P G.1 vwCl [o12 h x_thrown a_s a_image x_hasImage x_act x_spot x_end x_isWrong x_open a_by a_truths x_turn x_lean x_last x_angle x_asLay x_ticks a_bodies x_ran x_kind x_number x_tellsV, aI G a_image 1394 f_image, aI G a_s 1394 f_s] H → va_D A [o12 h x_thrown a_s a_image x_hasImage x_act x_spot x_end x_isWrong x_open a_by a_truths x_turn x_lean x_last x_angle x_asLay x_ticks a_bodies x_ran x_kind x_number x_tellsV, aI G a_image 1394 f_image, aI G a_s 1394 f_s] → va_S A s.heap H locs → lv_has ls 2 [(0, .ref h), (1, .int l1)] → fX12_undo_L12 x_hasImage f_image n f_s l1 = some (z, z_f_s) → W p l e (rm_X12_undo) s m args below meth c H locs 0 0 (MQ below (QI G [o12 h x_thrown a_s a_image x_hasImage x_act x_spot x_end x_isWrong x_open a_by a_truths x_turn x_lean x_last x_angle x_asLay x_ticks a_bodies x_ran x_kind x_number x_tellsV, aI G a_image 1394 f_image, aI G a_s 1394 z_f_s] z A) args s 0 0 A) (F0 m 12 ls []) := by
    intro n
    induction n with
    | zero =>
      intro f_s l1 H locs ls hP hD hS hl hF
      cases hF
    | succ n ih =>
      intro f_s l1 H locs ls hP hD hS hl hF
      rw [fX12_undo_L12] at hF
      refine lv_iload_n hx hb dX12_undo_12 rfl (lv_at hl 1 rfl) ?_
      refine lv_sipush (v := 1394) hx hb dX12_undo_13 (by decide) ?_
      refine lv_icmp_ge (tgt := 37) hx hb dX12_undo_16 (by decide) (fun c2 => ?_) (fun c2 => ?_)
      · rw [if_pos c2] at hF
        refine lv_aload_n hx hb dX12_undo_37 rfl (lv_at hl 0 rfl) ?_
        refine va_get (D := G.1) (ci := 12) (v := .ref a_s) (C := RX12) (T := TX12) (N := 22) hx hb hts hin12 hown hK hP 0 rfl rfl 1 (by decide) lk_9 (fun _ h9 => h9) rfl dX12_undo_38 ?_
        refine lv_iconst (v := 1) hx hb dX12_undo_41 (by decide) ?_
        refine va_iald (D := G.1) hx hb hK hP 2 0 rfl rfl (by unfold vp_in; decide) dX12_undo_42 ?_
        refine lv_eqi (y := f_s 1) rfl ?_
        injection hF with hz
        injection hz with hq0 hz
        subst hq0
        subst hz
        exact cm_reti hx hb hr rfl hlk hK hP hD hS dX12_undo_43
      rw [if_neg c2] at hF
      refine lv_aload_n hx hb dX12_undo_19 rfl (lv_at hl 0 rfl) ?_
      refine va_get (D := G.1) (ci := 12) (v := .ref a_s) (C := RX12) (T := TX12) (N := 22) hx hb hts hin12 hown hK hP 0 rfl rfl 1 (by decide) lk_9 (fun _ h9 => h9) rfl dX12_undo_20 ?_
      refine lv_iload_n hx hb dX12_undo_23 rfl (lv_at hl 1 rfl) ?_
      refine lv_aload_n hx hb dX12_undo_24 rfl (lv_at hl 0 rfl) ?_
      refine va_get (D := G.1) (ci := 12) (v := .ref a_image) (C := RX12) (T := TX12) (N := 22) hx hb hts hin12 hown hK hP 0 rfl rfl 2 (by decide) lk_15 (fun _ h9 => h9) rfl dX12_undo_25 ?_
      refine lv_iload_n hx hb dX12_undo_28 rfl (lv_at hl 1 rfl) ?_
      obtain ⟨hi3, hF⟩ := ck_some hF
      refine va_iald (D := G.1) hx hb hK hP 1 0 rfl rfl hi3 dX12_undo_29 ?_
      refine va_iast (D := G.1) hx hb hK hP hD hS 2 0 rfl rfl hi3 dX12_undo_30 (fun H locs hP hD hS => ?_)
      have hP : va_P G.1 vwCl [o12 h x_thrown a_s a_image x_hasImage x_act x_spot x_end x_isWrong x_open a_by a_truths x_turn x_lean x_last x_angle x_asLay x_ticks a_bodies x_ran x_kind x_number x_tellsV, aI G a_image 1394 f_image, aI G a_s 1394 (upd f_s l1.toNatClampNeg (f_image l1.toNatClampNeg))] H := hP
      have hD : va_D A [o12 h x_thrown a_s a_image x_hasImage x_act x_spot x_end x_isWrong x_open a_by a_truths x_turn x_lean x_last x_angle x_asLay x_ticks a_bodies x_ran x_kind x_number x_tellsV, aI G a_image 1394 f_image, aI G a_s 1394 (upd f_s l1.toNatClampNeg (f_image l1.toNatClampNeg))] := hD
      refine lv_iinc (v := l1 + 1) (lv' := [(1, .int (l1 + 1)), (0, .ref h)]) hx hb dX12_undo_31 hl (k := 1) rfl rfl (by decide) rfl (fun ls hl => ?_)
      refine lv_goto (tgt := 12) hx hb dX12_undo_34 (by decide) ?_
      exact ih _ _ H locs ls hP hD hS (lv_sub hl [1, 0] rfl) hF
  intro hF
  unfold fX12_undo at hF
  refine lv_aload_n hx hb dX12_undo_0 rfl (lv_at hl 0 rfl) ?_
  refine va_get (D := G.1) (ci := 12) (v := .int x_hasImage) (C := RX12) (T := TX12) (N := 22) hx hb hts hin12 hown hK hP 0 rfl rfl 3 (by decide) lk_237 (fun _ h9 => h9) rfl dX12_undo_1 ?_
  refine lv_if_ne (tgt := 10) hx hb dX12_undo_4 (by decide) (fun c1 => ?_) (fun c1 => ?_)
  · rw [if_neg c1] at hF
    refine lv_iconst (v := 0) hx hb dX12_undo_10 (by decide) ?_
    refine lv_istore_n (lv' := [(1, .int 0), (0, .ref h)]) hx hb dX12_undo_11 rfl hl (by decide) rfl (fun ls hl => ?_)
    refine LP12 _ _ _ H locs ls hP hD hS (lv_sub hl [1, 0] rfl) hF
  rw [if_pos c1] at hF
  refine lv_bipush (v := (-3)) hx hb dX12_undo_7 (by decide) ?_
  injection hF with hz
  injection hz with hq0 hz
  subst hq0
  subst hz
  exact cm_reti hx hb hr rfl hlk hK hP hD hS dX12_undo_9

/-! HeadsByHairModel.count(I)I -/
abbrev rm_X12_count : Room := { frames := 0, cells := 0, slots := 0, locals := 0 }
set_option maxHeartbeats 4000000 in
set_option maxRecDepth 100000 in
theorem c_X12_count (l : Launch) (G : GG) (h a_s a_image a_by a_truths a_bodies : Nat) (x_thrown x_hasImage x_act x_spot x_end x_isWrong x_open x_turn x_lean x_last x_angle x_asLay x_ticks x_ran x_kind x_number x_tellsV : Int32) (f_s : Nat → Int32) (l1 : Int32) (z : Int32) (hF : fX12_count x_ran f_s l1 = some (z)) : CMi l yX12_count wsX12_count rm_X12_count G [o12 h x_thrown a_s a_image x_hasImage x_act x_spot x_end x_isWrong x_open a_by a_truths x_turn x_lean x_last x_angle x_asLay x_ticks a_bodies x_ran x_kind x_number x_tellsV, aI G a_s 1394 f_s] [o12 h x_thrown a_s a_image x_hasImage x_act x_spot x_end x_isWrong x_open a_by a_truths x_turn x_lean x_last x_angle x_asLay x_ticks a_bodies x_ran x_kind x_number x_tellsV, aI G a_s 1394 f_s] [.ref h, .int l1] z := by
  refine cm_start (cc := cX12_count) (maxL := 2) (ret := (some .int)) (Qc := fun A => QI G [o12 h x_thrown a_s a_image x_hasImage x_act x_spot x_end x_isWrong x_open a_by a_truths x_turn x_lean x_last x_angle x_asLay x_ticks a_bodies x_ran x_kind x_number x_tellsV, aI G a_s 1394 f_s] z A) (by decide +kernel) rfl (Nat.le_of_ble_eq_true rfl) ?_
  intro p e s m args below meth c A hx hb hr hlk hml hown hnm hts hA H locs hP hK hD hE hS ls hl
  have hown : s.vm.findClass RX12 = some m.cls := hown
  have hl : lv_has ls 2 [(0, .ref h), (1, .int l1)] := hl
  have hin12 : ∀ w ∈ wsX120, w ∈ wsX12_count := by decide +kernel
  have lk_9 := hts (.fieldLink RX12 9 "HeadsByHairModel" "s" "[I") (by decide +kernel)
  have lk_194 := hts (.fieldLink RX12 194 "HeadsByHairModel" "ran" "I") (by decide +kernel)
  revert hF
  intro hF
  unfold fX12_count at hF
  refine lv_iload_n hx hb dX12_count_0 rfl (lv_at hl 1 rfl) ?_
  by_cases c1 : l1 = 0
  · rw [if_pos c1] at hF
    refine lv_eqi c1 ?_
    refine lv_tableIn (tgt := 40) (off := 39) hx hb dX12_count_1 (by decide) (by decide) (by decide) (by decide) ?_
    refine lv_aload_n hx hb dX12_count_40 rfl (lv_at hl 0 rfl) ?_
    refine va_get (D := G.1) (ci := 12) (v := .ref a_s) (C := RX12) (T := TX12) (N := 22) hx hb hts hin12 hown hK hP 0 rfl rfl 1 (by decide) lk_9 (fun _ h9 => h9) rfl dX12_count_41 ?_
    refine lv_iconst (v := 0) hx hb dX12_count_44 (by decide) ?_
    refine va_iald (D := G.1) hx hb hK hP 1 0 rfl rfl (by unfold vp_in; decide) dX12_count_45 ?_
    refine lv_eqi (y := f_s 0) rfl ?_
    injection hF with hz
    subst hz
    exact cm_reti hx hb hr rfl hlk hK hP hD hS dX12_count_46
  rw [if_neg c1] at hF
  by_cases c2 : l1 = 1
  · rw [if_pos c2] at hF
    refine lv_eqi c2 ?_
    refine lv_tableIn (tgt := 47) (off := 46) hx hb dX12_count_1 (by decide) (by decide) (by decide) (by decide) ?_
    refine lv_aload_n hx hb dX12_count_47 rfl (lv_at hl 0 rfl) ?_
    refine va_get (D := G.1) (ci := 12) (v := .ref a_s) (C := RX12) (T := TX12) (N := 22) hx hb hts hin12 hown hK hP 0 rfl rfl 1 (by decide) lk_9 (fun _ h9 => h9) rfl dX12_count_48 ?_
    refine lv_iconst (v := 1) hx hb dX12_count_51 (by decide) ?_
    refine va_iald (D := G.1) hx hb hK hP 1 0 rfl rfl (by unfold vp_in; decide) dX12_count_52 ?_
    refine lv_eqi (y := f_s 1) rfl ?_
    injection hF with hz
    subst hz
    exact cm_reti hx hb hr rfl hlk hK hP hD hS dX12_count_53
  rw [if_neg c2] at hF
  by_cases c3 : l1 = 2
  · rw [if_pos c3] at hF
    refine lv_eqi c3 ?_
    refine lv_tableIn (tgt := 54) (off := 53) hx hb dX12_count_1 (by decide) (by decide) (by decide) (by decide) ?_
    refine lv_aload_n hx hb dX12_count_54 rfl (lv_at hl 0 rfl) ?_
    refine va_get (D := G.1) (ci := 12) (v := .ref a_s) (C := RX12) (T := TX12) (N := 22) hx hb hts hin12 hown hK hP 0 rfl rfl 1 (by decide) lk_9 (fun _ h9 => h9) rfl dX12_count_55 ?_
    refine lv_iconst (v := 2) hx hb dX12_count_58 (by decide) ?_
    refine va_iald (D := G.1) hx hb hK hP 1 0 rfl rfl (by unfold vp_in; decide) dX12_count_59 ?_
    refine lv_eqi (y := f_s 2) rfl ?_
    injection hF with hz
    subst hz
    exact cm_reti hx hb hr rfl hlk hK hP hD hS dX12_count_60
  rw [if_neg c3] at hF
  by_cases c4 : l1 = 3
  · rw [if_pos c4] at hF
    refine lv_eqi c4 ?_
    refine lv_tableIn (tgt := 61) (off := 60) hx hb dX12_count_1 (by decide) (by decide) (by decide) (by decide) ?_
    refine lv_aload_n hx hb dX12_count_61 rfl (lv_at hl 0 rfl) ?_
    refine va_get (D := G.1) (ci := 12) (v := .ref a_s) (C := RX12) (T := TX12) (N := 22) hx hb hts hin12 hown hK hP 0 rfl rfl 1 (by decide) lk_9 (fun _ h9 => h9) rfl dX12_count_62 ?_
    refine lv_iconst (v := 3) hx hb dX12_count_65 (by decide) ?_
    refine va_iald (D := G.1) hx hb hK hP 1 0 rfl rfl (by unfold vp_in; decide) dX12_count_66 ?_
    refine lv_eqi (y := f_s 3) rfl ?_
    injection hF with hz
    subst hz
    exact cm_reti hx hb hr rfl hlk hK hP hD hS dX12_count_67
  rw [if_neg c4] at hF
  by_cases c5 : l1 = 4
  · rw [if_pos c5] at hF
    refine lv_eqi c5 ?_
    refine lv_tableIn (tgt := 68) (off := 67) hx hb dX12_count_1 (by decide) (by decide) (by decide) (by decide) ?_
    refine lv_aload_n hx hb dX12_count_68 rfl (lv_at hl 0 rfl) ?_
    refine va_get (D := G.1) (ci := 12) (v := .ref a_s) (C := RX12) (T := TX12) (N := 22) hx hb hts hin12 hown hK hP 0 rfl rfl 1 (by decide) lk_9 (fun _ h9 => h9) rfl dX12_count_69 ?_
    refine lv_iconst (v := 4) hx hb dX12_count_72 (by decide) ?_
    refine va_iald (D := G.1) hx hb hK hP 1 0 rfl rfl (by unfold vp_in; decide) dX12_count_73 ?_
    refine lv_eqi (y := f_s 4) rfl ?_
    injection hF with hz
    subst hz
    exact cm_reti hx hb hr rfl hlk hK hP hD hS dX12_count_74
  rw [if_neg c5] at hF
  by_cases c6 : l1 = 5
  · rw [if_pos c6] at hF
    refine lv_eqi c6 ?_
    refine lv_tableIn (tgt := 75) (off := 74) hx hb dX12_count_1 (by decide) (by decide) (by decide) (by decide) ?_
    refine lv_aload_n hx hb dX12_count_75 rfl (lv_at hl 0 rfl) ?_
    refine va_get (D := G.1) (ci := 12) (v := .int x_ran) (C := RX12) (T := TX12) (N := 22) hx hb hts hin12 hown hK hP 0 rfl rfl 18 (by decide) lk_194 (fun _ h9 => h9) rfl dX12_count_76 ?_
    injection hF with hz
    subst hz
    exact cm_reti hx hb hr rfl hlk hK hP hD hS dX12_count_79
  rw [if_neg c6] at hF
  refine lv_tableOut (tgt := 80) hx hb dX12_count_1 (by have a0 := lv_neT (k := 0) (a := 0) c1 (by decide); have a1 := lv_neT (k := 1) (a := 1) c2 (by decide); have a2 := lv_neT (k := 2) (a := 2) c3 (by decide); have a3 := lv_neT (k := 3) (a := 3) c4 (by decide); have a4 := lv_neT (k := 4) (a := 4) c5 (by decide); have a5 := lv_neT (k := 5) (a := 5) c6 (by decide); omega) (by decide) ?_
  refine lv_iconst (v := (-1)) hx hb dX12_count_80 (by decide) ?_
  injection hF with hz
  subst hz
  exact cm_reti hx hb hr rfl hlk hK hP hD hS dX12_count_81
