abbrev QU (G : GG) (w1 : Nat × Nat → va_W) (z : Int32) (A : Nat → Prop) : Array Value → State → Outcome → State → Prop := va_Qi (fun (r : Int32) (_ : Nat × Nat) => r = z) (fun u t => cB G A (w1 u) t) A
theorem cm_retu {p : Program} {l : Launch} {e : Env} {R : Room} {s : State} {m : MethodId} {args : Array Value} {below : List Frame} {meth : Method} {c : Code} {H : Heap} {locs : List Loc} {cells slots : Nat} {cc : ByteArray} {pc : Nat} {ls : Array Slot} {A : Nat → Prop} {G : GG} {w1 : Nat × Nat → va_W} {u : Nat × Nat} {z : Int32} {ty : FieldType} (hx : p.tables.exec = Jvm.exec) (hb : c.code = cc) (hr : meth.sig.returnType = some ty) (hn : narrow ty (.int z) = .int z) (hlk : meth.locks = false) (hK : va_K G.1 vwCl (TY G) s) (hP : va_P G.1 vwCl (w1 u) H) (hD : va_D A (w1 u)) (hS : va_S A s.heap H locs) (hd : decode cc pc = .ok (.ireturn, 1)) :
    W p l e R s m args below meth c H locs cells slots (MQ below (QU G w1 z A) args s cells slots A) (F0 m pc ls [.int z]) :=
  W.zret hx hb hr hn (fun t ht hW => ⟨⟨z, u, rfl, rfl, by rw [ht]; exact hP, va_K.moved hW.alike hK, hD⟩, hS.F ht⟩) hS.2.2 hd hlk
abbrev rm_X11_law_n : Room := { frames := 53, cells := 0, slots := 0, locals := 2768 }
set_option maxHeartbeats 4000000 in
set_option maxRecDepth 100000 in
theorem c_X11_law_n (l : Launch) (G : GG) (h a_now a_kept a_reader a_flight a_latest a_now_edge a_now_bend a_now_rise a_now_wandering a_now_thrown a_now_alike a_now_law a_now_tape a_now_side a_reader_text a_reader_steps : Nat) (x_isKept x_now_coins x_now_hands x_now_laws x_now_bytes x_now_sides x_reader_size x_reader_place x_reader_stepCount x_reader_number x_reader_caught : Int32) (f_now_tape : Nat → Int32) (f_reader_steps : Nat → Int32) (l1 : Int32) (l2 : Int32) (z : Int32) (z_x_now_bytes : Int32) (z_x_reader_size : Int32) (z_x_reader_place : Int32) (z_x_reader_stepCount : Int32) (z_x_reader_number : Int32) (z_x_reader_caught : Int32) (z_f_reader_steps : Nat → Int32) (hF : fX11_law_n x_now_laws x_now_bytes x_reader_size x_reader_place x_reader_stepCount x_reader_number x_reader_caught f_now_tape f_reader_steps l1 l2 = some (z, z_x_now_bytes, z_x_reader_size, z_x_reader_place, z_x_reader_stepCount, z_x_reader_number, z_x_reader_caught, z_f_reader_steps)) : ∀ sz : Nat, Met l yX11_law wsX11_law rm_X11_law_n (cP G [o11 h a_now a_kept x_isKept a_reader a_flight a_latest, o6 a_now x_now_coins x_now_hands x_now_laws x_now_bytes x_now_sides a_now_edge a_now_bend a_now_rise a_now_wandering a_now_thrown a_now_alike a_now_law a_now_tape a_now_side, o3 a_reader a_reader_text a_reader_steps x_reader_size x_reader_place x_reader_stepCount x_reader_number x_reader_caught, aI G a_now_tape 120 f_now_tape, aI G a_reader_steps 120 f_reader_steps] sz [.ref h, .int l1, .int l2]) (QU G (fun u : Nat × Nat => [o11 h a_now a_kept x_isKept a_reader a_flight a_latest, o6 a_now x_now_coins x_now_hands x_now_laws z_x_now_bytes x_now_sides a_now_edge a_now_bend a_now_rise a_now_wandering a_now_thrown a_now_alike a_now_law a_now_tape a_now_side, o3 a_reader u.1 a_reader_steps z_x_reader_size z_x_reader_place z_x_reader_stepCount z_x_reader_number z_x_reader_caught, aI G a_now_tape 120 f_now_tape, aI G a_reader_steps 120 z_f_reader_steps]) z (va_A [o11 h a_now a_kept x_isKept a_reader a_flight a_latest, o6 a_now x_now_coins x_now_hands x_now_laws x_now_bytes x_now_sides a_now_edge a_now_bend a_now_rise a_now_wandering a_now_thrown a_now_alike a_now_law a_now_tape a_now_side, o3 a_reader a_reader_text a_reader_steps x_reader_size x_reader_place x_reader_stepCount x_reader_number x_reader_caught, aI G a_now_tape 120 f_now_tape, aI G a_reader_steps 120 f_reader_steps] sz)) 0 0 (va_A [o11 h a_now a_kept x_isKept a_reader a_flight a_latest, o6 a_now x_now_coins x_now_hands x_now_laws x_now_bytes x_now_sides a_now_edge a_now_bend a_now_rise a_now_wandering a_now_thrown a_now_alike a_now_law a_now_tape a_now_side, o3 a_reader a_reader_text a_reader_steps x_reader_size x_reader_place x_reader_stepCount x_reader_number x_reader_caught, aI G a_now_tape 120 f_now_tape, aI G a_reader_steps 120 f_reader_steps] sz) := by
  refine cm_start (cc := cX11_law) (maxL := 4) (ret := (some .int)) (Qc := fun A => QU G (fun u : Nat × Nat => [o11 h a_now a_kept x_isKept a_reader a_flight a_latest, o6 a_now x_now_coins x_now_hands x_now_laws z_x_now_bytes x_now_sides a_now_edge a_now_bend a_now_rise a_now_wandering a_now_thrown a_now_alike a_now_law a_now_tape a_now_side, o3 a_reader u.1 a_reader_steps z_x_reader_size z_x_reader_place z_x_reader_stepCount z_x_reader_number z_x_reader_caught, aI G a_now_tape 120 f_now_tape, aI G a_reader_steps 120 z_f_reader_steps]) z A) (by decide +kernel) rfl (Nat.le_of_ble_eq_true rfl) ?_
  intro p e s m args below meth c A hx hb hr hlk hml hown hnm hts hA H locs hP hK hD hE hS ls hl
  have hown : s.vm.findClass RX11 = some m.cls := hown
  have hl : lv_has ls 4 [(0, .ref h), (1, .int l1), (2, .int l2)] := hl
  have hin11 : ∀ w ∈ wsX110, w ∈ wsX11_law := by decide +kernel
  have hin6 : ∀ w ∈ wsX60, w ∈ wsX11_law := by decide +kernel
  have hin3 : ∀ w ∈ wsX30, w ∈ wsX11_law := by decide +kernel
  have lk_12 := hts (.fieldLink RX11 12 "HeadsByHair" "now" "LHeadsByHair$Stock;") (by decide +kernel)
  have lk_95 := va_Nw.use (A := args) rfl (hE.nw (.fieldLinkNest "HeadsByHair" 95 "HeadsByHair$Stock" "laws" "I" "HeadsByHair") (by decide +kernel))
  have lk_24 := hts (.fieldLink RX11 24 "HeadsByHair" "reader" "LHeadsByHair$Reader;") (by decide +kernel)
  have lk_92 := va_Nw.use (A := args) rfl (hE.nw (.fieldLinkNest "HeadsByHair" 92 "HeadsByHair$Stock" "tape" "[I" "HeadsByHair") (by decide +kernel))
  have lk_89 := va_Nw.use (A := args) rfl (hE.nw (.fieldLinkNest "HeadsByHair" 89 "HeadsByHair$Stock" "bytes" "I" "HeadsByHair") (by decide +kernel))
  have lk_102 := va_Nw.use (A := args) rfl (hE.nw (.fieldLinkNest "HeadsByHair" 102 "HeadsByHair$Reader" "place" "I" "HeadsByHair") (by decide +kernel))
  revert hF
  intro hF
  unfold fX11_law_n at hF
  refine lv_iload_n hx hb dX11_law_0 rfl (lv_at hl 1 rfl) ?_
  refine lv_iconst (v := 0) hx hb dX11_law_1 (by decide) ?_
  refine lv_bipush (v := 6) hx hb dX11_law_2 (by decide) ?_
  obtain ⟨r1, hc2, hF⟩ := bd_some hF
  have hPc := hP.sub (ws' := []) [] rfl
  have hDc := hD.sub (ws' := []) [] (by decide) rfl
  have hFc := va_free (wc := []) hD hS hA [] rfl
  have hM := c_X11_isWithin l G l1 (0 : Int32) (6 : Int32) r1 hc2 H.size
  refine cl_i (w1 := []) (ws' := [o11 h a_now a_kept x_isKept a_reader a_flight a_latest, o6 a_now x_now_coins x_now_hands x_now_laws x_now_bytes x_now_sides a_now_edge a_now_bend a_now_rise a_now_wandering a_now_thrown a_now_alike a_now_law a_now_tape a_now_side, o3 a_reader a_reader_text a_reader_steps x_reader_size x_reader_place x_reader_stepCount x_reader_number x_reader_caught, aI G a_now_tape 120 f_now_tape, aI G a_reader_steps 120 f_reader_steps]) hP hD hS hFc [] rfl rfl rfl (va_runS (As := [.int l1, .int 0, .int 6]) (rest := []) ⟨hx, hb, hml, hown, hts⟩ hM (va_cwS 3 hts gX11_law_X11_isWithin rfl rfl rfl (by decide +kernel) ⟨Nat.le_of_ble_eq_true rfl, Nat.le_of_ble_eq_true rfl⟩) (cp_S hK hE hS hPc hDc hFc) rfl rfl hl.1 rfl (lv_room (Nat.le_of_ble_eq_true rfl)) dX11_law_4 ⟨Nat.zero_le _, Nat.zero_le _⟩) (fun H locs hP hD hS => ?_)
  refine lv_if_ne (tgt := 12) hx hb dX11_law_7 (by decide) (fun c3 => ?_) (fun c3 => ?_)
  · rw [if_neg c3] at hF
    refine lv_iload_n hx hb dX11_law_12 rfl (lv_at hl 2 rfl) ?_
    refine lv_iconst (v := 0) hx hb dX11_law_13 (by decide) ?_
    refine lv_bipush (v := 9) hx hb dX11_law_14 (by decide) ?_
    obtain ⟨r4, hc5, hF⟩ := bd_some hF
    have hPc := hP.sub (ws' := []) [] rfl
    have hDc := hD.sub (ws' := []) [] (by decide) rfl
    have hFc := va_free (wc := []) hD hS hA [] rfl
    have hM := c_X11_isWithin l G l2 (0 : Int32) (9 : Int32) r4 hc5 H.size
    refine cl_i (w1 := []) (ws' := [o11 h a_now a_kept x_isKept a_reader a_flight a_latest, o6 a_now x_now_coins x_now_hands x_now_laws x_now_bytes x_now_sides a_now_edge a_now_bend a_now_rise a_now_wandering a_now_thrown a_now_alike a_now_law a_now_tape a_now_side, o3 a_reader a_reader_text a_reader_steps x_reader_size x_reader_place x_reader_stepCount x_reader_number x_reader_caught, aI G a_now_tape 120 f_now_tape, aI G a_reader_steps 120 f_reader_steps]) hP hD hS hFc [] rfl rfl rfl (va_runS (As := [.int l2, .int 0, .int 9]) (rest := []) ⟨hx, hb, hml, hown, hts⟩ hM (va_cwS 3 hts gX11_law_X11_isWithin rfl rfl rfl (by decide +kernel) ⟨Nat.le_of_ble_eq_true rfl, Nat.le_of_ble_eq_true rfl⟩) (cp_S hK hE hS hPc hDc hFc) rfl rfl hl.1 rfl (lv_room (Nat.le_of_ble_eq_true rfl)) dX11_law_16 ⟨Nat.zero_le _, Nat.zero_le _⟩) (fun H locs hP hD hS => ?_)
    refine lv_if_ne (tgt := 25) hx hb dX11_law_19 (by decide) (fun c6 => ?_) (fun c6 => ?_)
    · rw [if_neg c6] at hF
      refine lv_aload_n hx hb dX11_law_25 rfl (lv_at hl 0 rfl) ?_
      refine va_get (D := G.1) (ci := 11) (v := .ref a_now) (C := RX11) (T := TX11) (N := 6) hx hb hts hin11 hown hK hP 0 rfl rfl 0 (by decide) lk_12 (fun _ h9 => h9) rfl dX11_law_26 ?_
      refine va_getN (D := G.1) (ci := 6) (v := .int x_now_laws) (C := RX6) (T := TX6) (N := 14) hx hb hts hin6 hown hK hP 1 rfl rfl 2 (by decide) lk_95 (fun _ h9 => h9) rfl dX11_law_29 ?_
      refine W.eq (g2 := F0 m 32 ls [.int x_now_laws]) rfl ?_
      refine lv_bipush (v := 8) hx hb dX11_law_32 (by decide) ?_
      refine lv_icmp_lt (tgt := 40) hx hb dX11_law_34 (by decide) (fun c7 => ?_) (fun c7 => ?_)
      · rw [if_pos c7] at hF
        refine lv_aload_n hx hb dX11_law_40 rfl (lv_at hl 0 rfl) ?_
        refine va_get (D := G.1) (ci := 11) (v := .ref a_reader) (C := RX11) (T := TX11) (N := 6) hx hb hts hin11 hown hK hP 0 rfl rfl 3 (by decide) lk_24 (fun _ h9 => h9) rfl dX11_law_41 ?_
        refine lv_aload_n hx hb dX11_law_44 rfl (lv_at hl 0 rfl) ?_
        refine va_get (D := G.1) (ci := 11) (v := .ref a_now) (C := RX11) (T := TX11) (N := 6) hx hb hts hin11 hown hK hP 0 rfl rfl 0 (by decide) lk_12 (fun _ h9 => h9) rfl dX11_law_45 ?_
        refine va_getN (D := G.1) (ci := 6) (v := .ref a_now_tape) (C := RX6) (T := TX6) (N := 14) hx hb hts hin6 hown hK hP 1 rfl rfl 12 (by decide) lk_92 (fun _ h9 => h9) rfl dX11_law_48 ?_
        refine lv_aload_n hx hb dX11_law_51 rfl (lv_at hl 0 rfl) ?_
        refine va_get (D := G.1) (ci := 11) (v := .ref a_now) (C := RX11) (T := TX11) (N := 6) hx hb hts hin11 hown hK hP 0 rfl rfl 0 (by decide) lk_12 (fun _ h9 => h9) rfl dX11_law_52 ?_
        refine va_getN (D := G.1) (ci := 6) (v := .int x_now_bytes) (C := RX6) (T := TX6) (N := 14) hx hb hts hin6 hown hK hP 1 rfl rfl 3 (by decide) lk_89 (fun _ h9 => h9) rfl dX11_law_55 ?_
        obtain ⟨r8, hc9, hF⟩ := bd_some hF
        have hPc := hP.sub (ws' := [o3 a_reader a_reader_text a_reader_steps x_reader_size x_reader_place x_reader_stepCount x_reader_number x_reader_caught, aI G a_reader_steps 120 f_reader_steps, aI G a_now_tape 120 f_now_tape]) [2, 4, 3] rfl
        have hDc := hD.sub (ws' := [o3 a_reader a_reader_text a_reader_steps x_reader_size x_reader_place x_reader_stepCount x_reader_number x_reader_caught, aI G a_reader_steps 120 f_reader_steps, aI G a_now_tape 120 f_now_tape]) [2, 4, 3] (by decide) rfl
        have hFc := va_free (wc := [o3 a_reader a_reader_text a_reader_steps x_reader_size x_reader_place x_reader_stepCount x_reader_number x_reader_caught, aI G a_reader_steps 120 f_reader_steps, aI G a_now_tape 120 f_now_tape]) hD hS hA [2, 4, 3] rfl
        have hM := c_X3_reads l G a_reader a_reader_text a_reader_steps a_now_tape x_reader_size x_reader_place x_reader_stepCount x_reader_number x_reader_caught f_reader_steps f_now_tape x_now_bytes r8.1 r8.2.1 r8.2.2.1 r8.2.2.2.1 r8.2.2.2.2.1 r8.2.2.2.2.2.1 r8.2.2.2.2.2.2 hc9 H.size
        refine cl_i (w1 := [o3 a_reader a_now_tape a_reader_steps r8.2.1 r8.2.2.1 r8.2.2.2.1 r8.2.2.2.2.1 r8.2.2.2.2.2.1, aI G a_reader_steps 120 r8.2.2.2.2.2.2, aI G a_now_tape 120 f_now_tape]) (ws' := [o11 h a_now a_kept x_isKept a_reader a_flight a_latest, o6 a_now x_now_coins x_now_hands x_now_laws x_now_bytes x_now_sides a_now_edge a_now_bend a_now_rise a_now_wandering a_now_thrown a_now_alike a_now_law a_now_tape a_now_side, o3 a_reader a_now_tape a_reader_steps r8.2.1 r8.2.2.1 r8.2.2.2.1 r8.2.2.2.2.1 r8.2.2.2.2.2.1, aI G a_now_tape 120 f_now_tape, aI G a_reader_steps 120 r8.2.2.2.2.2.2]) hP hD hS hFc [2, 4, 3] rfl rfl rfl (va_runVN (As := [.ref a_now_tape, .int x_now_bytes]) (rest := []) ⟨hx, hb, hml, hown, hts⟩ hM ⟨va_cnB 2 hts gX11_law_X3_reads_n98 rfl rfl rfl (hE.nw (.methodLinkNest RX11 98 yX3_reads "HeadsByHair") (by decide +kernel)) (hts (.initialized RX3) (by decide +kernel)) (by decide +kernel) ⟨Nat.le_of_ble_eq_true rfl, Nat.le_of_ble_eq_true rfl⟩, hts (.instanceMethod yX3_reads) (by decide +kernel), hts (.selects RX3 yX3_reads yX3_reads) (by decide +kernel)⟩ (cp_V hK hE hS hPc hDc hFc (va_recv hK hPc (ci := 3) (q0 := 0) rfl rfl)) rfl rfl hl.1 rfl (lv_room (Nat.le_of_ble_eq_true rfl)) dX11_law_58 ⟨Nat.zero_le _, Nat.zero_le _⟩) (fun H locs hP hD hS => ?_)
        refine lv_istore_n (lv' := [(3, .int r8.1), (0, .ref h), (1, .int l1), (2, .int l2)]) hx hb dX11_law_61 rfl hl (by decide) rfl (fun ls hl => ?_)
        refine lv_aload_n hx hb dX11_law_62 rfl (lv_at hl 1 rfl) ?_
        refine va_get (D := G.1) (ci := 11) (v := .ref a_now) (C := RX11) (T := TX11) (N := 6) hx hb hts hin11 hown hK hP 0 rfl rfl 0 (by decide) lk_12 (fun _ h9 => h9) rfl dX11_law_63 ?_
        refine W.eq (g2 := F0 m 66 ls [.ref a_now]) rfl ?_
        refine lv_iconst (v := 0) hx hb dX11_law_66 (by decide) ?_
        refine va_putN (D := G.1) (ci := 6) (v := .int 0) (ty := .int) (C := RX6) (T := TX6) (N := 14) hx hb hts hin6 tyX6 tyX6_ok nmX6 hown hK hP hD hS 1 rfl rfl 3 (by decide) lk_89 (fun _ h9 => h9) rfl (tyX6_ok 3 (by decide)) rfl rfl (Nat.le_of_ble_eq_true rfl) dX11_law_67 (fun H locs hP hD hS => ?_)
        have hP : va_P G.1 vwCl [o11 h a_now a_kept x_isKept a_reader a_flight a_latest, o6 a_now x_now_coins x_now_hands x_now_laws 0 x_now_sides a_now_edge a_now_bend a_now_rise a_now_wandering a_now_thrown a_now_alike a_now_law a_now_tape a_now_side, o3 a_reader a_now_tape a_reader_steps r8.2.1 r8.2.2.1 r8.2.2.2.1 r8.2.2.2.2.1 r8.2.2.2.2.2.1, aI G a_now_tape 120 f_now_tape, aI G a_reader_steps 120 r8.2.2.2.2.2.2] H := hP
        have hD : va_D A [o11 h a_now a_kept x_isKept a_reader a_flight a_latest, o6 a_now x_now_coins x_now_hands x_now_laws 0 x_now_sides a_now_edge a_now_bend a_now_rise a_now_wandering a_now_thrown a_now_alike a_now_law a_now_tape a_now_side, o3 a_reader a_now_tape a_reader_steps r8.2.1 r8.2.2.1 r8.2.2.2.1 r8.2.2.2.2.1 r8.2.2.2.2.2.1, aI G a_now_tape 120 f_now_tape, aI G a_reader_steps 120 r8.2.2.2.2.2.2] := hD
        refine lv_iload_n hx hb dX11_law_70 rfl (lv_at hl 0 rfl) ?_
        refine lv_if_ne (tgt := 85) hx hb dX11_law_71 (by decide) (fun c10 => ?_) (fun c10 => ?_)
        · rw [if_neg c10] at hF
          cases hF
        rw [if_pos c10] at hF
        refine lv_bipush (v := (-10)) hx hb dX11_law_74 (by decide) ?_
        refine lv_aload_n hx hb dX11_law_76 rfl (lv_at hl 1 rfl) ?_
        refine va_get (D := G.1) (ci := 11) (v := .ref a_reader) (C := RX11) (T := TX11) (N := 6) hx hb hts hin11 hown hK hP 0 rfl rfl 3 (by decide) lk_24 (fun _ h9 => h9) rfl dX11_law_77 ?_
        refine va_getN (D := G.1) (ci := 3) (v := .int r8.2.2.1) (C := RX3) (T := TX3) (N := 7) hx hb hts hin3 hown hK hP 2 rfl rfl 3 (by decide) lk_102 (fun _ h9 => h9) rfl dX11_law_80 ?_
        refine lv_isub hx hb dX11_law_83 ?_
        injection hF with hz
        injection hz with hq0 hz
        injection hz with hq1 hz
        injection hz with hq2 hz
        injection hz with hq3 hz
        injection hz with hq4 hz
        injection hz with hq5 hz
        injection hz with hq6 hz
        subst hq0
        subst hq1
        subst hq2
        subst hq3
        subst hq4
        subst hq5
        subst hq6
        subst hz
        exact cm_retu (u := (a_now_tape, 0)) hx hb hr rfl hlk hK hP hD hS dX11_law_84
      rw [if_neg c7] at hF
      refine lv_bipush (v := (-4)) hx hb dX11_law_37 (by decide) ?_
      injection hF with hz
      injection hz with hq0 hz
      injection hz with hq1 hz
      injection hz with hq2 hz
      injection hz with hq3 hz
      injection hz with hq4 hz
      injection hz with hq5 hz
      injection hz with hq6 hz
      subst hq0
      subst hq1
      subst hq2
      subst hq3
      subst hq4
      subst hq5
      subst hq6
      subst hz
      exact cm_retu (u := (a_reader_text, 0)) hx hb hr rfl hlk hK hP hD hS dX11_law_39
    rw [if_pos c6] at hF
    refine lv_bipush (v := (-2)) hx hb dX11_law_22 (by decide) ?_
    injection hF with hz
    injection hz with hq0 hz
    injection hz with hq1 hz
    injection hz with hq2 hz
    injection hz with hq3 hz
    injection hz with hq4 hz
    injection hz with hq5 hz
    injection hz with hq6 hz
    subst hq0
    subst hq1
    subst hq2
    subst hq3
    subst hq4
    subst hq5
    subst hq6
    subst hz
    exact cm_retu (u := (a_reader_text, 0)) hx hb hr rfl hlk hK hP hD hS dX11_law_24
  rw [if_pos c3] at hF
  refine lv_iconst (v := (-1)) hx hb dX11_law_10 (by decide) ?_
  injection hF with hz
  injection hz with hq0 hz
  injection hz with hq1 hz
  injection hz with hq2 hz
  injection hz with hq3 hz
  injection hz with hq4 hz
  injection hz with hq5 hz
  injection hz with hq6 hz
  subst hq0
  subst hq1
  subst hq2
  subst hq3
  subst hq4
  subst hq5
  subst hq6
  subst hz
  exact cm_retu (u := (a_reader_text, 0)) hx hb hr rfl hlk hK hP hD hS dX11_law_11
