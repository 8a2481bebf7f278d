/-! the JDK's own methods over the String constants; Strings are told by their places t < nJS -/
abbrev jr_0 : Room := { frames := 0, cells := 0, slots := 0, locals := 0 }
set_option maxHeartbeats 4000000 in
set_option maxRecDepth 100000 in
theorem c_J0_coder (l : Launch) (G : GG) (t : Nat) (ht : t < nJS) : CMi l yJ0_coder_7d493 wsJ0_coder_7d493 jr_0 G [] [] [.ref (G.2.2.1 t)] 0 := by
  refine cm_start (cc := cJ0_coder_7d493) (maxL := 1) (ret := (some .byte)) (Qc := fun A => QI G [] 0 A) (by decide +kernel) rfl (Nat.le_of_ble_eq_true rfl) ?_
  intro p e s m args below meth c A hx hb hr hlk hml hown hnm hts hA H locs hP hK hD hE hS ls hl
  have hown : s.vm.findClass RJ0 = some m.cls := hown
  have hl : lv_has ls 1 [(0, .ref (G.2.2.1 t))] := hl
  refine va_gets hx hb hE.cs hS hown (hts (.fieldLink RJ0 38 "java/lang/String" "COMPACT_STRINGS" "Z") (by decide +kernel)) (fun _ h9 => h9) dJ0_coder_7d493_0 ?_
  refine lv_if_eq (tgt := 13) hx hb dJ0_coder_7d493_3 (by decide) (fun c => absurd c (by decide)) (fun _ => ?_)
  refine lv_aload_n hx hb dJ0_coder_7d493_6 rfl (lv_at hl 0 rfl) ?_
  refine vk_getf hx hb (hE.str ht).2.1 hS hown (hts (.fieldLink RJ0 15 "java/lang/String" "coder" "B") (by decide +kernel)) (fun _ h9 => h9) dJ0_coder_7d493_7 ?_
  refine lv_goto (tgt := 14) hx hb dJ0_coder_7d493_10 (by decide) ?_
  exact cm_reti hx hb hr (by decide) hlk hK hP hD hS dJ0_coder_7d493_14
set_option maxHeartbeats 4000000 in
set_option maxRecDepth 100000 in
theorem c_J0_isLatin1 (l : Launch) (G : GG) (t : Nat) (ht : t < nJS) : CMi l yJ0_isLatin1_aae02 wsJ0_isLatin1_aae02 jr_0 G [] [] [.ref (G.2.2.1 t)] 1 := by
  refine cm_start (cc := cJ0_isLatin1_aae02) (maxL := 1) (ret := (some .boolean)) (Qc := fun A => QI G [] 1 A) (by decide +kernel) rfl (Nat.le_of_ble_eq_true rfl) ?_
  intro p e s m args below meth c A hx hb hr hlk hml hown hnm hts hA H locs hP hK hD hE hS ls hl
  have hown : s.vm.findClass RJ0 = some m.cls := hown
  have hl : lv_has ls 1 [(0, .ref (G.2.2.1 t))] := hl
  refine va_gets hx hb hE.cs hS hown (hts (.fieldLink RJ0 38 "java/lang/String" "COMPACT_STRINGS" "Z") (by decide +kernel)) (fun _ h9 => h9) dJ0_isLatin1_aae02_0 ?_
  refine lv_if_eq (tgt := 17) hx hb dJ0_isLatin1_aae02_3 (by decide) (fun c => absurd c (by decide)) (fun _ => ?_)
  refine lv_aload_n hx hb dJ0_isLatin1_aae02_6 rfl (lv_at hl 0 rfl) ?_
  refine vk_getf hx hb (hE.str ht).2.1 hS hown (hts (.fieldLink RJ0 15 "java/lang/String" "coder" "B") (by decide +kernel)) (fun _ h9 => h9) dJ0_isLatin1_aae02_7 ?_
  refine lv_if_ne (tgt := 17) hx hb dJ0_isLatin1_aae02_10 (by decide) (fun c => absurd rfl c) (fun _ => ?_)
  refine lv_iconst (v := 1) hx hb dJ0_isLatin1_aae02_13 (by decide) ?_
  refine lv_goto (tgt := 18) hx hb dJ0_isLatin1_aae02_14 (by decide) ?_
  exact cm_reti hx hb hr (by decide) hlk hK hP hD hS dJ0_isLatin1_aae02_18
abbrev jr_1 : Room := { frames := 1, cells := 0, slots := 0, locals := 20 }
set_option maxHeartbeats 4000000 in
set_option maxRecDepth 100000 in
theorem c_J0_length (l : Launch) (G : GG) (t : Nat) (ht : t < nJS) : CMi l yJ0_length_8abf5 wsJ0_length_8abf5 jr_1 G [] [] [.ref (G.2.2.1 t)] (Int32.ofNat (js_len t)) := by
  refine cm_start (cc := cJ0_length_8abf5) (maxL := 1) (ret := (some .int)) (Qc := fun A => QI G [] (Int32.ofNat (js_len t)) A) (by decide +kernel) rfl (Nat.le_of_ble_eq_true rfl) ?_
  intro p e s m args below meth c A hx hb hr hlk hml hown hnm hts hA H locs hP hK hD hE hS ls hl
  have hown : s.vm.findClass RJ0 = some m.cls := hown
  have hl : lv_has ls 1 [(0, .ref (G.2.2.1 t))] := hl
  refine lv_aload_n hx hb dJ0_length_8abf5_0 rfl (lv_at hl 0 rfl) ?_
  refine vk_getf hx hb (hE.str ht).2.2.1 hS hown (hts (.fieldLink RJ0 9 "java/lang/String" "value" "[B") (by decide +kernel)) (fun _ h9 => h9) dJ0_length_8abf5_1 ?_
  refine va_tlen (v := Int32.ofNat (js_len t)) hx hb (hE.str ht).2.2.2 hS rfl dJ0_length_8abf5_4 ?_
  refine lv_aload_n hx hb dJ0_length_8abf5_5 rfl (lv_at hl 0 rfl) ?_
  have hFc := va_free (wc := []) hD hS hA [] rfl
  have hM := c_J0_coder l G t ht H.size
  obtain ⟨cell, o1, o2, o3, o4⟩ := (hE.str ht).1.kept hS.2.1
  refine cl_i (w1 := []) (ws' := []) hP hD hS hFc [] rfl rfl rfl (va_runV (As := []) (rest := [.int (Int32.ofNat (js_len t))]) ⟨hx, hb, hml, hown, hts⟩ hM (cwV 0 hts gJ0_length_8abf5_J0_coder_7d493 rfl rfl rfl (by decide +kernel) ⟨Nat.le_of_ble_eq_true rfl, Nat.le_of_ble_eq_true rfl⟩) (cp_V hK hE hS hP hD hFc ⟨cell, o1, o2, o3⟩) rfl rfl hl.1 rfl (lv_room (Nat.le_of_ble_eq_true rfl)) dJ0_length_8abf5_6 ⟨Nat.zero_le _, Nat.zero_le _⟩) (fun H locs hP hD hS => ?_)
  refine lv_ishr hx hb dJ0_length_8abf5_9 ?_
  refine lv_eqi (sb_shr0 _) ?_
  exact cm_reti hx hb hr rfl hlk hK hP hD hS dJ0_length_8abf5_10
set_option maxHeartbeats 4000000 in
set_option maxRecDepth 100000 in
theorem c_J3_checkN (l : Launch) (G : GG) (k n : Int32) (h0 : ¬ k < 0) (h1 : k < n) : CMi l yJ3_checkIndex_8e157 wsJ3_checkIndex_8e157 jr_0 G [] [] [.int k, .int n, .null] k := by
  refine cm_start (cc := cJ3_checkIndex_8e157) (maxL := 3) (ret := (some .int)) (Qc := fun A => QI G [] k A) (by decide +kernel) rfl (Nat.le_of_ble_eq_true rfl) ?_
  intro p e s m args below meth c A hx hb hr hlk hml hown hnm hts hA H locs hP hK hD hE hS ls hl
  have hl : lv_has ls 3 [(0, .int k), (1, .int n), (2, .null)] := hl
  refine lv_iload_n hx hb dJ3_checkIndex_8e157_0 rfl (lv_at hl 0 rfl) ?_
  refine lv_if_lt (tgt := 9) hx hb dJ3_checkIndex_8e157_1 (by decide) (fun c => absurd c h0) (fun _ => ?_)
  refine lv_iload_n hx hb dJ3_checkIndex_8e157_4 rfl (lv_at hl 0 rfl) ?_
  refine lv_iload_n hx hb dJ3_checkIndex_8e157_5 rfl (lv_at hl 1 rfl) ?_
  refine lv_icmp_lt (tgt := 16) hx hb dJ3_checkIndex_8e157_6 (by decide) (fun _ => ?_) (fun c => absurd h1 c)
  refine lv_iload_n hx hb dJ3_checkIndex_8e157_16 rfl (lv_at hl 0 rfl) ?_
  exact cm_reti hx hb hr rfl hlk hK hP hD hS dJ3_checkIndex_8e157_17
set_option maxHeartbeats 4000000 in
set_option maxRecDepth 100000 in
theorem c_J3_checkR (l : Launch) (G : GG) (k n : Int32) (q : Nat) (h0 : ¬ k < 0) (h1 : k < n) : CMi l yJ3_checkIndex_8e157 wsJ3_checkIndex_8e157 jr_0 G [] [] [.int k, .int n, .ref q] k := by
  refine cm_start (cc := cJ3_checkIndex_8e157) (maxL := 3) (ret := (some .int)) (Qc := fun A => QI G [] k A) (by decide +kernel) rfl (Nat.le_of_ble_eq_true rfl) ?_
  intro p e s m args below meth c A hx hb hr hlk hml hown hnm hts hA H locs hP hK hD hE hS ls hl
  have hl : lv_has ls 3 [(0, .int k), (1, .int n), (2, .ref q)] := hl
  refine lv_iload_n hx hb dJ3_checkIndex_8e157_0 rfl (lv_at hl 0 rfl) ?_
  refine lv_if_lt (tgt := 9) hx hb dJ3_checkIndex_8e157_1 (by decide) (fun c => absurd c h0) (fun _ => ?_)
  refine lv_iload_n hx hb dJ3_checkIndex_8e157_4 rfl (lv_at hl 0 rfl) ?_
  refine lv_iload_n hx hb dJ3_checkIndex_8e157_5 rfl (lv_at hl 1 rfl) ?_
  refine lv_icmp_lt (tgt := 16) hx hb dJ3_checkIndex_8e157_6 (by decide) (fun _ => ?_) (fun c => absurd h1 c)
  refine lv_iload_n hx hb dJ3_checkIndex_8e157_16 rfl (lv_at hl 0 rfl) ?_
  exact cm_reti hx hb hr rfl hlk hK hP hD hS dJ3_checkIndex_8e157_17
abbrev jr_2 : Room := { frames := 1, cells := 0, slots := 0, locals := 22 }
set_option maxHeartbeats 4000000 in
set_option maxRecDepth 100000 in
theorem c_J0_check (l : Launch) (G : GG) (k n : Int32) (h0 : ¬ k < 0) (h1 : k < n) : CMv l yJ0_checkIndex_df160 wsJ0_checkIndex_df160 jr_2 G [] [] [.int k, .int n] := by
  refine cm_start (cc := cJ0_checkIndex_df160) (maxL := 2) (ret := none) (Qc := fun A => QV G [] A) (by decide +kernel) rfl (Nat.le_of_ble_eq_true rfl) ?_
  intro p e s m args below meth c A hx hb hr hlk hml hown hnm hts hA H locs hP hK hD hE hS ls hl
  have hown : s.vm.findClass RJ0 = some m.cls := hown
  have hl : lv_has ls 2 [(0, .int k), (1, .int n)] := hl
  have hFc := va_free (wc := []) hD hS hA [] rfl
  have lk := hts (.fieldLink RJ0 1053 "jdk/internal/util/Preconditions" "SIOOBE_FORMATTER" "Ljava/util/function/BiFunction;") (by decide +kernel)
  refine lv_iload_n hx hb dJ0_checkIndex_df160_0 rfl (lv_at hl 0 rfl) ?_
  refine lv_iload_n hx hb dJ0_checkIndex_df160_1 rfl (lv_at hl 1 rfl) ?_
  rcases hE.fm with hz | ⟨q, hz⟩
  · refine va_gets hx hb hz hS hown lk (fun _ h9 => h9) dJ0_checkIndex_df160_2 ?_
    have hM := c_J3_checkN l G k n h0 h1 H.size
    refine cl_i (w1 := []) (ws' := []) hP hD hS hFc [] rfl rfl rfl (va_runS (As := [.int k, .int n, .null]) (rest := []) ⟨hx, hb, hml, hown, hts⟩ hM (va_cwS 3 hts gJ0_checkIndex_df160_J3_checkIndex_8e157 rfl rfl rfl (by decide +kernel) ⟨Nat.le_of_ble_eq_true rfl, Nat.le_of_ble_eq_true rfl⟩) (cp_S hK hE hS hP hD hFc) rfl rfl hl.1 rfl (lv_room (Nat.le_of_ble_eq_true rfl)) dJ0_checkIndex_df160_5 ⟨Nat.zero_le _, Nat.zero_le _⟩) (fun H locs hP hD hS => ?_)
    refine lv_pop hx hb dJ0_checkIndex_df160_8 rfl ?_
    exact cm_retv hx hb hr hlk hK hP hD hS dJ0_checkIndex_df160_9
  · refine va_gets hx hb hz hS hown lk (fun _ h9 => h9) dJ0_checkIndex_df160_2 ?_
    have hM := c_J3_checkR l G k n q h0 h1 H.size
    refine cl_i (w1 := []) (ws' := []) hP hD hS hFc [] rfl rfl rfl (va_runS (As := [.int k, .int n, .ref q]) (rest := []) ⟨hx, hb, hml, hown, hts⟩ hM (va_cwS 3 hts gJ0_checkIndex_df160_J3_checkIndex_8e157 rfl rfl rfl (by decide +kernel) ⟨Nat.le_of_ble_eq_true rfl, Nat.le_of_ble_eq_true rfl⟩) (cp_S hK hE hS hP hD hFc) rfl rfl hl.1 rfl (lv_room (Nat.le_of_ble_eq_true rfl)) dJ0_checkIndex_df160_5 ⟨Nat.zero_le _, Nat.zero_le _⟩) (fun H locs hP hD hS => ?_)
    refine lv_pop hx hb dJ0_checkIndex_df160_8 rfl ?_
    exact cm_retv hx hb hr hlk hK hP hD hS dJ0_checkIndex_df160_9
theorem js_small : ∀ t, t < nJS → js_len t < 100 := by decide +kernel
theorem js_lt {t : Nat} (ht : t < nJS) {k : Int32} (h : vp_in k (js_len t)) : ¬ k < 0 ∧ k < Int32.ofNat (js_len t) := by
  have h1 := vp_in_iff.mp h
  have h2 := js_small t ht
  refine ⟨fun q => h (Or.inl q), ?_⟩
  rw [Int32.lt_iff_toInt_lt, show Int32.ofNat (js_len t) = nI (js_len t) from rfl, nI_toInt (by omega)]
  exact h1.2
abbrev jr_3 : Room := { frames := 2, cells := 0, slots := 0, locals := 60 }
set_option maxHeartbeats 4000000 in
set_option maxRecDepth 100000 in
theorem c_J1_charAt (l : Launch) (G : GG) (t : Nat) (ht : t < nJS) (k : Int32) (hk : vp_in k (js_len t)) : CMi l yJ1_charAt_3b067 wsJ1_charAt_3b067 jr_3 G [] [] [.ref (G.2.2.2 t), .int k] (js_ch t k.toNatClampNeg) := by
  refine cm_start (cc := cJ1_charAt_3b067) (maxL := 2) (ret := (some .char)) (Qc := fun A => QI G [] (js_ch t k.toNatClampNeg) A) (by decide +kernel) rfl (Nat.le_of_ble_eq_true rfl) ?_
  intro p e s m args below meth c A hx hb hr hlk hml hown hnm hts hA H locs hP hK hD hE hS ls hl
  have hown : s.vm.findClass RJ1 = some m.cls := hown
  have hl : lv_has ls 2 [(0, .ref (G.2.2.2 t)), (1, .int k)] := hl
  have hFc := va_free (wc := []) hD hS hA [] rfl
  refine lv_iload_n hx hb dJ1_charAt_3b067_0 rfl (lv_at hl 1 rfl) ?_
  refine lv_aload_n hx hb dJ1_charAt_3b067_1 rfl (lv_at hl 0 rfl) ?_
  refine va_tlen (v := Int32.ofNat (js_len t)) hx hb (hE.str ht).2.2.2 hS rfl dJ1_charAt_3b067_2 ?_
  have hM := c_J0_check l G k (Int32.ofNat (js_len t)) (js_lt ht hk).1 (js_lt ht hk).2 H.size
  refine cl_v (w1 := []) (ws' := []) hP hD hS hFc [] rfl rfl rfl (va_runS (As := [.int k, .int (Int32.ofNat (js_len t))]) (rest := []) ⟨hx, hb, hml, hown, hts⟩ hM (va_cwS 2 hts gJ1_charAt_3b067_J0_checkIndex_df160 rfl rfl rfl (by decide +kernel) ⟨Nat.le_of_ble_eq_true rfl, Nat.le_of_ble_eq_true rfl⟩) (cp_S hK hE hS hP hD hFc) rfl rfl hl.1 rfl (lv_room (Nat.le_of_ble_eq_true rfl)) dJ1_charAt_3b067_3 ⟨Nat.zero_le _, Nat.zero_le _⟩) (fun H locs hP hD hS => ?_)
  refine lv_aload_n hx hb dJ1_charAt_3b067_6 rfl (lv_at hl 0 rfl) ?_
  refine lv_iload_n hx hb dJ1_charAt_3b067_7 rfl (lv_at hl 1 rfl) ?_
  refine va_tb (v := .int (js_b t k.toNatClampNeg)) hx hb (hE.str ht).2.2.2 hS hk rfl dJ1_charAt_3b067_8 ?_
  refine lv_sipush (v := 255) hx hb dJ1_charAt_3b067_9 (by decide) ?_
  refine lv_iand hx hb dJ1_charAt_3b067_12 ?_
  refine lv_i2c (v := js_ch t k.toNatClampNeg) hx hb dJ1_charAt_3b067_13 (sc_c2 _) ?_
  exact cm_reti hx hb hr (sc_nar _) hlk hK hP hD hS dJ1_charAt_3b067_14
abbrev jr_4 : Room := { frames := 3, cells := 0, slots := 0, locals := 90 }
set_option maxHeartbeats 4000000 in
set_option maxRecDepth 100000 in
theorem c_J0_charAt (l : Launch) (G : GG) (t : Nat) (ht : t < nJS) (k : Int32) (hk : vp_in k (js_len t)) : CMi l yJ0_charAt_5068e wsJ0_charAt_5068e jr_4 G [] [] [.ref (G.2.2.1 t), .int k] (js_ch t k.toNatClampNeg) := by
  refine cm_start (cc := cJ0_charAt_5068e) (maxL := 2) (ret := (some .char)) (Qc := fun A => QI G [] (js_ch t k.toNatClampNeg) A) (by decide +kernel) rfl (Nat.le_of_ble_eq_true rfl) ?_
  intro p e s m args below meth c A hx hb hr hlk hml hown hnm hts hA H locs hP hK hD hE hS ls hl
  have hown : s.vm.findClass RJ0 = some m.cls := hown
  have hl : lv_has ls 2 [(0, .ref (G.2.2.1 t)), (1, .int k)] := hl
  have hFc := va_free (wc := []) hD hS hA [] rfl
  refine lv_aload_n hx hb dJ0_charAt_5068e_0 rfl (lv_at hl 0 rfl) ?_
  have hM := c_J0_isLatin1 l G t ht H.size
  obtain ⟨cell, o1, o2, o3, o4⟩ := (hE.str ht).1.kept hS.2.1
  refine cl_i (w1 := []) (ws' := []) hP hD hS hFc [] rfl rfl rfl (va_runV (As := []) (rest := []) ⟨hx, hb, hml, hown, hts⟩ hM (cwV 0 hts gJ0_charAt_5068e_J0_isLatin1_aae02 rfl rfl rfl (by decide +kernel) ⟨Nat.le_of_ble_eq_true rfl, Nat.le_of_ble_eq_true rfl⟩) (cp_V hK hE hS hP hD hFc ⟨cell, o1, o2, o3⟩) rfl rfl hl.1 rfl (lv_room (Nat.le_of_ble_eq_true rfl)) dJ0_charAt_5068e_1 ⟨Nat.zero_le _, Nat.zero_le _⟩) (fun H locs hP hD hS => ?_)
  refine lv_if_eq (tgt := 16) hx hb dJ0_charAt_5068e_4 (by decide) (fun c => absurd c (by decide)) (fun _ => ?_)
  refine lv_aload_n hx hb dJ0_charAt_5068e_7 rfl (lv_at hl 0 rfl) ?_
  refine vk_getf hx hb (hE.str ht).2.2.1 hS hown (hts (.fieldLink RJ0 9 "java/lang/String" "value" "[B") (by decide +kernel)) (fun _ h9 => h9) dJ0_charAt_5068e_8 ?_
  refine lv_iload_n hx hb dJ0_charAt_5068e_11 rfl (lv_at hl 1 rfl) ?_
  have hFc := va_free (wc := []) hD hS hA [] rfl
  have hM := c_J1_charAt l G t ht k hk H.size
  refine cl_i (w1 := []) (ws' := []) hP hD hS hFc [] rfl rfl rfl (va_runS (As := [.ref (G.2.2.2 t), .int k]) (rest := []) ⟨hx, hb, hml, hown, hts⟩ hM (va_cwS 2 hts gJ0_charAt_5068e_J1_charAt_3b067 rfl rfl rfl (by decide +kernel) ⟨Nat.le_of_ble_eq_true rfl, Nat.le_of_ble_eq_true rfl⟩) (cp_S hK hE hS hP hD hFc) rfl rfl hl.1 rfl (lv_room (Nat.le_of_ble_eq_true rfl)) dJ0_charAt_5068e_12 ⟨Nat.zero_le _, Nat.zero_le _⟩) (fun H locs hP hD hS => ?_)
  exact cm_reti hx hb hr (sc_nar _) hlk hK hP hD hS dJ0_charAt_5068e_15
set_option maxHeartbeats 4000000 in
set_option maxRecDepth 100000 in
theorem c_J1_canEncode (l : Launch) (G : GG) (k z : Int32) (hF : fJ1_canEncode k = some z) : CMi l yJ1_canEncode_9a6ad wsJ1_canEncode_9a6ad jr_0 G [] [] [.int k] z := by
  refine cm_start (cc := cJ1_canEncode_9a6ad) (maxL := 1) (ret := (some .boolean)) (Qc := fun A => QI G [] z A) (by decide +kernel) rfl (Nat.le_of_ble_eq_true rfl) ?_
  intro p e s m args below meth c A hx hb hr hlk hml hown hnm hts hA H locs hP hK hD hE hS ls hl
  have hl : lv_has ls 1 [(0, .int k)] := hl
  unfold fJ1_canEncode at hF
  refine lv_iload_n hx hb dJ1_canEncode_9a6ad_0 rfl (lv_at hl 0 rfl) ?_
  refine lv_if_lt (tgt := 15) hx hb dJ1_canEncode_9a6ad_1 (by decide) (fun c1 => ?_) (fun c1 => ?_)
  · rw [if_pos c1] at hF
    cases hF
    refine lv_iconst (v := 0) hx hb dJ1_canEncode_9a6ad_15 (by decide) ?_
    exact cm_reti hx hb hr (by decide) hlk hK hP hD hS dJ1_canEncode_9a6ad_16
  rw [if_neg c1] at hF
  refine lv_iload_n hx hb dJ1_canEncode_9a6ad_4 rfl (lv_at hl 0 rfl) ?_
  refine lv_sipush (v := 255) hx hb dJ1_canEncode_9a6ad_5 (by decide) ?_
  refine lv_icmp_gt (tgt := 15) hx hb dJ1_canEncode_9a6ad_8 (by decide) (fun c2 => ?_) (fun c2 => ?_)
  · rw [if_pos c2] at hF
    cases hF
    refine lv_iconst (v := 0) hx hb dJ1_canEncode_9a6ad_15 (by decide) ?_
    exact cm_reti hx hb hr (by decide) hlk hK hP hD hS dJ1_canEncode_9a6ad_16
  rw [if_neg c2] at hF
  cases hF
  refine lv_iconst (v := 1) hx hb dJ1_canEncode_9a6ad_11 (by decide) ?_
  refine lv_goto (tgt := 16) hx hb dJ1_canEncode_9a6ad_12 (by decide) ?_
  exact cm_reti hx hb hr (by decide) hlk hK hP hD hS dJ1_canEncode_9a6ad_16
set_option maxHeartbeats 4000000 in
set_option maxRecDepth 100000 in
theorem c_J1_indexOfChar (l : Launch) (G : GG) (t : Nat) (ht : t < nJS) (k fr to z : Int32) (hF : fJ1_ixL t k.toInt8.toInt32 to 2000 fr = some z) : CMi l yJ1_indexOfChar_4cfef wsJ1_indexOfChar_4cfef jr_0 G [] [] [.ref (G.2.2.2 t), .int k, .int fr, .int to] z := by
  refine cm_start (cc := cJ1_indexOfChar_4cfef) (maxL := 6) (ret := (some .int)) (Qc := fun A => QI G [] z A) (by decide +kernel) rfl (Nat.le_of_ble_eq_true rfl) ?_
  intro p e s m args below meth c A hx hb hr hlk hml hown hnm hts hA H locs hP hK hD hE hS ls hl
  have hl : lv_has ls 6 [(0, .ref (G.2.2.2 t)), (1, .int k), (2, .int fr), (3, .int to)] := hl
  have LP : ∀ (n : Nat) (i : Int32) (ls : Array Slot), lv_has ls 6 [(5, .int i), (4, .int k.toInt8.toInt32), (0, .ref (G.2.2.2 t)), (3, .int to)] → fJ1_ixL t k.toInt8.toInt32 to n i = some z → W p l e jr_0 s m args below meth c H locs 0 0 (MQ below (QI G [] z A) args s 0 0 A) (F0 m 7 ls []) := by
    intro n
    induction n with
    | zero => intro i ls hl hF; cases hF
    | succ n ih =>
      intro i ls hl hF
      rw [fJ1_ixL] at hF
      refine lv_iload hx hb dJ1_indexOfChar_4cfef_7 (lv_at hl 0 rfl) ?_
      refine lv_iload_n hx hb dJ1_indexOfChar_4cfef_9 rfl (lv_at hl 3 rfl) ?_
      refine lv_icmp_ge (tgt := 31) hx hb dJ1_indexOfChar_4cfef_10 (by decide) (fun c1 => ?_) (fun c1 => ?_)
      · rw [if_pos c1] at hF
        cases hF
        refine lv_iconst (v := -1) hx hb dJ1_indexOfChar_4cfef_31 (by decide) ?_
        exact cm_reti hx hb hr rfl hlk hK hP hD hS dJ1_indexOfChar_4cfef_32
      rw [if_neg c1] at hF
      obtain ⟨hi, hF⟩ := ck_some hF
      refine lv_aload_n hx hb dJ1_indexOfChar_4cfef_13 rfl (lv_at hl 2 rfl) ?_
      refine lv_iload hx hb dJ1_indexOfChar_4cfef_14 (lv_at hl 0 rfl) ?_
      refine va_tb (v := .int (js_b t i.toNatClampNeg)) hx hb (hE.str ht).2.2.2 hS hi rfl dJ1_indexOfChar_4cfef_16 ?_
      refine lv_iload hx hb dJ1_indexOfChar_4cfef_17 (lv_at hl 1 rfl) ?_
      refine lv_icmp_ne (tgt := 25) hx hb dJ1_indexOfChar_4cfef_19 (by decide) (fun c2 => ?_) (fun c2 => ?_)
      · rw [if_neg c2] at hF
        refine lv_iinc (v := i + 1) (lv' := [(5, .int (i + 1)), (4, .int k.toInt8.toInt32), (0, .ref (G.2.2.2 t)), (3, .int to)]) hx hb dJ1_indexOfChar_4cfef_25 hl (k := 0) rfl rfl (by decide) rfl (fun ls hl => ?_)
        refine lv_goto (tgt := 7) hx hb dJ1_indexOfChar_4cfef_28 (by decide) ?_
        exact ih _ ls hl hF
      rw [if_pos c2] at hF
      cases hF
      refine lv_iload hx hb dJ1_indexOfChar_4cfef_22 (lv_at hl 0 rfl) ?_
      exact cm_reti hx hb hr rfl hlk hK hP hD hS dJ1_indexOfChar_4cfef_24
  refine lv_iload_n hx hb dJ1_indexOfChar_4cfef_0 rfl (lv_at hl 1 rfl) ?_
  refine lv_i2b (v := k.toInt8.toInt32) hx hb dJ1_indexOfChar_4cfef_1 rfl ?_
  refine lv_istore (lv' := [(4, .int k.toInt8.toInt32), (0, .ref (G.2.2.2 t)), (1, .int k), (2, .int fr), (3, .int to)]) hx hb dJ1_indexOfChar_4cfef_2 hl (by decide) rfl (fun ls hl => ?_)
  refine lv_iload_n hx hb dJ1_indexOfChar_4cfef_4 rfl (lv_at hl 3 rfl) ?_
  refine lv_istore (lv' := [(5, .int fr), (4, .int k.toInt8.toInt32), (0, .ref (G.2.2.2 t)), (1, .int k), (2, .int fr), (3, .int to)]) hx hb dJ1_indexOfChar_4cfef_5 hl (by decide) rfl (fun ls hl => ?_)
  exact LP 2000 fr ls (lv_sub hl [0, 1, 2, 5] rfl) hF
abbrev jr_5 : Room := { frames := 1, cells := 0, slots := 0, locals := 30 }
set_option maxHeartbeats 4000000 in
set_option maxRecDepth 100000 in
theorem c_J1_indexOf (l : Launch) (G : GG) (t : Nat) (ht : t < nJS) (k fr to z : Int32) (hF : fJ1_indexOf t k fr to = some z) : CMi l yJ1_indexOf_4cfef wsJ1_indexOf_4cfef jr_5 G [] [] [.ref (G.2.2.2 t), .int k, .int fr, .int to] z := by
  refine cm_start (cc := cJ1_indexOf_4cfef) (maxL := 4) (ret := (some .int)) (Qc := fun A => QI G [] z A) (by decide +kernel) rfl (Nat.le_of_ble_eq_true rfl) ?_
  intro p e s m args below meth c A hx hb hr hlk hml hown hnm hts hA H locs hP hK hD hE hS ls hl
  have hown : s.vm.findClass RJ1 = some m.cls := hown
  have hl : lv_has ls 4 [(0, .ref (G.2.2.2 t)), (1, .int k), (2, .int fr), (3, .int to)] := hl
  have hFc := va_free (wc := []) hD hS hA [] rfl
  have mi := hts (.initialized "java/lang/Math") (by decide +kernel)
  unfold fJ1_indexOf at hF
  refine lv_iload_n hx hb dJ1_indexOf_4cfef_0 rfl (lv_at hl 1 rfl) ?_
  obtain ⟨r1, hc1, hF⟩ := bd_some hF
  have hM := c_J1_canEncode l G k r1 hc1 H.size
  refine cl_i (w1 := []) (ws' := []) hP hD hS hFc [] rfl rfl rfl (va_runS (As := [.int k]) (rest := []) ⟨hx, hb, hml, hown, hts⟩ hM (va_cwS 1 hts gJ1_indexOf_4cfef_J1_canEncode_9a6ad rfl rfl rfl (by decide +kernel) ⟨Nat.le_of_ble_eq_true rfl, Nat.le_of_ble_eq_true rfl⟩) (cp_S hK hE hS hP hD hFc) rfl rfl hl.1 rfl (lv_room (Nat.le_of_ble_eq_true rfl)) dJ1_indexOf_4cfef_1 ⟨Nat.zero_le _, Nat.zero_le _⟩) (fun H locs hP hD hS => ?_)
  refine lv_if_ne (tgt := 9) hx hb dJ1_indexOf_4cfef_4 (by decide) (fun c1 => ?_) (fun c1 => ?_)
  rotate_left
  · rw [if_pos c1] at hF
    cases hF
    refine lv_iconst (v := -1) hx hb dJ1_indexOf_4cfef_7 (by decide) ?_
    exact cm_reti hx hb hr rfl hlk hK hP hD hS dJ1_indexOf_4cfef_8
  rw [if_neg c1] at hF
  refine lv_iload_n hx hb dJ1_indexOf_4cfef_9 rfl (lv_at hl 2 rfl) ?_
  refine lv_iconst (v := 0) hx hb dJ1_indexOf_4cfef_10 (by decide) ?_
  refine va_mmax hx hb (hml.trans hl.1.symm) hown (hts (.methodLink RJ1 92 Lib.Math.max.name) (by decide +kernel)) (hts (.static Lib.Math.max.name) (by decide +kernel)) mi (hts (.code Lib.Math.max.name Lib.Math.max.code 2 (some .int)) (by decide +kernel)) (Nat.le_of_ble_eq_true rfl) (Nat.le_of_ble_eq_true rfl) (Nat.zero_le _) (Nat.zero_le _) dJ1_indexOf_4cfef_11 ?_
  refine lv_istore_n (lv' := [(2, .int (if fr < 0 then 0 else fr)), (0, .ref (G.2.2.2 t)), (1, .int k), (3, .int to)]) hx hb dJ1_indexOf_4cfef_14 rfl hl (by decide) rfl (fun ls hl => ?_)
  refine lv_iload_n hx hb dJ1_indexOf_4cfef_15 rfl (lv_at hl 3 rfl) ?_
  refine lv_aload_n hx hb dJ1_indexOf_4cfef_16 rfl (lv_at hl 1 rfl) ?_
  refine va_tlen (v := Int32.ofNat (js_len t)) hx hb (hE.str ht).2.2.2 hS rfl dJ1_indexOf_4cfef_17 ?_
  refine va_mmin hx hb (hml.trans hl.1.symm) hown (hts (.methodLink RJ1 38 Lib.Math.min.name) (by decide +kernel)) (hts (.static Lib.Math.min.name) (by decide +kernel)) mi (hts (.code Lib.Math.min.name Lib.Math.min.code 2 (some .int)) (by decide +kernel)) (Nat.le_of_ble_eq_true rfl) (Nat.le_of_ble_eq_true rfl) (Nat.zero_le _) (Nat.zero_le _) dJ1_indexOf_4cfef_18 ?_
  generalize (if fr < 0 then 0 else fr) = a at hF hl ⊢
  generalize (if Int32.ofNat (js_len t) < to then Int32.ofNat (js_len t) else to) = b at hF ⊢
  refine lv_istore_n (lv' := [(3, .int b), (2, .int a), (0, .ref (G.2.2.2 t)), (1, .int k)]) hx hb dJ1_indexOf_4cfef_21 rfl hl (by decide) rfl (fun ls hl => ?_)
  refine lv_iload_n hx hb dJ1_indexOf_4cfef_22 rfl (lv_at hl 1 rfl) ?_
  refine lv_iload_n hx hb dJ1_indexOf_4cfef_23 rfl (lv_at hl 0 rfl) ?_
  refine lv_icmp_lt (tgt := 29) hx hb dJ1_indexOf_4cfef_24 (by decide) (fun c2 => ?_) (fun c2 => ?_)
  rotate_left
  · rw [if_neg c2] at hF
    cases hF
    refine lv_iconst (v := -1) hx hb dJ1_indexOf_4cfef_27 (by decide) ?_
    exact cm_reti hx hb hr rfl hlk hK hP hD hS dJ1_indexOf_4cfef_28
  rw [if_pos c2] at hF
  refine lv_aload_n hx hb dJ1_indexOf_4cfef_29 rfl (lv_at hl 2 rfl) ?_
  refine lv_iload_n hx hb dJ1_indexOf_4cfef_30 rfl (lv_at hl 3 rfl) ?_
  refine lv_iload_n hx hb dJ1_indexOf_4cfef_31 rfl (lv_at hl 1 rfl) ?_
  refine lv_iload_n hx hb dJ1_indexOf_4cfef_32 rfl (lv_at hl 0 rfl) ?_
  have hFc := va_free (wc := []) hD hS hA [] rfl
  have hM := c_J1_indexOfChar l G t ht k a b z hF H.size
  refine cl_i (w1 := []) (ws' := []) hP hD hS hFc [] rfl rfl rfl (va_runS (As := [.ref (G.2.2.2 t), .int k, .int a, .int b]) (rest := []) ⟨hx, hb, hml, hown, hts⟩ hM (va_cwS 4 hts gJ1_indexOf_4cfef_J1_indexOfChar_4cfef rfl rfl rfl (by decide +kernel) ⟨Nat.le_of_ble_eq_true rfl, Nat.le_of_ble_eq_true rfl⟩) (cp_S hK hE hS hP hD hFc) rfl rfl hl.1 rfl (lv_room (Nat.le_of_ble_eq_true rfl)) dJ1_indexOf_4cfef_33 ⟨Nat.zero_le _, Nat.zero_le _⟩) (fun H locs hP hD hS => ?_)
  exact cm_reti hx hb hr rfl hlk hK hP hD hS dJ1_indexOf_4cfef_36
abbrev jr_6 : Room := { frames := 2, cells := 0, slots := 0, locals := 60 }
set_option maxHeartbeats 4000000 in
set_option maxRecDepth 100000 in
theorem c_J0_indexOf2 (l : Launch) (G : GG) (t : Nat) (ht : t < nJS) (k fr z : Int32) (hF : fJ1_indexOf t k fr (Int32.ofNat (js_len t)) = some z) : CMi l yJ0_indexOf_7cf53 wsJ0_indexOf_7cf53 jr_6 G [] [] [.ref (G.2.2.1 t), .int k, .int fr] z := by
  refine cm_start (cc := cJ0_indexOf_7cf53) (maxL := 3) (ret := (some .int)) (Qc := fun A => QI G [] z A) (by decide +kernel) rfl (Nat.le_of_ble_eq_true rfl) ?_
  intro p e s m args below meth c A hx hb hr hlk hml hown hnm hts hA H locs hP hK hD hE hS ls hl
  have hown : s.vm.findClass RJ0 = some m.cls := hown
  have hl : lv_has ls 3 [(0, .ref (G.2.2.1 t)), (1, .int k), (2, .int fr)] := hl
  have hFc := va_free (wc := []) hD hS hA [] rfl
  refine lv_aload_n hx hb dJ0_indexOf_7cf53_0 rfl (lv_at hl 0 rfl) ?_
  have hM := c_J0_isLatin1 l G t ht H.size
  obtain ⟨cell, o1, o2, o3, o4⟩ := (hE.str ht).1.kept hS.2.1
  refine cl_i (w1 := []) (ws' := []) hP hD hS hFc [] rfl rfl rfl (va_runV (As := []) (rest := []) ⟨hx, hb, hml, hown, hts⟩ hM (cwV 0 hts gJ0_indexOf_7cf53_J0_isLatin1_aae02 rfl rfl rfl (by decide +kernel) ⟨Nat.le_of_ble_eq_true rfl, Nat.le_of_ble_eq_true rfl⟩) (cp_V hK hE hS hP hD hFc ⟨cell, o1, o2, o3⟩) rfl rfl hl.1 rfl (lv_room (Nat.le_of_ble_eq_true rfl)) dJ0_indexOf_7cf53_1 ⟨Nat.zero_le _, Nat.zero_le _⟩) (fun H locs hP hD hS => ?_)
  refine lv_if_eq (tgt := 23) hx hb dJ0_indexOf_7cf53_4 (by decide) (fun c => absurd c (by decide)) (fun _ => ?_)
  refine lv_aload_n hx hb dJ0_indexOf_7cf53_7 rfl (lv_at hl 0 rfl) ?_
  refine vk_getf hx hb (hE.str ht).2.2.1 hS hown (hts (.fieldLink RJ0 9 "java/lang/String" "value" "[B") (by decide +kernel)) (fun _ h9 => h9) dJ0_indexOf_7cf53_8 ?_
  refine lv_iload_n hx hb dJ0_indexOf_7cf53_11 rfl (lv_at hl 1 rfl) ?_
  refine lv_iload_n hx hb dJ0_indexOf_7cf53_12 rfl (lv_at hl 2 rfl) ?_
  refine lv_aload_n hx hb dJ0_indexOf_7cf53_13 rfl (lv_at hl 0 rfl) ?_
  have hFc := va_free (wc := []) hD hS hA [] rfl
  have hM := c_J0_length l G t ht H.size
  obtain ⟨cell, o1, o2, o3, o4⟩ := (hE.str ht).1.kept hS.2.1
  refine cl_i (w1 := []) (ws' := []) hP hD hS hFc [] rfl rfl rfl (va_runV (As := []) (rest := [.int fr, .int k, .ref (G.2.2.2 t)]) ⟨hx, hb, hml, hown, hts⟩ hM (cwV 0 hts gJ0_indexOf_7cf53_J0_length_8abf5 rfl rfl rfl (by decide +kernel) ⟨Nat.le_of_ble_eq_true rfl, Nat.le_of_ble_eq_true rfl⟩) (cp_V hK hE hS hP hD hFc ⟨cell, o1, o2, o3⟩) rfl rfl hl.1 rfl (lv_room (Nat.le_of_ble_eq_true rfl)) dJ0_indexOf_7cf53_14 ⟨Nat.zero_le _, Nat.zero_le _⟩) (fun H locs hP hD hS => ?_)
  have hFc := va_free (wc := []) hD hS hA [] rfl
  have hM := c_J1_indexOf l G t ht k fr (Int32.ofNat (js_len t)) z hF H.size
  refine cl_i (w1 := []) (ws' := []) hP hD hS hFc [] rfl rfl rfl (va_runS (As := [.ref (G.2.2.2 t), .int k, .int fr, .int (Int32.ofNat (js_len t))]) (rest := []) ⟨hx, hb, hml, hown, hts⟩ hM (va_cwS 4 hts gJ0_indexOf_7cf53_J1_indexOf_4cfef rfl rfl rfl (by decide +kernel) ⟨Nat.le_of_ble_eq_true rfl, Nat.le_of_ble_eq_true rfl⟩) (cp_S hK hE hS hP hD hFc) rfl rfl hl.1 rfl (lv_room (Nat.le_of_ble_eq_true rfl)) dJ0_indexOf_7cf53_17 ⟨Nat.zero_le _, Nat.zero_le _⟩) (fun H locs hP hD hS => ?_)
  refine lv_goto (tgt := 36) hx hb dJ0_indexOf_7cf53_20 (by decide) ?_
  exact cm_reti hx hb hr rfl hlk hK hP hD hS dJ0_indexOf_7cf53_36
abbrev jr_7 : Room := { frames := 3, cells := 0, slots := 0, locals := 90 }
set_option maxHeartbeats 4000000 in
set_option maxRecDepth 100000 in
theorem c_J0_indexOf (l : Launch) (G : GG) (t : Nat) (ht : t < nJS) (k z : Int32) (hF : fJ0_indexOf t k = some z) : CMi l yJ0_indexOf_0f7a4 wsJ0_indexOf_0f7a4 jr_7 G [] [] [.ref (G.2.2.1 t), .int k] z := by
  refine cm_start (cc := cJ0_indexOf_0f7a4) (maxL := 2) (ret := (some .int)) (Qc := fun A => QI G [] z A) (by decide +kernel) rfl (Nat.le_of_ble_eq_true rfl) ?_
  intro p e s m args below meth c A hx hb hr hlk hml hown hnm hts hA H locs hP hK hD hE hS ls hl
  have hown : s.vm.findClass RJ0 = some m.cls := hown
  have hl : lv_has ls 2 [(0, .ref (G.2.2.1 t)), (1, .int k)] := hl
  have hFc := va_free (wc := []) hD hS hA [] rfl
  refine lv_aload_n hx hb dJ0_indexOf_0f7a4_0 rfl (lv_at hl 0 rfl) ?_
  refine lv_iload_n hx hb dJ0_indexOf_0f7a4_1 rfl (lv_at hl 1 rfl) ?_
  refine lv_iconst (v := 0) hx hb dJ0_indexOf_0f7a4_2 (by decide) ?_
  have hM := c_J0_indexOf2 l G t ht k 0 z hF H.size
  obtain ⟨cell, o1, o2, o3, o4⟩ := (hE.str ht).1.kept hS.2.1
  refine cl_i (w1 := []) (ws' := []) hP hD hS hFc [] rfl rfl rfl (va_runV (As := [.int k, .int 0]) (rest := []) ⟨hx, hb, hml, hown, hts⟩ hM (cwV 2 hts gJ0_indexOf_0f7a4_J0_indexOf_7cf53 rfl rfl rfl (by decide +kernel) ⟨Nat.le_of_ble_eq_true rfl, Nat.le_of_ble_eq_true rfl⟩) (cp_V hK hE hS hP hD hFc ⟨cell, o1, o2, o3⟩) rfl rfl hl.1 rfl (lv_room (Nat.le_of_ble_eq_true rfl)) dJ0_indexOf_0f7a4_3 ⟨Nat.zero_le _, Nat.zero_le _⟩) (fun H locs hP hD hS => ?_)
  exact cm_reti hx hb hr rfl hlk hK hP hD hS dJ0_indexOf_0f7a4_6
/-! calls of inherited members: a static one by a subclass's name; super.m(..) of a member that the class above inherits -/
section MYU
variable {p : Program} {l : Launch} {e : Env} {R : Room} {s : State} {m : MethodId} {args : Array Value} {below : List Frame} {meth : Method} {c : Code} {H : Heap} {locs : List Loc} {cells slots : Nat}
theorem sq_runU {owner : String} {x y : MethodName} {bytes cc : ByteArray} {maxL nL mc ms n index : Nat} {ret : Option FieldType} {ws : List Cond} {rm : Room} {Pc : Array Value → State → Prop} {Qc : Array Value → State → Outcome → State → Prop} {free : Addr → Prop} {Ts : List Cond} {own C : String} {cC : ClassId} {b : Addr} {As rest : List Value} {g : JFrame}
    (hat : ClassAt s C cC) (S : CallFix p m c cc nL s args Ts own) (hM : Met l y ws rm Pc Qc mc ms free) (hyx : y = ⟨owner, x.name, x.desc⟩) (hrc : rm.cells = mc) (hrs : rm.slots = ms) (hR : rm.frames + 1 ≤ R.frames ∧ 8 + (maxL + 11) + rm.locals ≤ R.locals)
    (hws : ∀ w ∈ ws, ∀ (a' : Array Value) (U : State), s.WarmedH U.vm → w.before a' U = true) (hcw : Cond.code y bytes maxL ret ∈ ws) (hcode : (Cond.code y bytes maxL ret).before args s = true)
    (hlink : (Cond.methodLink own index x).before args s = true) (hsame : (Cond.sameMethod x.cls owner x.name x.desc).before args s = true) (hsup : (Cond.superclass own x.cls).before args s = true) (hsup2 : (Cond.superclass x.cls owner).before args s = true) (hinst : (Cond.instanceMethod y).before args s = true) (hini : (Cond.initialized owner).before args s = true)
    (hd : x.name ≠ "<init>" ∧ (parseMethodDescriptor x.desc).map (fun d => d.parameters.length) = some n) (hp : PreV s H C b Pc As)
    (hg : g.method = m) (hn : As.length = n) (hsize : g.locals.size = nL) (hstack : g.stack = As.reverse ++ .ref b :: rest) (hW : 2 * g.monitorRoom + (rest.map fun v => v.category).sum ≤ 8) (hdg : decode cc g.pc = .ok (.invokespecial index, 3)) (hf : cells + mc ≤ R.cells ∧ slots + ms ≤ R.slots) :
    va_Run p l e R s m args below meth c H locs cells slots mc ms g rest (Qc (Value.ref b :: As).toArray) (free) := by
  subst hyx
  have hK : Back l R p e below s args ⟨owner, x.name, x.desc⟩ 3 8 (PreOf R mc ms Pc) (PostOf Qc mc ms free) := back_of (bytes := bytes) (maxL := maxL) (ret := ret) hM hp.1 hrc hrs hR.1 hR.2 hws hcw (fun a' U hW => word_at hW (Or.inl (by first | rfl | simp [Cond.onTables, Cond.keeps, Cond.steady])) hini)
  obtain ⟨hx, hb, hml, ho, -⟩ := S
  obtain ⟨-, ⟨cellB, hcB, hoB, hclB⟩, hPc⟩ := hp
  obtain ⟨hfc, kB, hkB, -⟩ := hat
  cases hfc.symm.trans hclB
  have hlen : ∀ sig, parseMethodDescriptor x.desc = some sig → As.length = sig.parameters.length := fun sig h => by
    have h2 := hd.2
    rw [h] at h2
    exact hn.trans (Option.some.inj h2).symm
  intro T hT X
  obtain ⟨mk, methM, hnamed, hmethM, hstM, habM⟩ := Cond.instanceMethod_spec hinst
  obtain ⟨methM', cM, hmethM', -, -, -, -, -, -, hsigM⟩ := Cond.code_spec hnamed hcode
  cases hmethM.symm.trans hmethM'
  obtain ⟨ps, dk, kp, hps, hdk, hkp, hsuper, -, -, hnid⟩ := Cond.superclass_spec ho hsup
  obtain ⟨ps2, dk2, kp2, hps2, hdk2, hkp2, hsuper2, -, -, -⟩ := Cond.superclass_spec hps hsup2
  have hpm : ps2 = mk.cls := Option.some.inj (hps2.symm.trans (findClass_of_methodNamed hnamed))
  have hsz : ∃ k, s.vm.classes.size + 1 = k + 1 + 1 := by
    have := (Array.getElem?_eq_some_iff.mp hdk).1
    exact ⟨s.vm.classes.size - 1, by omega⟩
  have hsub : s.vm.isSubclass ps mk.cls = true := by
    obtain ⟨k, hk⟩ := hsz
    rw [← hpm]
    simp [Vm.isSubclass, Vm.isSubclassAux, hdk2, hsuper2]
    right
    rw [show s.vm.classes.size = k + 1 by omega]
    simp [Vm.isSubclassAux]
  obtain ⟨vm₁, X₁, hstep₁⟩ := X.invokespecialUp hx ho hlink hsame hnamed hmethM hstM habM hd.1 hdk hnid hps hsuper hsub (a := b) (cell := cellB) (by rw [hT]; exact hcB)
    (fun z h => by rw [h] at hoB; cases hoB) hkB (g := g) hg (argsL := As) (rest := rest) (hlen _ hsigM) hstack (by rw [hb]; exact hdg)
  obtain ⟨v, B, X', hpost, hsteps⟩ := hK m meth c ⟨T.setVm vm₁, locs, cells, slots⟩ { g with stack := rest } (.invokespecial index) mk (Value.ref b :: As).toArray X₁ hg (hsize.trans hml.symm) (by rw [hb]; exact hdg) hW (X₁.named hnamed) ⟨hf.1, hf.2, hPc (T.setVm vm₁) hT X₁.warmed⟩
  obtain ⟨U', l2, c2, s2⟩ := B
  obtain ⟨g', mk', t, L, e1, e2, hq, h1, hL, h2, h3⟩ := hpost
  dsimp only [Pt.U, Pt.locs, Pt.cells, Pt.slots] at X' e1 e2 h1 h2 h3 hsteps
  subst h1; subst h2; subst h3
  exact ⟨v, (T.setVm vm₁).calling g' mk' (Value.ref b :: As).toArray, t, U', L, hT, X', hL, e1, e2, hq, fun target h => hstep₁ _ (by rw [doInvoke_state]; exact hsteps.trans h)⟩
end MYU
