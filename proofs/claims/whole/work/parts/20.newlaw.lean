abbrev QP (G : GG) (w1 : Nat → Nat → va_W) (A : Nat → Prop) : Array Value → State → Outcome → State → Prop := va_Qr (fun (_ : Nat) => True) (fun u q t => cB G A (w1 u q) t) A
section MYO
variable {p : Program} {l : Launch} {e : Env} {R : Room} {s : State} {m : MethodId} {args : Array Value} {below : List Frame} {meth : Method} {c : Code} {H : Heap} {locs : List Loc} {cells slots : Nat} {Q : State → Prop}
variable {cc : ByteArray} {pc : Nat} {ls : Array Slot} {rest st0 : List Value} {A : Nat → Prop} {G : GG} {ws wc wr : va_W} {a : Array Value}
theorem cm_retp {w1 : Nat → Nat → va_W} {u q : Nat} {ty : FieldType} (hx : p.tables.exec = Jvm.exec) (hb : c.code = cc) (hr : meth.sig.returnType = some ty) (hrt : (∃ n, ty = .object n) ∨ ∃ t, ty = .array t) (hlk : meth.locks = false) (hK : va_K G.1 vwCl (TY G) s) (hP : va_P G.1 vwCl (w1 u q) H) (hD : va_D A (w1 u q)) (hS : va_S A s.heap H locs) (hd : decode cc pc = .ok (.areturn, 1)) :
    W p l e R s m args below meth c H locs cells slots (MQ below (QP G w1 A) args s cells slots A) (F0 m pc ls [.ref q]) :=
  W.aret hx hb hr hrt (Or.inr ⟨q, rfl⟩) (fun t ht hW => ⟨⟨u, q, rfl, trivial, by rw [ht]; exact hP, va_K.moved hW.alike hK, hD⟩, hS.F ht⟩) hS.2.2 hd hlk
theorem cl_p {w1 : Nat → Nat → va_W} {mc ms : Nat} (hP : va_P G.1 vwCl ws H) (hD : va_D A ws) (hS : va_S A s.heap H locs) (hF : ∀ q, va_A wc H.size q → A q) (isC isR : List Nat) (hC : isC.map (fun i => ws[i]?) = wc.map some) (hR : isR.map (fun i => ws[i]?) = wr.map some) (hn : va_nd isR = true) (hdis : ∀ i ∈ isR, i ∉ isC)
    (hr : va_Run p l e R s m args below meth c H locs cells slots mc ms (F0 m pc ls st0) rest (QP G w1 (va_A wc H.size) a) (va_A wc H.size))
    (kk : ∀ (u q : Nat) (H1 : Heap) (locs1 : List Loc), va_P G.1 vwCl (wr ++ w1 u q) H1 → va_D A (wr ++ w1 u q) → va_S A s.heap H1 locs1 → W p l e R s m args below meth c H1 locs1 (cells + mc) (slots + ms) Q (F0 m (pc + 3) ls (.ref q :: rest))) : W p l e R s m args below meth c H locs cells slots Q (F0 m pc ls st0) := by
  refine va_callr hr hS (fun q _ h => hF q h) hF (fun u q t H1 locs1 ht hvm hw1 hB hz1 hk1 hS1 => ?_)
  obtain ⟨hP1, hK1, hD1⟩ := hB
  rw [ht] at hP1
  obtain ⟨hP2, hD2⟩ := va_join hP hD isC isR hC hR hn hdis hk1 hF hP1 hD1
  exact kk u q H1 locs1 hP2 hD2 hS1
end MYO
def w1_newLaw (G : GG) (ct : Nat) (h a_now a_kept a_flight a_latest a_r a_t a_s : Nat) (x_isKept x_size x_place x_sc x_num x_ca : Int32) (f : Nat → Int32) (l1 l2 l3 : Int32) (u q : Nat) : va_W := [o11 h a_now a_kept x_isKept a_r a_flight a_latest, oT ct q l1 l2 l3 x_ca u, o3 a_r a_t a_s x_size x_place x_sc x_num x_ca, aI G a_s 120 f, aI G u x_sc.toNatClampNeg (va_cpy f (fun _ => 0) 0 0 x_sc.toNatClampNeg)]
abbrev rm_X11_newLaw : Room := { frames := 6, cells := 2, slots := 125, locals := 230 }
set_option maxHeartbeats 4000000 in
set_option maxRecDepth 100000 in
theorem c_X11_newLaw (l : Launch) (G : GG) (h a_now a_kept a_flight a_latest a_r a_t a_s : Nat) (x_isKept x_size x_place x_sc x_num x_ca : Int32) (f : Nat → Int32) (l1 l2 l3 : Int32) (h0 : ¬ x_sc < 0) (h1 : x_sc < 120) : ∀ sz : Nat, Met l yX11_newLaw wsX11_newLaw rm_X11_newLaw (cP G [o11 h a_now a_kept x_isKept a_r a_flight a_latest, o3 a_r a_t a_s x_size x_place x_sc x_num x_ca, aI G a_s 120 f] sz [.ref h, .int l1, .int l2, .int l3]) (QP G (w1_newLaw G (tK l1) h a_now a_kept a_flight a_latest a_r a_t a_s x_isKept x_size x_place x_sc x_num x_ca f l1 l2 l3) (va_A [o11 h a_now a_kept x_isKept a_r a_flight a_latest, o3 a_r a_t a_s x_size x_place x_sc x_num x_ca, aI G a_s 120 f] sz)) 2 125 (va_A [o11 h a_now a_kept x_isKept a_r a_flight a_latest, o3 a_r a_t a_s x_size x_place x_sc x_num x_ca, aI G a_s 120 f] sz) := by
  obtain ⟨ct, hct⟩ : ∃ ct, ct = tK l1 := ⟨_, rfl⟩
  rw [← hct]
  refine cm_start (cc := cX11_newLaw) (maxL := 4) (ret := (some (.object "HeadsByHair$Throw"))) (Qc := fun A => QP G (w1_newLaw G ct h a_now a_kept a_flight a_latest a_r a_t a_s x_isKept x_size x_place x_sc x_num x_ca f l1 l2 l3) A) (by decide +kernel) rfl (Nat.le_of_ble_eq_true rfl) ?_
  intro p e s m args below meth c A hx hb hr hlk hml hown hnm hts hA H locs hP hK hD hE hS ls hl
  have hown : s.vm.findClass RX11 = some m.cls := hown
  have hl : lv_has ls 4 [(0, .ref h), (1, .int l1), (2, .int l2), (3, .int l3)] := hl
  have hin11 : ∀ w ∈ wsX110, w ∈ wsX11_newLaw := by decide +kernel
  have lk := hts (.fieldLink RX11 24 "HeadsByHair" "reader" "LHeadsByHair$Reader;") (by decide +kernel)
  refine lv_iload_n hx hb dX11_newLaw_0 rfl (lv_at hl 1 rfl) ?_
  by_cases c1 : l1 = 1
  · have e9 : ct = 9 := by rw [hct, c1]; rfl
    subst e9
    refine lv_eqi c1 ?_
    refine lv_tableIn (tgt := 40) (off := 39) hx hb dX11_newLaw_1 (by decide) (by decide) (by decide) (by decide) ?_
    refine va_new (D := G.1) (ci := 9) (fs := [.int 0, .int 0, .int 0, .int 0, .null]) (C := RX9) (T := TX9) (N := 5) hx hb hts (by decide +kernel) tyX9 tyX9_ok hown (hts (.classLink RX11 248 RX9) (by decide +kernel)) (hts (.instantiable RX9 5) (by decide +kernel)) (hts (.initialized RX9) (by decide +kernel)) hK hP hD hS hA rfl (fun j hj => by rcases (show j = 0 ∨ j = 1 ∨ j = 2 ∨ j = 3 ∨ j = 4 by omega) with rfl | rfl | rfl | rfl | rfl <;> rfl) (Nat.le_of_ble_eq_true rfl) (Nat.le_of_ble_eq_true rfl) dX11_newLaw_40 (fun q H hP hD hS => ?_)
    have hP : va_P G.1 vwCl [o11 h a_now a_kept x_isKept a_r a_flight a_latest, o3 a_r a_t a_s x_size x_place x_sc x_num x_ca, aI G a_s 120 f, (q, .inr (9, [.int 0, .int 0, .int 0, .int 0, .null]))] H := hP
    have hD : va_D A [o11 h a_now a_kept x_isKept a_r a_flight a_latest, o3 a_r a_t a_s x_size x_place x_sc x_num x_ca, aI G a_s 120 f, (q, .inr (9, [.int 0, .int 0, .int 0, .int 0, .null]))] := hD
    refine lv_dup hx hb dX11_newLaw_43 rfl ?_
    refine lv_iload_n hx hb dX11_newLaw_44 rfl (lv_at hl 1 rfl) ?_
    refine lv_iload_n hx hb dX11_newLaw_45 rfl (lv_at hl 2 rfl) ?_
    refine lv_iload_n hx hb dX11_newLaw_46 rfl (lv_at hl 3 rfl) ?_
    refine lv_aload_n hx hb dX11_newLaw_47 rfl (lv_at hl 0 rfl) ?_
    refine va_get (D := G.1) (ci := 11) (v := .ref a_r) (C := RX11) (T := TX11) (N := 6) hx hb hts hin11 hown hK hP 0 rfl rfl 3 (by decide) lk (fun _ h9 => h9) rfl dX11_newLaw_48 ?_
    have hPc := hP.sub (ws' := [(q, .inr (9, [.int 0, .int 0, .int 0, .int 0, .null])), o3 a_r a_t a_s x_size x_place x_sc x_num x_ca, aI G a_s 120 f]) [3, 1, 2] rfl
    have hDc := hD.sub (ws' := [(q, .inr (9, [.int 0, .int 0, .int 0, .int 0, .null])), o3 a_r a_t a_s x_size x_place x_sc x_num x_ca, aI G a_s 120 f]) [3, 1, 2] (by decide) rfl
    have hFc := va_free (wc := [(q, .inr (9, [.int 0, .int 0, .int 0, .int 0, .null])), o3 a_r a_t a_s x_size x_place x_sc x_num x_ca, aI G a_s 120 f]) hD hS hA [3, 1, 2] rfl
    have hM := c_X9_init l G 9 q a_r a_t a_s x_size x_place x_sc x_num x_ca f l1 l2 l3 (by unfold isT; decide) h0 h1 H.size
    refine cl_n (wr := [o11 h a_now a_kept x_isKept a_r a_flight a_latest]) hP hD hS hFc [3, 1, 2] [0] rfl rfl (by decide) (by decide) (va_runI (As := [.int l1, .int l2, .int l3, .ref a_r]) (rest := [.ref q]) ⟨hx, hb, hml, hown, hts⟩ hM (cwI 4 hts gX11_newLaw_X9_init rfl rfl rfl (hts (.initialized RX9) (by decide +kernel)) (hts (.methodLink RX11 250 yX9_init) (by decide +kernel)) (hts (.instanceMethod yX9_init) (by decide +kernel)) rfl (by decide +kernel) ⟨Nat.le_of_ble_eq_true rfl, Nat.le_of_ble_eq_true rfl⟩) (cp_S hK hE hS hPc hDc hFc) rfl rfl hl.1 rfl (lv_room (Nat.le_of_ble_eq_true rfl)) dX11_newLaw_51 ⟨Nat.le_of_ble_eq_true rfl, Nat.le_of_ble_eq_true rfl⟩) (fun u H locs hP hD hS => ?_)
    refine W.widen (k := 2) (n := 125) (Nat.le_of_ble_eq_true rfl) (Nat.le_of_ble_eq_true rfl) ?_
    exact cm_retp (u := u) (w1 := w1_newLaw G 9 h a_now a_kept a_flight a_latest a_r a_t a_s x_isKept x_size x_place x_sc x_num x_ca f l1 l2 l3) hx hb hr (Or.inl ⟨_, rfl⟩) hlk hK hP hD hS dX11_newLaw_54
  by_cases c2 : l1 = 2
  · have e9 : ct = 10 := by rw [hct, c2]; rfl
    subst e9
    refine lv_eqi c2 ?_
    refine lv_tableIn (tgt := 55) (off := 54) hx hb dX11_newLaw_1 (by decide) (by decide) (by decide) (by decide) ?_
    refine va_new (D := G.1) (ci := 10) (fs := [.int 0, .int 0, .int 0, .int 0, .null]) (C := RX10) (T := TX10) (N := 5) hx hb hts (by decide +kernel) tyX10 tyX10_ok hown (hts (.classLink RX11 253 RX10) (by decide +kernel)) (hts (.instantiable RX10 5) (by decide +kernel)) (hts (.initialized RX10) (by decide +kernel)) hK hP hD hS hA rfl (fun j hj => by rcases (show j = 0 ∨ j = 1 ∨ j = 2 ∨ j = 3 ∨ j = 4 by omega) with rfl | rfl | rfl | rfl | rfl <;> rfl) (Nat.le_of_ble_eq_true rfl) (Nat.le_of_ble_eq_true rfl) dX11_newLaw_55 (fun q H hP hD hS => ?_)
    have hP : va_P G.1 vwCl [o11 h a_now a_kept x_isKept a_r a_flight a_latest, o3 a_r a_t a_s x_size x_place x_sc x_num x_ca, aI G a_s 120 f, (q, .inr (10, [.int 0, .int 0, .int 0, .int 0, .null]))] H := hP
    have hD : va_D A [o11 h a_now a_kept x_isKept a_r a_flight a_latest, o3 a_r a_t a_s x_size x_place x_sc x_num x_ca, aI G a_s 120 f, (q, .inr (10, [.int 0, .int 0, .int 0, .int 0, .null]))] := hD
    refine lv_dup hx hb dX11_newLaw_58 rfl ?_
    refine lv_iload_n hx hb dX11_newLaw_59 rfl (lv_at hl 1 rfl) ?_
    refine lv_iload_n hx hb dX11_newLaw_60 rfl (lv_at hl 2 rfl) ?_
    refine lv_iload_n hx hb dX11_newLaw_61 rfl (lv_at hl 3 rfl) ?_
    refine lv_aload_n hx hb dX11_newLaw_62 rfl (lv_at hl 0 rfl) ?_
    refine va_get (D := G.1) (ci := 11) (v := .ref a_r) (C := RX11) (T := TX11) (N := 6) hx hb hts hin11 hown hK hP 0 rfl rfl 3 (by decide) lk (fun _ h9 => h9) rfl dX11_newLaw_63 ?_
    have hPc := hP.sub (ws' := [(q, .inr (10, [.int 0, .int 0, .int 0, .int 0, .null])), o3 a_r a_t a_s x_size x_place x_sc x_num x_ca, aI G a_s 120 f]) [3, 1, 2] rfl
    have hDc := hD.sub (ws' := [(q, .inr (10, [.int 0, .int 0, .int 0, .int 0, .null])), o3 a_r a_t a_s x_size x_place x_sc x_num x_ca, aI G a_s 120 f]) [3, 1, 2] (by decide) rfl
    have hFc := va_free (wc := [(q, .inr (10, [.int 0, .int 0, .int 0, .int 0, .null])), o3 a_r a_t a_s x_size x_place x_sc x_num x_ca, aI G a_s 120 f]) hD hS hA [3, 1, 2] rfl
    have hM := c_X10_init l G 10 q a_r a_t a_s x_size x_place x_sc x_num x_ca f l1 l2 l3 (by unfold isT; decide) h0 h1 H.size
    refine cl_n (wr := [o11 h a_now a_kept x_isKept a_r a_flight a_latest]) hP hD hS hFc [3, 1, 2] [0] rfl rfl (by decide) (by decide) (va_runI (As := [.int l1, .int l2, .int l3, .ref a_r]) (rest := [.ref q]) ⟨hx, hb, hml, hown, hts⟩ hM (cwI 4 hts gX11_newLaw_X10_init rfl rfl rfl (hts (.initialized RX10) (by decide +kernel)) (hts (.methodLink RX11 255 yX10_init) (by decide +kernel)) (hts (.instanceMethod yX10_init) (by decide +kernel)) rfl (by decide +kernel) ⟨Nat.le_of_ble_eq_true rfl, Nat.le_of_ble_eq_true rfl⟩) (cp_S hK hE hS hPc hDc hFc) rfl rfl hl.1 rfl (lv_room (Nat.le_of_ble_eq_true rfl)) dX11_newLaw_66 ⟨Nat.le_of_ble_eq_true rfl, Nat.le_of_ble_eq_true rfl⟩) (fun u H locs hP hD hS => ?_)
    refine W.widen (k := 2) (n := 125) (Nat.le_of_ble_eq_true rfl) (Nat.le_of_ble_eq_true rfl) ?_
    exact cm_retp (u := u) (w1 := w1_newLaw G 10 h a_now a_kept a_flight a_latest a_r a_t a_s x_isKept x_size x_place x_sc x_num x_ca f l1 l2 l3) hx hb hr (Or.inl ⟨_, rfl⟩) hlk hK hP hD hS dX11_newLaw_69
  by_cases c3 : l1 = 3
  · have e9 : ct = 0 := by rw [hct, c3]; rfl
    subst e9
    refine lv_eqi c3 ?_
    refine lv_tableIn (tgt := 70) (off := 69) hx hb dX11_newLaw_1 (by decide) (by decide) (by decide) (by decide) ?_
    refine va_new (D := G.1) (ci := 0) (fs := [.int 0, .int 0, .int 0, .int 0, .null]) (C := RX0) (T := TX0) (N := 5) hx hb hts (by decide +kernel) tyX0 tyX0_ok hown (hts (.classLink RX11 256 RX0) (by decide +kernel)) (hts (.instantiable RX0 5) (by decide +kernel)) (hts (.initialized RX0) (by decide +kernel)) hK hP hD hS hA rfl (fun j hj => by rcases (show j = 0 ∨ j = 1 ∨ j = 2 ∨ j = 3 ∨ j = 4 by omega) with rfl | rfl | rfl | rfl | rfl <;> rfl) (Nat.le_of_ble_eq_true rfl) (Nat.le_of_ble_eq_true rfl) dX11_newLaw_70 (fun q H hP hD hS => ?_)
    have hP : va_P G.1 vwCl [o11 h a_now a_kept x_isKept a_r a_flight a_latest, o3 a_r a_t a_s x_size x_place x_sc x_num x_ca, aI G a_s 120 f, (q, .inr (0, [.int 0, .int 0, .int 0, .int 0, .null]))] H := hP
    have hD : va_D A [o11 h a_now a_kept x_isKept a_r a_flight a_latest, o3 a_r a_t a_s x_size x_place x_sc x_num x_ca, aI G a_s 120 f, (q, .inr (0, [.int 0, .int 0, .int 0, .int 0, .null]))] := hD
    refine lv_dup hx hb dX11_newLaw_73 rfl ?_
    refine lv_iload_n hx hb dX11_newLaw_74 rfl (lv_at hl 1 rfl) ?_
    refine lv_iload_n hx hb dX11_newLaw_75 rfl (lv_at hl 2 rfl) ?_
    refine lv_iload_n hx hb dX11_newLaw_76 rfl (lv_at hl 3 rfl) ?_
    refine lv_aload_n hx hb dX11_newLaw_77 rfl (lv_at hl 0 rfl) ?_
    refine va_get (D := G.1) (ci := 11) (v := .ref a_r) (C := RX11) (T := TX11) (N := 6) hx hb hts hin11 hown hK hP 0 rfl rfl 3 (by decide) lk (fun _ h9 => h9) rfl dX11_newLaw_78 ?_
    have hPc := hP.sub (ws' := [(q, .inr (0, [.int 0, .int 0, .int 0, .int 0, .null])), o3 a_r a_t a_s x_size x_place x_sc x_num x_ca, aI G a_s 120 f]) [3, 1, 2] rfl
    have hDc := hD.sub (ws' := [(q, .inr (0, [.int 0, .int 0, .int 0, .int 0, .null])), o3 a_r a_t a_s x_size x_place x_sc x_num x_ca, aI G a_s 120 f]) [3, 1, 2] (by decide) rfl
    have hFc := va_free (wc := [(q, .inr (0, [.int 0, .int 0, .int 0, .int 0, .null])), o3 a_r a_t a_s x_size x_place x_sc x_num x_ca, aI G a_s 120 f]) hD hS hA [3, 1, 2] rfl
    have hM := c_X0_init l G 0 q a_r a_t a_s x_size x_place x_sc x_num x_ca f l1 l2 l3 (by unfold isT; decide) h0 h1 H.size
    refine cl_n (wr := [o11 h a_now a_kept x_isKept a_r a_flight a_latest]) hP hD hS hFc [3, 1, 2] [0] rfl rfl (by decide) (by decide) (va_runI (As := [.int l1, .int l2, .int l3, .ref a_r]) (rest := [.ref q]) ⟨hx, hb, hml, hown, hts⟩ hM (cwI 4 hts gX11_newLaw_X0_init rfl rfl rfl (hts (.initialized RX0) (by decide +kernel)) (hts (.methodLink RX11 258 yX0_init) (by decide +kernel)) (hts (.instanceMethod yX0_init) (by decide +kernel)) rfl (by decide +kernel) ⟨Nat.le_of_ble_eq_true rfl, Nat.le_of_ble_eq_true rfl⟩) (cp_S hK hE hS hPc hDc hFc) rfl rfl hl.1 rfl (lv_room (Nat.le_of_ble_eq_true rfl)) dX11_newLaw_81 ⟨Nat.le_of_ble_eq_true rfl, Nat.le_of_ble_eq_true rfl⟩) (fun u H locs hP hD hS => ?_)
    refine W.widen (k := 2) (n := 125) (Nat.le_of_ble_eq_true rfl) (Nat.le_of_ble_eq_true rfl) ?_
    exact cm_retp (u := u) (w1 := w1_newLaw G 0 h a_now a_kept a_flight a_latest a_r a_t a_s x_isKept x_size x_place x_sc x_num x_ca f l1 l2 l3) hx hb hr (Or.inl ⟨_, rfl⟩) hlk hK hP hD hS dX11_newLaw_84
  by_cases c4 : l1 = 4
  · have e9 : ct = 1 := by rw [hct, c4]; rfl
    subst e9
    refine lv_eqi c4 ?_
    refine lv_tableIn (tgt := 85) (off := 84) hx hb dX11_newLaw_1 (by decide) (by decide) (by decide) (by decide) ?_
    refine va_new (D := G.1) (ci := 1) (fs := [.int 0, .int 0, .int 0, .int 0, .null]) (C := RX1) (T := TX1) (N := 5) hx hb hts (by decide +kernel) tyX1 tyX1_ok hown (hts (.classLink RX11 259 RX1) (by decide +kernel)) (hts (.instantiable RX1 5) (by decide +kernel)) (hts (.initialized RX1) (by decide +kernel)) hK hP hD hS hA rfl (fun j hj => by rcases (show j = 0 ∨ j = 1 ∨ j = 2 ∨ j = 3 ∨ j = 4 by omega) with rfl | rfl | rfl | rfl | rfl <;> rfl) (Nat.le_of_ble_eq_true rfl) (Nat.le_of_ble_eq_true rfl) dX11_newLaw_85 (fun q H hP hD hS => ?_)
    have hP : va_P G.1 vwCl [o11 h a_now a_kept x_isKept a_r a_flight a_latest, o3 a_r a_t a_s x_size x_place x_sc x_num x_ca, aI G a_s 120 f, (q, .inr (1, [.int 0, .int 0, .int 0, .int 0, .null]))] H := hP
    have hD : va_D A [o11 h a_now a_kept x_isKept a_r a_flight a_latest, o3 a_r a_t a_s x_size x_place x_sc x_num x_ca, aI G a_s 120 f, (q, .inr (1, [.int 0, .int 0, .int 0, .int 0, .null]))] := hD
    refine lv_dup hx hb dX11_newLaw_88 rfl ?_
    refine lv_iload_n hx hb dX11_newLaw_89 rfl (lv_at hl 1 rfl) ?_
    refine lv_iload_n hx hb dX11_newLaw_90 rfl (lv_at hl 2 rfl) ?_
    refine lv_iload_n hx hb dX11_newLaw_91 rfl (lv_at hl 3 rfl) ?_
    refine lv_aload_n hx hb dX11_newLaw_92 rfl (lv_at hl 0 rfl) ?_
    refine va_get (D := G.1) (ci := 11) (v := .ref a_r) (C := RX11) (T := TX11) (N := 6) hx hb hts hin11 hown hK hP 0 rfl rfl 3 (by decide) lk (fun _ h9 => h9) rfl dX11_newLaw_93 ?_
    have hPc := hP.sub (ws' := [(q, .inr (1, [.int 0, .int 0, .int 0, .int 0, .null])), o3 a_r a_t a_s x_size x_place x_sc x_num x_ca, aI G a_s 120 f]) [3, 1, 2] rfl
    have hDc := hD.sub (ws' := [(q, .inr (1, [.int 0, .int 0, .int 0, .int 0, .null])), o3 a_r a_t a_s x_size x_place x_sc x_num x_ca, aI G a_s 120 f]) [3, 1, 2] (by decide) rfl
    have hFc := va_free (wc := [(q, .inr (1, [.int 0, .int 0, .int 0, .int 0, .null])), o3 a_r a_t a_s x_size x_place x_sc x_num x_ca, aI G a_s 120 f]) hD hS hA [3, 1, 2] rfl
    have hM := c_X1_init l G 1 q a_r a_t a_s x_size x_place x_sc x_num x_ca f l1 l2 l3 (by unfold isT; decide) h0 h1 H.size
    refine cl_n (wr := [o11 h a_now a_kept x_isKept a_r a_flight a_latest]) hP hD hS hFc [3, 1, 2] [0] rfl rfl (by decide) (by decide) (va_runI (As := [.int l1, .int l2, .int l3, .ref a_r]) (rest := [.ref q]) ⟨hx, hb, hml, hown, hts⟩ hM (cwI 4 hts gX11_newLaw_X1_init rfl rfl rfl (hts (.initialized RX1) (by decide +kernel)) (hts (.methodLink RX11 261 yX1_init) (by decide +kernel)) (hts (.instanceMethod yX1_init) (by decide +kernel)) rfl (by decide +kernel) ⟨Nat.le_of_ble_eq_true rfl, Nat.le_of_ble_eq_true rfl⟩) (cp_S hK hE hS hPc hDc hFc) rfl rfl hl.1 rfl (lv_room (Nat.le_of_ble_eq_true rfl)) dX11_newLaw_96 ⟨Nat.le_of_ble_eq_true rfl, Nat.le_of_ble_eq_true rfl⟩) (fun u H locs hP hD hS => ?_)
    refine W.widen (k := 2) (n := 125) (Nat.le_of_ble_eq_true rfl) (Nat.le_of_ble_eq_true rfl) ?_
    exact cm_retp (u := u) (w1 := w1_newLaw G 1 h a_now a_kept a_flight a_latest a_r a_t a_s x_isKept x_size x_place x_sc x_num x_ca f l1 l2 l3) hx hb hr (Or.inl ⟨_, rfl⟩) hlk hK hP hD hS dX11_newLaw_99
  by_cases c5 : l1 = 5
  · have e9 : ct = 5 := by rw [hct, c5]; rfl
    subst e9
    refine lv_eqi c5 ?_
    refine lv_tableIn (tgt := 100) (off := 99) hx hb dX11_newLaw_1 (by decide) (by decide) (by decide) (by decide) ?_
    refine va_new (D := G.1) (ci := 5) (fs := [.int 0, .int 0, .int 0, .int 0, .null]) (C := RX5) (T := TX5) (N := 5) hx hb hts (by decide +kernel) tyX5 tyX5_ok hown (hts (.classLink RX11 262 RX5) (by decide +kernel)) (hts (.instantiable RX5 5) (by decide +kernel)) (hts (.initialized RX5) (by decide +kernel)) hK hP hD hS hA rfl (fun j hj => by rcases (show j = 0 ∨ j = 1 ∨ j = 2 ∨ j = 3 ∨ j = 4 by omega) with rfl | rfl | rfl | rfl | rfl <;> rfl) (Nat.le_of_ble_eq_true rfl) (Nat.le_of_ble_eq_true rfl) dX11_newLaw_100 (fun q H hP hD hS => ?_)
    have hP : va_P G.1 vwCl [o11 h a_now a_kept x_isKept a_r a_flight a_latest, o3 a_r a_t a_s x_size x_place x_sc x_num x_ca, aI G a_s 120 f, (q, .inr (5, [.int 0, .int 0, .int 0, .int 0, .null]))] H := hP
    have hD : va_D A [o11 h a_now a_kept x_isKept a_r a_flight a_latest, o3 a_r a_t a_s x_size x_place x_sc x_num x_ca, aI G a_s 120 f, (q, .inr (5, [.int 0, .int 0, .int 0, .int 0, .null]))] := hD
    refine lv_dup hx hb dX11_newLaw_103 rfl ?_
    refine lv_iload_n hx hb dX11_newLaw_104 rfl (lv_at hl 1 rfl) ?_
    refine lv_iload_n hx hb dX11_newLaw_105 rfl (lv_at hl 2 rfl) ?_
    refine lv_iload_n hx hb dX11_newLaw_106 rfl (lv_at hl 3 rfl) ?_
    refine lv_aload_n hx hb dX11_newLaw_107 rfl (lv_at hl 0 rfl) ?_
    refine va_get (D := G.1) (ci := 11) (v := .ref a_r) (C := RX11) (T := TX11) (N := 6) hx hb hts hin11 hown hK hP 0 rfl rfl 3 (by decide) lk (fun _ h9 => h9) rfl dX11_newLaw_108 ?_
    have hPc := hP.sub (ws' := [(q, .inr (5, [.int 0, .int 0, .int 0, .int 0, .null])), o3 a_r a_t a_s x_size x_place x_sc x_num x_ca, aI G a_s 120 f]) [3, 1, 2] rfl
    have hDc := hD.sub (ws' := [(q, .inr (5, [.int 0, .int 0, .int 0, .int 0, .null])), o3 a_r a_t a_s x_size x_place x_sc x_num x_ca, aI G a_s 120 f]) [3, 1, 2] (by decide) rfl
    have hFc := va_free (wc := [(q, .inr (5, [.int 0, .int 0, .int 0, .int 0, .null])), o3 a_r a_t a_s x_size x_place x_sc x_num x_ca, aI G a_s 120 f]) hD hS hA [3, 1, 2] rfl
    have hM := c_X5_init l G 5 q a_r a_t a_s x_size x_place x_sc x_num x_ca f l1 l2 l3 (by unfold isT; decide) h0 h1 H.size
    refine cl_n (wr := [o11 h a_now a_kept x_isKept a_r a_flight a_latest]) hP hD hS hFc [3, 1, 2] [0] rfl rfl (by decide) (by decide) (va_runI (As := [.int l1, .int l2, .int l3, .ref a_r]) (rest := [.ref q]) ⟨hx, hb, hml, hown, hts⟩ hM (cwI 4 hts gX11_newLaw_X5_init rfl rfl rfl (hts (.initialized RX5) (by decide +kernel)) (hts (.methodLink RX11 264 yX5_init) (by decide +kernel)) (hts (.instanceMethod yX5_init) (by decide +kernel)) rfl (by decide +kernel) ⟨Nat.le_of_ble_eq_true rfl, Nat.le_of_ble_eq_true rfl⟩) (cp_S hK hE hS hPc hDc hFc) rfl rfl hl.1 rfl (lv_room (Nat.le_of_ble_eq_true rfl)) dX11_newLaw_111 ⟨Nat.le_of_ble_eq_true rfl, Nat.le_of_ble_eq_true rfl⟩) (fun u H locs hP hD hS => ?_)
    refine W.widen (k := 2) (n := 125) (Nat.le_of_ble_eq_true rfl) (Nat.le_of_ble_eq_true rfl) ?_
    exact cm_retp (u := u) (w1 := w1_newLaw G 5 h a_now a_kept a_flight a_latest a_r a_t a_s x_isKept x_size x_place x_sc x_num x_ca f l1 l2 l3) hx hb hr (Or.inl ⟨_, rfl⟩) hlk hK hP hD hS dX11_newLaw_114
  by_cases c6 : l1 = 6
  · have e9 : ct = 4 := by rw [hct, c6]; rfl
    subst e9
    refine lv_eqi c6 ?_
    refine lv_tableIn (tgt := 115) (off := 114) hx hb dX11_newLaw_1 (by decide) (by decide) (by decide) (by decide) ?_
    refine va_new (D := G.1) (ci := 4) (fs := [.int 0, .int 0, .int 0, .int 0, .null]) (C := RX4) (T := TX4) (N := 5) hx hb hts (by decide +kernel) tyX4 tyX4_ok hown (hts (.classLink RX11 265 RX4) (by decide +kernel)) (hts (.instantiable RX4 5) (by decide +kernel)) (hts (.initialized RX4) (by decide +kernel)) hK hP hD hS hA rfl (fun j hj => by rcases (show j = 0 ∨ j = 1 ∨ j = 2 ∨ j = 3 ∨ j = 4 by omega) with rfl | rfl | rfl | rfl | rfl <;> rfl) (Nat.le_of_ble_eq_true rfl) (Nat.le_of_ble_eq_true rfl) dX11_newLaw_115 (fun q H hP hD hS => ?_)
    have hP : va_P G.1 vwCl [o11 h a_now a_kept x_isKept a_r a_flight a_latest, o3 a_r a_t a_s x_size x_place x_sc x_num x_ca, aI G a_s 120 f, (q, .inr (4, [.int 0, .int 0, .int 0, .int 0, .null]))] H := hP
    have hD : va_D A [o11 h a_now a_kept x_isKept a_r a_flight a_latest, o3 a_r a_t a_s x_size x_place x_sc x_num x_ca, aI G a_s 120 f, (q, .inr (4, [.int 0, .int 0, .int 0, .int 0, .null]))] := hD
    refine lv_dup hx hb dX11_newLaw_118 rfl ?_
    refine lv_iload_n hx hb dX11_newLaw_119 rfl (lv_at hl 1 rfl) ?_
    refine lv_iload_n hx hb dX11_newLaw_120 rfl (lv_at hl 2 rfl) ?_
    refine lv_iload_n hx hb dX11_newLaw_121 rfl (lv_at hl 3 rfl) ?_
    refine lv_aload_n hx hb dX11_newLaw_122 rfl (lv_at hl 0 rfl) ?_
    refine va_get (D := G.1) (ci := 11) (v := .ref a_r) (C := RX11) (T := TX11) (N := 6) hx hb hts hin11 hown hK hP 0 rfl rfl 3 (by decide) lk (fun _ h9 => h9) rfl dX11_newLaw_123 ?_
    have hPc := hP.sub (ws' := [(q, .inr (4, [.int 0, .int 0, .int 0, .int 0, .null])), o3 a_r a_t a_s x_size x_place x_sc x_num x_ca, aI G a_s 120 f]) [3, 1, 2] rfl
    have hDc := hD.sub (ws' := [(q, .inr (4, [.int 0, .int 0, .int 0, .int 0, .null])), o3 a_r a_t a_s x_size x_place x_sc x_num x_ca, aI G a_s 120 f]) [3, 1, 2] (by decide) rfl
    have hFc := va_free (wc := [(q, .inr (4, [.int 0, .int 0, .int 0, .int 0, .null])), o3 a_r a_t a_s x_size x_place x_sc x_num x_ca, aI G a_s 120 f]) hD hS hA [3, 1, 2] rfl
    have hM := c_X4_init l G 4 q a_r a_t a_s x_size x_place x_sc x_num x_ca f l1 l2 l3 (by unfold isT; decide) h0 h1 H.size
    refine cl_n (wr := [o11 h a_now a_kept x_isKept a_r a_flight a_latest]) hP hD hS hFc [3, 1, 2] [0] rfl rfl (by decide) (by decide) (va_runI (As := [.int l1, .int l2, .int l3, .ref a_r]) (rest := [.ref q]) ⟨hx, hb, hml, hown, hts⟩ hM (cwI 4 hts gX11_newLaw_X4_init rfl rfl rfl (hts (.initialized RX4) (by decide +kernel)) (hts (.methodLink RX11 267 yX4_init) (by decide +kernel)) (hts (.instanceMethod yX4_init) (by decide +kernel)) rfl (by decide +kernel) ⟨Nat.le_of_ble_eq_true rfl, Nat.le_of_ble_eq_true rfl⟩) (cp_S hK hE hS hPc hDc hFc) rfl rfl hl.1 rfl (lv_room (Nat.le_of_ble_eq_true rfl)) dX11_newLaw_126 ⟨Nat.le_of_ble_eq_true rfl, Nat.le_of_ble_eq_true rfl⟩) (fun u H locs hP hD hS => ?_)
    refine W.widen (k := 2) (n := 125) (Nat.le_of_ble_eq_true rfl) (Nat.le_of_ble_eq_true rfl) ?_
    exact cm_retp (u := u) (w1 := w1_newLaw G 4 h a_now a_kept a_flight a_latest a_r a_t a_s x_isKept x_size x_place x_sc x_num x_ca f l1 l2 l3) hx hb hr (Or.inl ⟨_, rfl⟩) hlk hK hP hD hS dX11_newLaw_129
  have e9 : ct = 7 := by rw [hct]; simp [tK, c1, c2, c3, c4, c5, c6]
  subst e9
  refine lv_tableOut (tgt := 130) hx hb dX11_newLaw_1 (by have a1 := lv_neT (k := 1) (a := 1) c1 (by decide); have a2 := lv_neT (k := 2) (a := 2) c2 (by decide); have a3 := lv_neT (k := 3) (a := 3) c3 (by decide); have a4 := lv_neT (k := 4) (a := 4) c4 (by decide); have a5 := lv_neT (k := 5) (a := 5) c5 (by decide); have a6 := lv_neT (k := 6) (a := 6) c6 (by decide); omega) (by decide) ?_
  refine va_new (D := G.1) (ci := 7) (fs := [.int 0, .int 0, .int 0, .int 0, .null]) (C := RX7) (T := TX7) (N := 5) hx hb hts (by decide +kernel) tyX7 tyX7_ok hown (hts (.classLink RX11 118 RX7) (by decide +kernel)) (hts (.instantiable RX7 5) (by decide +kernel)) (hts (.initialized RX7) (by decide +kernel)) hK hP hD hS hA rfl (fun j hj => by rcases (show j = 0 ∨ j = 1 ∨ j = 2 ∨ j = 3 ∨ j = 4 by omega) with rfl | rfl | rfl | rfl | rfl <;> rfl) (Nat.le_of_ble_eq_true rfl) (Nat.le_of_ble_eq_true rfl) dX11_newLaw_130 (fun q H hP hD hS => ?_)
  have hP : va_P G.1 vwCl [o11 h a_now a_kept x_isKept a_r a_flight a_latest, o3 a_r a_t a_s x_size x_place x_sc x_num x_ca, aI G a_s 120 f, (q, .inr (7, [.int 0, .int 0, .int 0, .int 0, .null]))] H := hP
  have hD : va_D A [o11 h a_now a_kept x_isKept a_r a_flight a_latest, o3 a_r a_t a_s x_size x_place x_sc x_num x_ca, aI G a_s 120 f, (q, .inr (7, [.int 0, .int 0, .int 0, .int 0, .null]))] := hD
  refine lv_dup hx hb dX11_newLaw_133 rfl ?_
  refine lv_iload_n hx hb dX11_newLaw_134 rfl (lv_at hl 1 rfl) ?_
  refine lv_iload_n hx hb dX11_newLaw_135 rfl (lv_at hl 2 rfl) ?_
  refine lv_iload_n hx hb dX11_newLaw_136 rfl (lv_at hl 3 rfl) ?_
  refine lv_aload_n hx hb dX11_newLaw_137 rfl (lv_at hl 0 rfl) ?_
  refine va_get (D := G.1) (ci := 11) (v := .ref a_r) (C := RX11) (T := TX11) (N := 6) hx hb hts hin11 hown hK hP 0 rfl rfl 3 (by decide) lk (fun _ h9 => h9) rfl dX11_newLaw_138 ?_
  have hPc := hP.sub (ws' := [(q, .inr (7, [.int 0, .int 0, .int 0, .int 0, .null])), o3 a_r a_t a_s x_size x_place x_sc x_num x_ca, aI G a_s 120 f]) [3, 1, 2] rfl
  have hDc := hD.sub (ws' := [(q, .inr (7, [.int 0, .int 0, .int 0, .int 0, .null])), o3 a_r a_t a_s x_size x_place x_sc x_num x_ca, aI G a_s 120 f]) [3, 1, 2] (by decide) rfl
  have hFc := va_free (wc := [(q, .inr (7, [.int 0, .int 0, .int 0, .int 0, .null])), o3 a_r a_t a_s x_size x_place x_sc x_num x_ca, aI G a_s 120 f]) hD hS hA [3, 1, 2] rfl
  have hM := c_X7_init l G 7 q a_r a_t a_s x_size x_place x_sc x_num x_ca f l1 l2 l3 (by unfold isT; decide) h0 h1 H.size
  refine cl_n (wr := [o11 h a_now a_kept x_isKept a_r a_flight a_latest]) hP hD hS hFc [3, 1, 2] [0] rfl rfl (by decide) (by decide) (va_runI (As := [.int l1, .int l2, .int l3, .ref a_r]) (rest := [.ref q]) ⟨hx, hb, hml, hown, hts⟩ hM (cwI 4 hts gX11_newLaw_X7_init rfl rfl rfl (hts (.initialized RX7) (by decide +kernel)) (hts (.methodLink RX11 268 yX7_init) (by decide +kernel)) (hts (.instanceMethod yX7_init) (by decide +kernel)) rfl (by decide +kernel) ⟨Nat.le_of_ble_eq_true rfl, Nat.le_of_ble_eq_true rfl⟩) (cp_S hK hE hS hPc hDc hFc) rfl rfl hl.1 rfl (lv_room (Nat.le_of_ble_eq_true rfl)) dX11_newLaw_141 ⟨Nat.le_of_ble_eq_true rfl, Nat.le_of_ble_eq_true rfl⟩) (fun u H locs hP hD hS => ?_)
  refine W.widen (k := 2) (n := 125) (Nat.le_of_ble_eq_true rfl) (Nat.le_of_ble_eq_true rfl) ?_
  exact cm_retp (u := u) (w1 := w1_newLaw G 7 h a_now a_kept a_flight a_latest a_r a_t a_s x_isKept x_size x_place x_sc x_num x_ca f l1 l2 l3) hx hb hr (Or.inl ⟨_, rfl⟩) hlk hK hP hD hS dX11_newLaw_144
