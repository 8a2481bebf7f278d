/-! Arrays.copyOf, and the laws' constructors -/
abbrev QQ (G : GG) (w1 : Nat → va_W) (A : Nat → Prop) : Array Value → State → Outcome → State → Prop := va_Qr (fun (_ : Unit) => True) (fun _ q t => cB G A (w1 q) t) A
section MYQ
variable {p : Program} {l : Launch} {e : Env} {R : Room} {s : State} {m : MethodId} {args : Array Value} {below : List Frame} {meth : Method} {c : Code} {H : Heap} {locs : List Loc} {cells slots : Nat}
variable {cc : ByteArray} {pc : Nat} {ls : Array Slot} {A : Nat → Prop} {G : GG}
theorem cm_retq {w1 : Nat → va_W} {q : Nat} {ty : FieldType} (hx : p.tables.exec = Jvm.exec) (hb : c.code = cc) (hr : meth.sig.returnType = some ty) (hrt : (∃ n, ty = .object n) ∨ ∃ t, ty = .array t) (hlk : meth.locks = false) (hK : va_K G.1 vwCl (TY G) s) (hP : va_P G.1 vwCl (w1 q) H) (hD : va_D A (w1 q)) (hS : va_S A s.heap H locs) (hd : decode cc pc = .ok (.areturn, 1)) :
    W p l e R s m args below meth c H locs cells slots (MQ below (QQ G w1 A) args s cells slots A) (F0 m pc ls [.ref q]) :=
  W.aret hx hb hr hrt (Or.inr ⟨q, rfl⟩) (fun t ht hW => ⟨⟨(), q, rfl, trivial, by rw [ht]; exact hP, va_K.moved hW.alike hK, hD⟩, hS.F ht⟩) hS.2.2 hd hlk
end MYQ
theorem i_lt120 {k : Int32} (h1 : k < 120) : k.toNatClampNeg < 120 := by
  have a := Int32.lt_iff_toInt_lt.mp h1
  have b : (120 : Int32).toInt = 120 := by decide
  show k.toInt.toNat < 120
  omega
def w1_copyOf (G : GG) (a : Nat) (f : Nat → Int32) (K : Nat) (q : Nat) : va_W := [aI G a 120 f, aI G q K (va_cpy f (fun _ => 0) 0 0 K)]
abbrev rm_copyOf : Room := { frames := 1, cells := 1, slots := 120, locals := 60 }
set_option maxHeartbeats 4000000 in
set_option maxRecDepth 100000 in
theorem c_J7_copyOf (l : Launch) (G : GG) (a : Nat) (f : Nat → Int32) (k : Int32) (h0 : ¬ k < 0) (h1 : k < 120) : ∀ sz : Nat, Met l yJ7_copyOf_59c91 wsJ7_copyOf_59c91 rm_copyOf (cP G [aI G a 120 f] sz [.ref a, .int k]) (QQ G (w1_copyOf G a f k.toNatClampNeg) (va_A [aI G a 120 f] sz)) 1 120 (va_A [aI G a 120 f] sz) := by
  refine cm_start (cc := cJ7_copyOf_59c91) (maxL := 3) (ret := (some (.array .int))) (Qc := fun A => QQ G (w1_copyOf G a f k.toNatClampNeg) A) (by decide +kernel) rfl (Nat.le_of_ble_eq_true rfl) ?_
  intro p e s m args below meth c A hx hb hr hlk hml hown hnm hts hA H locs hP hK hD hE hS ls hl
  have hown : s.vm.findClass RJ7 = some m.cls := hown
  have hl : lv_has ls 3 [(0, .ref a), (1, .int k)] := hl
  have hk := i_lt120 h1
  refine lv_iload_n hx hb dJ7_copyOf_59c91_0 rfl (lv_at hl 1 rfl) ?_
  refine lv_aload_n hx hb dJ7_copyOf_59c91_1 rfl (lv_at hl 0 rfl) ?_
  refine va_alen (D := G.1) (v := 120) hx hb hK hP 0 0 rfl rfl rfl dJ7_copyOf_59c91_2 ?_
  refine lv_icmp_ne (tgt := 14) hx hb dJ7_copyOf_59c91_3 (by decide) (fun _ => ?_) (fun c9 => absurd h1 (by rw [c9]; decide))
  refine lv_iload_n hx hb dJ7_copyOf_59c91_14 rfl (lv_at hl 1 rfl) ?_
  refine t_newi (N' := k.toNatClampNeg) hx hb (hts (.arrayClass .int) (by decide +kernel)) hK hP hD hS hA h0 rfl (by omega) (Nat.le_of_ble_eq_true rfl) (by show 0 + k.toNatClampNeg ≤ 120; omega) dJ7_copyOf_59c91_15 (fun q H hP hD hS => ?_)
  have hP : va_P G.1 vwCl [aI G a 120 f, aI G q k.toNatClampNeg (fun _ => 0)] H := hP
  have hD : va_D A [aI G a 120 f, aI G q k.toNatClampNeg (fun _ => 0)] := hD
  refine lv_astore_n (lv' := [(2, .ref q), (0, .ref a), (1, .int k)]) hx hb dJ7_copyOf_59c91_17 rfl hl (by decide) rfl (fun ls hl => ?_)
  refine lv_aload_n hx hb dJ7_copyOf_59c91_18 rfl (lv_at hl 1 rfl) ?_
  refine lv_iconst (v := 0) hx hb dJ7_copyOf_59c91_19 (by decide) ?_
  refine lv_aload_n hx hb dJ7_copyOf_59c91_20 rfl (lv_at hl 0 rfl) ?_
  refine lv_iconst (v := 0) hx hb dJ7_copyOf_59c91_21 (by decide) ?_
  refine lv_aload_n hx hb dJ7_copyOf_59c91_22 rfl (lv_at hl 1 rfl) ?_
  refine va_alen (D := G.1) (v := 120) hx hb hK hP 0 0 rfl rfl rfl dJ7_copyOf_59c91_23 ?_
  refine lv_iload_n hx hb dJ7_copyOf_59c91_24 rfl (lv_at hl 2 rfl) ?_
  refine va_mmin hx hb (hml.trans hl.1.symm) hown (hts (.methodLink RJ7 304 Lib.Math.min.name) (by decide +kernel)) (hts (.static Lib.Math.min.name) (by decide +kernel)) (hts (.initialized "java/lang/Math") (by decide +kernel)) (hts (.code Lib.Math.min.name Lib.Math.min.code 2 (some .int)) (by decide +kernel)) (Nat.le_of_ble_eq_true rfl) (Nat.le_of_ble_eq_true rfl) (Nat.le_of_ble_eq_true rfl) (by show 0 + k.toNatClampNeg ≤ 120; omega) dJ7_copyOf_59c91_25 ?_
  refine lv_eqi (if_pos h1) ?_
  refine va_copyi (D := G.1) (rest := []) hx hb (hml.trans hl.1.symm) hown (hts (.methodLink RJ7 150 arraycopyName) (by decide +kernel)) (hts (.native arraycopyName) (by decide +kernel)) (hts (.static arraycopyName) (by decide +kernel)) (hts (.initialized "java/lang/System") (by decide +kernel)) hK hP hD hS 0 1 0 0 rfl rfl rfl rfl rfl (by decide) (by decide) h0 (by show 0 + _ ≤ _; omega) (by show 0 + _ ≤ _; omega) (fun _ _ => rfl) (Nat.le_of_ble_eq_true rfl) (Nat.le_of_ble_eq_true rfl) dJ7_copyOf_59c91_28 (fun H locs hP hD hS => ?_)
  refine lv_aload_n hx hb dJ7_copyOf_59c91_31 rfl (lv_at hl 0 rfl) ?_
  refine W.widen (k := 1) (n := 120) (Nat.le_of_ble_eq_true rfl) (by show 0 + k.toNatClampNeg ≤ 120; omega) ?_
  exact cm_retq hx hb hr (Or.inr ⟨_, rfl⟩) hlk hK hP hD hS dJ7_copyOf_59c91_32
section MYP
variable {p : Program} {l : Launch} {e : Env} {R : Room} {s : State} {m : MethodId} {args : Array Value} {below : List Frame} {meth : Method} {c : Code} {H : Heap} {locs : List Loc} {cells slots : Nat} {Q : State → Prop}
variable {pc : Nat} {ls : Array Slot} {rest st0 : List Value} {A : Nat → Prop} {G : GG} {ws wc wr : va_W} {a : Array Value}
theorem cl_q {w1 : Nat → va_W} {mc ms : Nat} (hP : va_P G.1 vwCl ws H) (hD : va_D A ws) (hS : va_S A s.heap H locs) (hF : ∀ q, va_A wc H.size q → A q) (isC isR : List Nat) (hC : isC.map (fun i => ws[i]?) = wc.map some) (hR : isR.map (fun i => ws[i]?) = wr.map some) (hn : va_nd isR = true) (hdis : ∀ i ∈ isR, i ∉ isC)
    (hr : va_Run p l e R s m args below meth c H locs cells slots mc ms (F0 m pc ls st0) rest (QQ G w1 (va_A wc H.size) a) (va_A wc H.size))
    (kk : ∀ (q : Nat) (H1 : Heap) (locs1 : List Loc), va_P G.1 vwCl (wr ++ w1 q) H1 → va_D A (wr ++ w1 q) → va_S A s.heap H1 locs1 → W p l e R s m args below meth c H1 locs1 (cells + mc) (slots + ms) Q (F0 m (pc + 3) ls (.ref q :: rest))) : W p l e R s m args below meth c H locs cells slots Q (F0 m pc ls st0) := by
  refine va_callr hr hS (fun q _ h => hF q h) hF (fun u q t H1 locs1 ht hvm hw1 hB hz1 hk1 hS1 => ?_)
  obtain ⟨hP1, hK1, hD1⟩ := hB
  rw [ht] at hP1
  obtain ⟨hP2, hD2⟩ := va_join hP hD isC isR hC hR hn hdis hk1 hF hP1 hD1
  exact kk q H1 locs1 hP2 hD2 hS1
end MYP
def w1_law (G : GG) (ct h a_r a_t a_s : Nat) (x_size x_place x_sc x_num x_ca : Int32) (f : Nat → Int32) (l1 l2 l3 : Int32) (q : Nat) : va_W := [oT ct h l1 l2 l3 x_ca q, o3 a_r a_t a_s x_size x_place x_sc x_num x_ca, aI G a_s 120 f, aI G q x_sc.toNatClampNeg (va_cpy f (fun _ => 0) 0 0 x_sc.toNatClampNeg)]
abbrev rm_X7_init : Room := { frames := 2, cells := 1, slots := 120, locals := 100 }
set_option maxHeartbeats 4000000 in
set_option maxRecDepth 100000 in
theorem c_X7_init (l : Launch) (G : GG) (ct h a_r a_t a_s : Nat) (x_size x_place x_sc x_num x_ca : Int32) (f : Nat → Int32) (l1 l2 l3 : Int32) (hT : isT ct) (h0 : ¬ x_sc < 0) (h1 : x_sc < 120) : CMn l yX7_init wsX7_init rm_X7_init G [(h, .inr (ct, [.int 0, .int 0, .int 0, .int 0, .null])), o3 a_r a_t a_s x_size x_place x_sc x_num x_ca, aI G a_s 120 f] (w1_law G ct h a_r a_t a_s x_size x_place x_sc x_num x_ca f l1 l2 l3) [.ref h, .int l1, .int l2, .int l3, .ref a_r] 1 120 := by
  refine cm_start (cc := cX7_init) (maxL := 5) (ret := none) (Qc := fun A => QN G (w1_law G ct h a_r a_t a_s x_size x_place x_sc x_num x_ca f l1 l2 l3) A) (by decide +kernel) rfl (Nat.le_of_ble_eq_true rfl) ?_
  intro p e s m args below meth c A hx hb hr hlk hml hown hnm hts hA H locs hP hK hD hE hS ls hl
  have hown : s.vm.findClass RX7 = some m.cls := hown
  have hl : lv_has ls 5 [(0, .ref h), (1, .int l1), (2, .int l2), (3, .int l3), (4, .ref a_r)] := hl
  have hin : ∀ w ∈ u_ws (tC ct) TX7 5, w ∈ wsX7_init := by rcases hT with rfl | rfl | rfl | rfl | rfl | rfl | rfl <;> decide +kernel
  have hin3 : ∀ w ∈ wsX30, w ∈ wsX7_init := by decide +kernel
  refine lv_aload_n hx hb dX7_init_0 rfl (lv_at hl 0 rfl) ?_
  refine W.objInit hx hb hown (hts (.methodLink RX7 1 objectInit) (by decide +kernel)) (hts (.instanceMethod objectInit) (by decide +kernel)) (hts (.code objectInit ⟨#[0xb1]⟩ 1 none) (by decide +kernel)) rfl (by rw [hml]; exact hl.1) rfl dX7_init_1 (Nat.le_of_ble_eq_true rfl) (Nat.le_of_ble_eq_true rfl) ?_
  refine W.eq (g2 := F0 m 4 ls []) rfl ?_
  refine lv_aload_n hx hb dX7_init_4 rfl (lv_at hl 0 rfl) ?_
  refine lv_iload_n hx hb dX7_init_5 rfl (lv_at hl 1 rfl) ?_
  refine va_putF (D := G.1) (ci := ct) (v := .int l1) (ty := .int) (C := tC ct) (T := TX7) (N := 5) hx hb hts hin tyX7 tyX7_ok nmX7 hown hK hP hD hS 0 rfl (tC_at hT) 0 (by decide) (hts (.fieldLink RX7 7 "HeadsByHair$Throw" "kind" "I") (by decide +kernel)) (fun _ h9 => h9) rfl hnm rfl (tyX7_ok 0 (by decide)) rfl rfl (Nat.le_of_ble_eq_true rfl) dX7_init_6 (fun H locs hP hD hS => ?_)
  have hP : va_P G.1 vwCl [(h, .inr (ct, [.int l1, .int 0, .int 0, .int 0, .null])), o3 a_r a_t a_s x_size x_place x_sc x_num x_ca, aI G a_s 120 f] H := hP
  have hD : va_D A [(h, .inr (ct, [.int l1, .int 0, .int 0, .int 0, .null])), o3 a_r a_t a_s x_size x_place x_sc x_num x_ca, aI G a_s 120 f] := hD
  refine lv_aload_n hx hb dX7_init_9 rfl (lv_at hl 0 rfl) ?_
  refine lv_iload_n hx hb dX7_init_10 rfl (lv_at hl 2 rfl) ?_
  refine va_putF (D := G.1) (ci := ct) (v := .int l2) (ty := .int) (C := tC ct) (T := TX7) (N := 5) hx hb hts hin tyX7 tyX7_ok nmX7 hown hK hP hD hS 0 rfl (tC_at hT) 1 (by decide) (hts (.fieldLink RX7 13 "HeadsByHair$Throw" "number" "I") (by decide +kernel)) (fun _ h9 => h9) rfl hnm rfl (tyX7_ok 1 (by decide)) rfl rfl (Nat.le_of_ble_eq_true rfl) dX7_init_11 (fun H locs hP hD hS => ?_)
  have hP : va_P G.1 vwCl [(h, .inr (ct, [.int l1, .int l2, .int 0, .int 0, .null])), o3 a_r a_t a_s x_size x_place x_sc x_num x_ca, aI G a_s 120 f] H := hP
  have hD : va_D A [(h, .inr (ct, [.int l1, .int l2, .int 0, .int 0, .null])), o3 a_r a_t a_s x_size x_place x_sc x_num x_ca, aI G a_s 120 f] := hD
  refine lv_aload_n hx hb dX7_init_14 rfl (lv_at hl 0 rfl) ?_
  refine lv_iload_n hx hb dX7_init_15 rfl (lv_at hl 3 rfl) ?_
  refine va_putF (D := G.1) (ci := ct) (v := .int l3) (ty := .int) (C := tC ct) (T := TX7) (N := 5) hx hb hts hin tyX7 tyX7_ok nmX7 hown hK hP hD hS 0 rfl (tC_at hT) 2 (by decide) (hts (.fieldLink RX7 16 "HeadsByHair$Throw" "v" "I") (by decide +kernel)) (fun _ h9 => h9) rfl hnm rfl (tyX7_ok 2 (by decide)) rfl rfl (Nat.le_of_ble_eq_true rfl) dX7_init_16 (fun H locs hP hD hS => ?_)
  have hP : va_P G.1 vwCl [(h, .inr (ct, [.int l1, .int l2, .int l3, .int 0, .null])), o3 a_r a_t a_s x_size x_place x_sc x_num x_ca, aI G a_s 120 f] H := hP
  have hD : va_D A [(h, .inr (ct, [.int l1, .int l2, .int l3, .int 0, .null])), o3 a_r a_t a_s x_size x_place x_sc x_num x_ca, aI G a_s 120 f] := hD
  refine lv_aload_n hx hb dX7_init_19 rfl (lv_at hl 0 rfl) ?_
  refine lv_aload hx hb dX7_init_20 (lv_at hl 4 rfl) ?_
  refine va_getN (D := G.1) (ci := 3) (v := .int x_ca) (C := RX3) (T := TX3) (N := 7) hx hb hts hin3 hown hK hP 1 rfl rfl 6 (by decide) (va_Nw.use (A := args) rfl (hE.nw (.fieldLinkNest "HeadsByHair$Throw" 19 "HeadsByHair$Reader" "caught" "I" "HeadsByHair") (List.mem_append_left _ (by decide +kernel)))) (fun _ h9 => h9) rfl dX7_init_22 ?_
  refine va_putF (D := G.1) (ci := ct) (v := .int x_ca) (ty := .int) (C := tC ct) (T := TX7) (N := 5) hx hb hts hin tyX7 tyX7_ok nmX7 hown hK hP hD hS 0 rfl (tC_at hT) 3 (by decide) (hts (.fieldLink RX7 24 "HeadsByHair$Throw" "caught" "I") (by decide +kernel)) (fun _ h9 => h9) rfl hnm rfl (tyX7_ok 3 (by decide)) rfl rfl (Nat.le_of_ble_eq_true rfl) dX7_init_25 (fun H locs hP hD hS => ?_)
  have hP : va_P G.1 vwCl [(h, .inr (ct, [.int l1, .int l2, .int l3, .int x_ca, .null])), o3 a_r a_t a_s x_size x_place x_sc x_num x_ca, aI G a_s 120 f] H := hP
  have hD : va_D A [(h, .inr (ct, [.int l1, .int l2, .int l3, .int x_ca, .null])), o3 a_r a_t a_s x_size x_place x_sc x_num x_ca, aI G a_s 120 f] := hD
  refine lv_aload_n hx hb dX7_init_28 rfl (lv_at hl 0 rfl) ?_
  refine lv_aload hx hb dX7_init_29 (lv_at hl 4 rfl) ?_
  refine va_getN (D := G.1) (ci := 3) (v := .ref a_s) (C := RX3) (T := TX3) (N := 7) hx hb hts hin3 hown hK hP 1 rfl rfl 1 (by decide) (va_Nw.use (A := args) rfl (hE.nw (.fieldLinkNest "HeadsByHair$Throw" 25 "HeadsByHair$Reader" "steps" "[I" "HeadsByHair") (List.mem_append_left _ (by decide +kernel)))) (fun _ h9 => h9) rfl dX7_init_31 ?_
  refine lv_aload hx hb dX7_init_34 (lv_at hl 4 rfl) ?_
  refine va_getN (D := G.1) (ci := 3) (v := .int x_sc) (C := RX3) (T := TX3) (N := 7) hx hb hts hin3 hown hK hP 1 rfl rfl 4 (by decide) (va_Nw.use (A := args) rfl (hE.nw (.fieldLinkNest "HeadsByHair$Throw" 29 "HeadsByHair$Reader" "stepCount" "I" "HeadsByHair") (List.mem_append_left _ (by decide +kernel)))) (fun _ h9 => h9) rfl dX7_init_36 ?_
  have hPc := hP.sub (ws' := [aI G a_s 120 f]) [2] rfl
  have hDc := hD.sub (ws' := [aI G a_s 120 f]) [2] (by decide) rfl
  have hFc := va_free (wc := [aI G a_s 120 f]) hD hS hA [2] rfl
  have hM := c_J7_copyOf l G a_s f x_sc h0 h1 H.size
  refine cl_q (wr := [(h, .inr (ct, [.int l1, .int l2, .int l3, .int x_ca, .null])), o3 a_r a_t a_s x_size x_place x_sc x_num x_ca]) hP hD hS hFc [2] [0, 1] rfl rfl (by decide) (by decide) (va_runS (As := [.ref a_s, .int x_sc]) (rest := [.ref h]) ⟨hx, hb, hml, hown, hts⟩ hM (va_cwS 2 hts gX7_init_J7_copyOf_59c91 rfl rfl rfl (by decide +kernel) ⟨Nat.le_of_ble_eq_true rfl, Nat.le_of_ble_eq_true rfl⟩) (cp_S hK hE hS hPc hDc hFc) rfl rfl hl.1 rfl (lv_room (Nat.le_of_ble_eq_true rfl)) dX7_init_39 ⟨Nat.le_of_ble_eq_true rfl, Nat.le_of_ble_eq_true rfl⟩) (fun q H locs hP hD hS => ?_)
  have hP : va_P G.1 vwCl [(h, .inr (ct, [.int l1, .int l2, .int l3, .int x_ca, .null])), o3 a_r a_t a_s x_size x_place x_sc x_num x_ca, aI G a_s 120 f, aI G q x_sc.toNatClampNeg (va_cpy f (fun _ => 0) 0 0 x_sc.toNatClampNeg)] H := hP
  have hD : va_D A [(h, .inr (ct, [.int l1, .int l2, .int l3, .int x_ca, .null])), o3 a_r a_t a_s x_size x_place x_sc x_num x_ca, aI G a_s 120 f, aI G q x_sc.toNatClampNeg (va_cpy f (fun _ => 0) 0 0 x_sc.toNatClampNeg)] := hD
  refine va_putF (D := G.1) (ci := ct) (v := .ref q) (ty := (.array .int)) (C := tC ct) (T := TX7) (N := 5) hx hb hts hin tyX7 tyX7_ok nmX7 hown hK hP hD hS 0 rfl (tC_at hT) 4 (by decide) (hts (.fieldLink RX7 38 "HeadsByHair$Throw" "steps" "[I") (by decide +kernel)) (fun _ h9 => h9) rfl hnm rfl (tyX7_ok 4 (by decide)) rfl rfl (Nat.le_of_ble_eq_true rfl) dX7_init_42 (fun H locs hP hD hS => ?_)
  have hP : va_P G.1 vwCl [(h, .inr (ct, [.int l1, .int l2, .int l3, .int x_ca, .ref q])), o3 a_r a_t a_s x_size x_place x_sc x_num x_ca, aI G a_s 120 f, aI G q x_sc.toNatClampNeg (va_cpy f (fun _ => 0) 0 0 x_sc.toNatClampNeg)] H := hP
  have hD : va_D A [(h, .inr (ct, [.int l1, .int l2, .int l3, .int x_ca, .ref q])), o3 a_r a_t a_s x_size x_place x_sc x_num x_ca, aI G a_s 120 f, aI G q x_sc.toNatClampNeg (va_cpy f (fun _ => 0) 0 0 x_sc.toNatClampNeg)] := hD
  refine W.widen (k := 1) (n := 120) (Nat.le_of_ble_eq_true rfl) (Nat.le_of_ble_eq_true rfl) ?_
  exact cm_retn (w1 := w1_law G ct h a_r a_t a_s x_size x_place x_sc x_num x_ca f l1 l2 l3) q hx hb hr hlk hK hP hD hS dX7_init_45
abbrev rm_X9_init : Room := { frames := 3, cells := 1, slots := 120, locals := 124 }
set_option maxHeartbeats 4000000 in
set_option maxRecDepth 100000 in
theorem c_X9_init (l : Launch) (G : GG) (ct h a_r a_t a_s : Nat) (x_size x_place x_sc x_num x_ca : Int32) (f : Nat → Int32) (l1 l2 l3 : Int32) (hT : isT ct) (h0 : ¬ x_sc < 0) (h1 : x_sc < 120) : CMn l yX9_init wsX9_init rm_X9_init G [(h, .inr (ct, [.int 0, .int 0, .int 0, .int 0, .null])), o3 a_r a_t a_s x_size x_place x_sc x_num x_ca, aI G a_s 120 f] (w1_law G ct h a_r a_t a_s x_size x_place x_sc x_num x_ca f l1 l2 l3) [.ref h, .int l1, .int l2, .int l3, .ref a_r] 1 120 := by
  refine cm_start (cc := cX9_init) (maxL := 5) (ret := none) (Qc := fun A => QN G (w1_law G ct h a_r a_t a_s x_size x_place x_sc x_num x_ca f l1 l2 l3) A) (by decide +kernel) rfl (Nat.le_of_ble_eq_true rfl) ?_
  intro p e s m args below meth c A hx hb hr hlk hml hown hnm hts hA H locs hP hK hD hE hS ls hl
  have hown : s.vm.findClass RX9 = some m.cls := hown
  have hl : lv_has ls 5 [(0, .ref h), (1, .int l1), (2, .int l2), (3, .int l3), (4, .ref a_r)] := hl
  refine lv_aload_n hx hb dX9_init_0 rfl (lv_at hl 0 rfl) ?_
  refine lv_iload_n hx hb dX9_init_1 rfl (lv_at hl 1 rfl) ?_
  refine lv_iload_n hx hb dX9_init_2 rfl (lv_at hl 2 rfl) ?_
  refine lv_iload_n hx hb dX9_init_3 rfl (lv_at hl 3 rfl) ?_
  refine lv_aload hx hb dX9_init_4 (lv_at hl 4 rfl) ?_
  have hFc := va_free (wc := [(h, .inr (ct, [.int 0, .int 0, .int 0, .int 0, .null])), o3 a_r a_t a_s x_size x_place x_sc x_num x_ca, aI G a_s 120 f]) hD hS hA [0, 1, 2] rfl
  have hM := c_X7_init l G ct h a_r a_t a_s x_size x_place x_sc x_num x_ca f l1 l2 l3 hT h0 h1 H.size
  refine cl_n (wr := []) hP hD hS hFc [0, 1, 2] [] rfl rfl (by decide) (by decide) (va_runI (As := [.int l1, .int l2, .int l3, .ref a_r]) (rest := []) ⟨hx, hb, hml, hown, hts⟩ hM (cwI 4 hts gX9_init_X7_init rfl rfl rfl (hts (.initialized RX7) (by decide +kernel)) (hts (.methodLink RX9 3 yX7_init) (by decide +kernel)) (hts (.instanceMethod yX7_init) (by decide +kernel)) rfl (by decide +kernel) ⟨Nat.le_of_ble_eq_true rfl, Nat.le_of_ble_eq_true rfl⟩) (cp_S hK hE hS hP hD hFc) rfl rfl hl.1 rfl (lv_room (Nat.le_of_ble_eq_true rfl)) dX9_init_6 ⟨Nat.le_of_ble_eq_true rfl, Nat.le_of_ble_eq_true rfl⟩) (fun q H locs hP hD hS => ?_)
  refine W.widen (k := 1) (n := 120) (Nat.le_of_ble_eq_true rfl) (Nat.le_of_ble_eq_true rfl) ?_
  exact cm_retn (w1 := w1_law G ct h a_r a_t a_s x_size x_place x_sc x_num x_ca f l1 l2 l3) q hx hb hr hlk hK hP hD hS dX9_init_9
abbrev rm_X10_init : Room := { frames := 4, cells := 1, slots := 120, locals := 148 }
set_option maxHeartbeats 4000000 in
set_option maxRecDepth 100000 in
theorem c_X10_init (l : Launch) (G : GG) (ct h a_r a_t a_s : Nat) (x_size x_place x_sc x_num x_ca : Int32) (f : Nat → Int32) (l1 l2 l3 : Int32) (hT : isT ct) (h0 : ¬ x_sc < 0) (h1 : x_sc < 120) : CMn l yX10_init wsX10_init rm_X10_init G [(h, .inr (ct, [.int 0, .int 0, .int 0, .int 0, .null])), o3 a_r a_t a_s x_size x_place x_sc x_num x_ca, aI G a_s 120 f] (w1_law G ct h a_r a_t a_s x_size x_place x_sc x_num x_ca f l1 l2 l3) [.ref h, .int l1, .int l2, .int l3, .ref a_r] 1 120 := by
  refine cm_start (cc := cX10_init) (maxL := 5) (ret := none) (Qc := fun A => QN G (w1_law G ct h a_r a_t a_s x_size x_place x_sc x_num x_ca f l1 l2 l3) A) (by decide +kernel) rfl (Nat.le_of_ble_eq_true rfl) ?_
  intro p e s m args below meth c A hx hb hr hlk hml hown hnm hts hA H locs hP hK hD hE hS ls hl
  have hown : s.vm.findClass RX10 = some m.cls := hown
  have hl : lv_has ls 5 [(0, .ref h), (1, .int l1), (2, .int l2), (3, .int l3), (4, .ref a_r)] := hl
  refine lv_aload_n hx hb dX10_init_0 rfl (lv_at hl 0 rfl) ?_
  refine lv_iload_n hx hb dX10_init_1 rfl (lv_at hl 1 rfl) ?_
  refine lv_iload_n hx hb dX10_init_2 rfl (lv_at hl 2 rfl) ?_
  refine lv_iload_n hx hb dX10_init_3 rfl (lv_at hl 3 rfl) ?_
  refine lv_aload hx hb dX10_init_4 (lv_at hl 4 rfl) ?_
  have hFc := va_free (wc := [(h, .inr (ct, [.int 0, .int 0, .int 0, .int 0, .null])), o3 a_r a_t a_s x_size x_place x_sc x_num x_ca, aI G a_s 120 f]) hD hS hA [0, 1, 2] rfl
  have hM := c_X9_init l G ct h a_r a_t a_s x_size x_place x_sc x_num x_ca f l1 l2 l3 hT h0 h1 H.size
  refine cl_n (wr := []) hP hD hS hFc [0, 1, 2] [] rfl rfl (by decide) (by decide) (va_runI (As := [.int l1, .int l2, .int l3, .ref a_r]) (rest := []) ⟨hx, hb, hml, hown, hts⟩ hM (cwI 4 hts gX10_init_X9_init rfl rfl rfl (hts (.initialized RX9) (by decide +kernel)) (hts (.methodLink RX10 3 yX9_init) (by decide +kernel)) (hts (.instanceMethod yX9_init) (by decide +kernel)) rfl (by decide +kernel) ⟨Nat.le_of_ble_eq_true rfl, Nat.le_of_ble_eq_true rfl⟩) (cp_S hK hE hS hP hD hFc) rfl rfl hl.1 rfl (lv_room (Nat.le_of_ble_eq_true rfl)) dX10_init_6 ⟨Nat.le_of_ble_eq_true rfl, Nat.le_of_ble_eq_true rfl⟩) (fun q H locs hP hD hS => ?_)
  refine W.widen (k := 1) (n := 120) (Nat.le_of_ble_eq_true rfl) (Nat.le_of_ble_eq_true rfl) ?_
  exact cm_retn (w1 := w1_law G ct h a_r a_t a_s x_size x_place x_sc x_num x_ca f l1 l2 l3) q hx hb hr hlk hK hP hD hS dX10_init_9
abbrev rm_X4_init : Room := { frames := 5, cells := 1, slots := 120, locals := 172 }
set_option maxHeartbeats 4000000 in
set_option maxRecDepth 100000 in
theorem c_X4_init (l : Launch) (G : GG) (ct h a_r a_t a_s : Nat) (x_size x_place x_sc x_num x_ca : Int32) (f : Nat → Int32) (l1 l2 l3 : Int32) (hT : isT ct) (h0 : ¬ x_sc < 0) (h1 : x_sc < 120) : CMn l yX4_init wsX4_init rm_X4_init G [(h, .inr (ct, [.int 0, .int 0, .int 0, .int 0, .null])), o3 a_r a_t a_s x_size x_place x_sc x_num x_ca, aI G a_s 120 f] (w1_law G ct h a_r a_t a_s x_size x_place x_sc x_num x_ca f l1 l2 l3) [.ref h, .int l1, .int l2, .int l3, .ref a_r] 1 120 := by
  refine cm_start (cc := cX4_init) (maxL := 5) (ret := none) (Qc := fun A => QN G (w1_law G ct h a_r a_t a_s x_size x_place x_sc x_num x_ca f l1 l2 l3) A) (by decide +kernel) rfl (Nat.le_of_ble_eq_true rfl) ?_
  intro p e s m args below meth c A hx hb hr hlk hml hown hnm hts hA H locs hP hK hD hE hS ls hl
  have hown : s.vm.findClass RX4 = some m.cls := hown
  have hl : lv_has ls 5 [(0, .ref h), (1, .int l1), (2, .int l2), (3, .int l3), (4, .ref a_r)] := hl
  refine lv_aload_n hx hb dX4_init_0 rfl (lv_at hl 0 rfl) ?_
  refine lv_iload_n hx hb dX4_init_1 rfl (lv_at hl 1 rfl) ?_
  refine lv_iload_n hx hb dX4_init_2 rfl (lv_at hl 2 rfl) ?_
  refine lv_iload_n hx hb dX4_init_3 rfl (lv_at hl 3 rfl) ?_
  refine lv_aload hx hb dX4_init_4 (lv_at hl 4 rfl) ?_
  have hFc := va_free (wc := [(h, .inr (ct, [.int 0, .int 0, .int 0, .int 0, .null])), o3 a_r a_t a_s x_size x_place x_sc x_num x_ca, aI G a_s 120 f]) hD hS hA [0, 1, 2] rfl
  have hM := c_X10_init l G ct h a_r a_t a_s x_size x_place x_sc x_num x_ca f l1 l2 l3 hT h0 h1 H.size
  refine cl_n (wr := []) hP hD hS hFc [0, 1, 2] [] rfl rfl (by decide) (by decide) (va_runI (As := [.int l1, .int l2, .int l3, .ref a_r]) (rest := []) ⟨hx, hb, hml, hown, hts⟩ hM (cwI 4 hts gX4_init_X10_init rfl rfl rfl (hts (.initialized RX10) (by decide +kernel)) (hts (.methodLink RX4 1 yX10_init) (by decide +kernel)) (hts (.instanceMethod yX10_init) (by decide +kernel)) rfl (by decide +kernel) ⟨Nat.le_of_ble_eq_true rfl, Nat.le_of_ble_eq_true rfl⟩) (cp_S hK hE hS hP hD hFc) rfl rfl hl.1 rfl (lv_room (Nat.le_of_ble_eq_true rfl)) dX4_init_6 ⟨Nat.le_of_ble_eq_true rfl, Nat.le_of_ble_eq_true rfl⟩) (fun q H locs hP hD hS => ?_)
  refine W.widen (k := 1) (n := 120) (Nat.le_of_ble_eq_true rfl) (Nat.le_of_ble_eq_true rfl) ?_
  exact cm_retn (w1 := w1_law G ct h a_r a_t a_s x_size x_place x_sc x_num x_ca f l1 l2 l3) q hx hb hr hlk hK hP hD hS dX4_init_9
abbrev rm_X0_init : Room := { frames := 3, cells := 1, slots := 120, locals := 124 }
set_option maxHeartbeats 4000000 in
set_option maxRecDepth 100000 in
theorem c_X0_init (l : Launch) (G : GG) (ct h a_r a_t a_s : Nat) (x_size x_place x_sc x_num x_ca : Int32) (f : Nat → Int32) (l1 l2 l3 : Int32) (hT : isT ct) (h0 : ¬ x_sc < 0) (h1 : x_sc < 120) : CMn l yX0_init wsX0_init rm_X0_init G [(h, .inr (ct, [.int 0, .int 0, .int 0, .int 0, .null])), o3 a_r a_t a_s x_size x_place x_sc x_num x_ca, aI G a_s 120 f] (w1_law G ct h a_r a_t a_s x_size x_place x_sc x_num x_ca f l1 l2 l3) [.ref h, .int l1, .int l2, .int l3, .ref a_r] 1 120 := by
  refine cm_start (cc := cX0_init) (maxL := 5) (ret := none) (Qc := fun A => QN G (w1_law G ct h a_r a_t a_s x_size x_place x_sc x_num x_ca f l1 l2 l3) A) (by decide +kernel) rfl (Nat.le_of_ble_eq_true rfl) ?_
  intro p e s m args below meth c A hx hb hr hlk hml hown hnm hts hA H locs hP hK hD hE hS ls hl
  have hown : s.vm.findClass RX0 = some m.cls := hown
  have hl : lv_has ls 5 [(0, .ref h), (1, .int l1), (2, .int l2), (3, .int l3), (4, .ref a_r)] := hl
  refine lv_aload_n hx hb dX0_init_0 rfl (lv_at hl 0 rfl) ?_
  refine lv_iload_n hx hb dX0_init_1 rfl (lv_at hl 1 rfl) ?_
  refine lv_iload_n hx hb dX0_init_2 rfl (lv_at hl 2 rfl) ?_
  refine lv_iload_n hx hb dX0_init_3 rfl (lv_at hl 3 rfl) ?_
  refine lv_aload hx hb dX0_init_4 (lv_at hl 4 rfl) ?_
  have hFc := va_free (wc := [(h, .inr (ct, [.int 0, .int 0, .int 0, .int 0, .null])), o3 a_r a_t a_s x_size x_place x_sc x_num x_ca, aI G a_s 120 f]) hD hS hA [0, 1, 2] rfl
  have hM := c_X7_init l G ct h a_r a_t a_s x_size x_place x_sc x_num x_ca f l1 l2 l3 hT h0 h1 H.size
  refine cl_n (wr := []) hP hD hS hFc [0, 1, 2] [] rfl rfl (by decide) (by decide) (va_runI (As := [.int l1, .int l2, .int l3, .ref a_r]) (rest := []) ⟨hx, hb, hml, hown, hts⟩ hM (cwI 4 hts gX0_init_X7_init rfl rfl rfl (hts (.initialized RX7) (by decide +kernel)) (hts (.methodLink RX0 3 yX7_init) (by decide +kernel)) (hts (.instanceMethod yX7_init) (by decide +kernel)) rfl (by decide +kernel) ⟨Nat.le_of_ble_eq_true rfl, Nat.le_of_ble_eq_true rfl⟩) (cp_S hK hE hS hP hD hFc) rfl rfl hl.1 rfl (lv_room (Nat.le_of_ble_eq_true rfl)) dX0_init_6 ⟨Nat.le_of_ble_eq_true rfl, Nat.le_of_ble_eq_true rfl⟩) (fun q H locs hP hD hS => ?_)
  refine W.widen (k := 1) (n := 120) (Nat.le_of_ble_eq_true rfl) (Nat.le_of_ble_eq_true rfl) ?_
  exact cm_retn (w1 := w1_law G ct h a_r a_t a_s x_size x_place x_sc x_num x_ca f l1 l2 l3) q hx hb hr hlk hK hP hD hS dX0_init_9
abbrev rm_X1_init : Room := { frames := 4, cells := 1, slots := 120, locals := 148 }
set_option maxHeartbeats 4000000 in
set_option maxRecDepth 100000 in
theorem c_X1_init (l : Launch) (G : GG) (ct h a_r a_t a_s : Nat) (x_size x_place x_sc x_num x_ca : Int32) (f : Nat → Int32) (l1 l2 l3 : Int32) (hT : isT ct) (h0 : ¬ x_sc < 0) (h1 : x_sc < 120) : CMn l yX1_init wsX1_init rm_X1_init G [(h, .inr (ct, [.int 0, .int 0, .int 0, .int 0, .null])), o3 a_r a_t a_s x_size x_place x_sc x_num x_ca, aI G a_s 120 f] (w1_law G ct h a_r a_t a_s x_size x_place x_sc x_num x_ca f l1 l2 l3) [.ref h, .int l1, .int l2, .int l3, .ref a_r] 1 120 := by
  refine cm_start (cc := cX1_init) (maxL := 5) (ret := none) (Qc := fun A => QN G (w1_law G ct h a_r a_t a_s x_size x_place x_sc x_num x_ca f l1 l2 l3) A) (by decide +kernel) rfl (Nat.le_of_ble_eq_true rfl) ?_
  intro p e s m args below meth c A hx hb hr hlk hml hown hnm hts hA H locs hP hK hD hE hS ls hl
  have hown : s.vm.findClass RX1 = some m.cls := hown
  have hl : lv_has ls 5 [(0, .ref h), (1, .int l1), (2, .int l2), (3, .int l3), (4, .ref a_r)] := hl
  refine lv_aload_n hx hb dX1_init_0 rfl (lv_at hl 0 rfl) ?_
  refine lv_iload_n hx hb dX1_init_1 rfl (lv_at hl 1 rfl) ?_
  refine lv_iload_n hx hb dX1_init_2 rfl (lv_at hl 2 rfl) ?_
  refine lv_iload_n hx hb dX1_init_3 rfl (lv_at hl 3 rfl) ?_
  refine lv_aload hx hb dX1_init_4 (lv_at hl 4 rfl) ?_
  have hFc := va_free (wc := [(h, .inr (ct, [.int 0, .int 0, .int 0, .int 0, .null])), o3 a_r a_t a_s x_size x_place x_sc x_num x_ca, aI G a_s 120 f]) hD hS hA [0, 1, 2] rfl
  have hM := c_X0_init l G ct h a_r a_t a_s x_size x_place x_sc x_num x_ca f l1 l2 l3 hT h0 h1 H.size
  refine cl_n (wr := []) hP hD hS hFc [0, 1, 2] [] rfl rfl (by decide) (by decide) (va_runI (As := [.int l1, .int l2, .int l3, .ref a_r]) (rest := []) ⟨hx, hb, hml, hown, hts⟩ hM (cwI 4 hts gX1_init_X0_init rfl rfl rfl (hts (.initialized RX0) (by decide +kernel)) (hts (.methodLink RX1 1 yX0_init) (by decide +kernel)) (hts (.instanceMethod yX0_init) (by decide +kernel)) rfl (by decide +kernel) ⟨Nat.le_of_ble_eq_true rfl, Nat.le_of_ble_eq_true rfl⟩) (cp_S hK hE hS hP hD hFc) rfl rfl hl.1 rfl (lv_room (Nat.le_of_ble_eq_true rfl)) dX1_init_6 ⟨Nat.le_of_ble_eq_true rfl, Nat.le_of_ble_eq_true rfl⟩) (fun q H locs hP hD hS => ?_)
  refine W.widen (k := 1) (n := 120) (Nat.le_of_ble_eq_true rfl) (Nat.le_of_ble_eq_true rfl) ?_
  exact cm_retn (w1 := w1_law G ct h a_r a_t a_s x_size x_place x_sc x_num x_ca f l1 l2 l3) q hx hb hr hlk hK hP hD hS dX1_init_9
abbrev rm_X5_init : Room := { frames := 3, cells := 1, slots := 120, locals := 124 }
set_option maxHeartbeats 4000000 in
set_option maxRecDepth 100000 in
theorem c_X5_init (l : Launch) (G : GG) (ct h a_r a_t a_s : Nat) (x_size x_place x_sc x_num x_ca : Int32) (f : Nat → Int32) (l1 l2 l3 : Int32) (hT : isT ct) (h0 : ¬ x_sc < 0) (h1 : x_sc < 120) : CMn l yX5_init wsX5_init rm_X5_init G [(h, .inr (ct, [.int 0, .int 0, .int 0, .int 0, .null])), o3 a_r a_t a_s x_size x_place x_sc x_num x_ca, aI G a_s 120 f] (w1_law G ct h a_r a_t a_s x_size x_place x_sc x_num x_ca f l1 l2 l3) [.ref h, .int l1, .int l2, .int l3, .ref a_r] 1 120 := by
  refine cm_start (cc := cX5_init) (maxL := 5) (ret := none) (Qc := fun A => QN G (w1_law G ct h a_r a_t a_s x_size x_place x_sc x_num x_ca f l1 l2 l3) A) (by decide +kernel) rfl (Nat.le_of_ble_eq_true rfl) ?_
  intro p e s m args below meth c A hx hb hr hlk hml hown hnm hts hA H locs hP hK hD hE hS ls hl
  have hown : s.vm.findClass RX5 = some m.cls := hown
  have hl : lv_has ls 5 [(0, .ref h), (1, .int l1), (2, .int l2), (3, .int l3), (4, .ref a_r)] := hl
  refine lv_aload_n hx hb dX5_init_0 rfl (lv_at hl 0 rfl) ?_
  refine lv_iload_n hx hb dX5_init_1 rfl (lv_at hl 1 rfl) ?_
  refine lv_iload_n hx hb dX5_init_2 rfl (lv_at hl 2 rfl) ?_
  refine lv_iload_n hx hb dX5_init_3 rfl (lv_at hl 3 rfl) ?_
  refine lv_aload hx hb dX5_init_4 (lv_at hl 4 rfl) ?_
  have hFc := va_free (wc := [(h, .inr (ct, [.int 0, .int 0, .int 0, .int 0, .null])), o3 a_r a_t a_s x_size x_place x_sc x_num x_ca, aI G a_s 120 f]) hD hS hA [0, 1, 2] rfl
  have hM := c_X7_init l G ct h a_r a_t a_s x_size x_place x_sc x_num x_ca f l1 l2 l3 hT h0 h1 H.size
  refine cl_n (wr := []) hP hD hS hFc [0, 1, 2] [] rfl rfl (by decide) (by decide) (va_runI (As := [.int l1, .int l2, .int l3, .ref a_r]) (rest := []) ⟨hx, hb, hml, hown, hts⟩ hM (cwI 4 hts gX5_init_X7_init rfl rfl rfl (hts (.initialized RX7) (by decide +kernel)) (hts (.methodLink RX5 3 yX7_init) (by decide +kernel)) (hts (.instanceMethod yX7_init) (by decide +kernel)) rfl (by decide +kernel) ⟨Nat.le_of_ble_eq_true rfl, Nat.le_of_ble_eq_true rfl⟩) (cp_S hK hE hS hP hD hFc) rfl rfl hl.1 rfl (lv_room (Nat.le_of_ble_eq_true rfl)) dX5_init_6 ⟨Nat.le_of_ble_eq_true rfl, Nat.le_of_ble_eq_true rfl⟩) (fun q H locs hP hD hS => ?_)
  refine W.widen (k := 1) (n := 120) (Nat.le_of_ble_eq_true rfl) (Nat.le_of_ble_eq_true rfl) ?_
  exact cm_retn (w1 := w1_law G ct h a_r a_t a_s x_size x_place x_sc x_num x_ca f l1 l2 l3) q hx hb hr hlk hK hP hD hS dX5_init_9
