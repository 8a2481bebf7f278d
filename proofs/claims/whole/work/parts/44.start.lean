/-! what holds at the law's entry -/
theorem inT_X0 : ∀ w ∈ wsX00, w ∈ lw_tbl := fun w h => (goodIn_r (big := lw_tbl) _ [551, 552, 553, 554, 555] (by decide +kernel) (by decide +kernel) w h).1
theorem inT_X1 : ∀ w ∈ wsX10, w ∈ lw_tbl := fun w h => (goodIn_r (big := lw_tbl) _ [563, 564, 565, 566, 567] (by decide +kernel) (by decide +kernel) w h).1
theorem inT_X2 : ∀ w ∈ wsX20, w ∈ lw_tbl := fun w h => (goodIn_r (big := lw_tbl) _ [218, 220, 222, 224, 226, 228, 230, 232] (by decide +kernel) (by decide +kernel) w h).1
theorem inT_X3 : ∀ w ∈ wsX30, w ∈ lw_tbl := fun w h => (goodIn_r (big := lw_tbl) _ [174, 176, 178, 180, 182, 184, 186] (by decide +kernel) (by decide +kernel) w h).1
theorem inT_X4 : ∀ w ∈ wsX40, w ∈ lw_tbl := fun w h => (goodIn_r (big := lw_tbl) _ [587, 588, 589, 590, 591] (by decide +kernel) (by decide +kernel) w h).1
theorem inT_X5 : ∀ w ∈ wsX50, w ∈ lw_tbl := fun w h => (goodIn_r (big := lw_tbl) _ [575, 576, 577, 578, 579] (by decide +kernel) (by decide +kernel) w h).1
theorem inT_X6 : ∀ w ∈ wsX60, w ∈ lw_tbl := fun w h => (goodIn_r (big := lw_tbl) _ [127, 129, 131, 133, 135, 137, 139, 141, 143, 145, 147, 149, 151, 153] (by decide +kernel) (by decide +kernel) w h).1
theorem inT_X7 : ∀ w ∈ wsX70, w ∈ lw_tbl := fun w h => (goodIn_r (big := lw_tbl) _ [596, 597, 598, 599, 600] (by decide +kernel) (by decide +kernel) w h).1
theorem inT_X8 : ∀ w ∈ wsX80, w ∈ lw_tbl := fun w h => (goodIn_r (big := lw_tbl) _ [245, 247] (by decide +kernel) (by decide +kernel) w h).1
theorem inT_X9 : ∀ w ∈ wsX90, w ∈ lw_tbl := fun w h => (goodIn_r (big := lw_tbl) _ [521, 523, 525, 527, 529] (by decide +kernel) (by decide +kernel) w h).1
theorem inT_X10 : ∀ w ∈ wsX100, w ∈ lw_tbl := fun w h => (goodIn_r (big := lw_tbl) _ [539, 540, 541, 542, 543] (by decide +kernel) (by decide +kernel) w h).1
theorem inT_X11 : ∀ w ∈ wsX110, w ∈ lw_tbl := fun w h => (goodIn_r (big := lw_tbl) _ [256, 258, 260, 262, 264, 266] (by decide +kernel) (by decide +kernel) w h).1
theorem inT_X12 : ∀ w ∈ wsX120, w ∈ lw_tbl := fun w h => (goodIn_r (big := lw_tbl) _ [914, 916, 918, 920, 922, 924, 926, 928, 930, 932, 934, 936, 938, 940, 942, 944, 946, 948, 950, 952, 954, 956] (by decide +kernel) (by decide +kernel) w h).1
theorem law_K {s : State} {b : Nat} (hts : ∀ w ∈ lw_tbl, w.before #[Value.ref b] s = true) : ∃ (D : va_G) (t : ClassId × ClassId × ClassId), va_K D vwCl [(t.1, .int), (t.2.1, .boolean), (t.2.2, .object "HeadsByHair$Throw")] s := by
  obtain ⟨c0, i0, k0⟩ := u_known (C := RX0) (T := TX0) (N := 5) (n := 5) hts inT_X0 (hts (.instantiable RX0 5) (List.mem_of_getElem? (i := 546) (by decide +kernel)))
  obtain ⟨c1, i1, k1⟩ := u_known (C := RX1) (T := TX1) (N := 5) (n := 5) hts inT_X1 (hts (.instantiable RX1 5) (List.mem_of_getElem? (i := 558) (by decide +kernel)))
  obtain ⟨c2, i2, k2⟩ := u_known (C := RX2) (T := TX2) (N := 8) (n := 8) hts inT_X2 (hts (.instantiable RX2 8) (List.mem_of_getElem? (i := 190) (by decide +kernel)))
  obtain ⟨c3, i3, k3⟩ := u_known (C := RX3) (T := TX3) (N := 7) (n := 7) hts inT_X3 (hts (.instantiable RX3 7) (List.mem_of_getElem? (i := 158) (by decide +kernel)))
  obtain ⟨c4, i4, k4⟩ := u_known (C := RX4) (T := TX4) (N := 5) (n := 5) hts inT_X4 (hts (.instantiable RX4 5) (List.mem_of_getElem? (i := 582) (by decide +kernel)))
  obtain ⟨c5, i5, k5⟩ := u_known (C := RX5) (T := TX5) (N := 5) (n := 5) hts inT_X5 (hts (.instantiable RX5 5) (List.mem_of_getElem? (i := 570) (by decide +kernel)))
  obtain ⟨c6, i6, k6⟩ := u_known (C := RX6) (T := TX6) (N := 14) (n := 14) hts inT_X6 (hts (.instantiable RX6 14) (List.mem_of_getElem? (i := 92) (by decide +kernel)))
  obtain ⟨c7, i7, k7⟩ := u_known (C := RX7) (T := TX7) (N := 5) (n := 5) hts inT_X7 (hts (.instantiable RX7 5) (List.mem_of_getElem? (i := 594) (by decide +kernel)))
  obtain ⟨c8, i8, k8⟩ := u_known (C := RX8) (T := TX8) (N := 2) (n := 2) hts inT_X8 (hts (.instantiable RX8 2) (List.mem_of_getElem? (i := 236) (by decide +kernel)))
  obtain ⟨c9, i9, k9⟩ := u_known (C := RX9) (T := TX9) (N := 5) (n := 5) hts inT_X9 (hts (.instantiable RX9 5) (List.mem_of_getElem? (i := 480) (by decide +kernel)))
  obtain ⟨c10, i10, k10⟩ := u_known (C := RX10) (T := TX10) (N := 5) (n := 5) hts inT_X10 (hts (.instantiable RX10 5) (List.mem_of_getElem? (i := 534) (by decide +kernel)))
  obtain ⟨c11, i11, k11⟩ := u_known (C := RX11) (T := TX11) (N := 6) (n := 6) hts inT_X11 (hts (.instantiable RX11 6) (List.mem_of_getElem? (i := 84) (by decide +kernel)))
  obtain ⟨c12, i12, k12⟩ := u_known (C := RX12) (T := TX12) (N := 22) (n := 22) hts inT_X12 (hts (.instantiable RX12 22) (List.mem_of_getElem? (i := 888) (by decide +kernel)))
  obtain ⟨ci, ki, ca, hi1, hi2, hi3⟩ := Cond.arrayClass_spec (hts (.arrayClass .int) (List.mem_of_getElem? (i := 156) (by decide +kernel)))
  obtain ⟨cz, kz, cb, hz1, hz2, hz3⟩ := Cond.arrayClass_spec (hts (.arrayClass .boolean) (List.mem_of_getElem? (i := 959) (by decide +kernel)))
  obtain ⟨comp, cT, kT, ht1, ht2, ht3, ht4, ht5⟩ := Cond.arrayOver_spec (hts (.arrayOver (.object "HeadsByHair$Throw")) (List.mem_of_getElem? (i := 98) (by decide +kernel)))
  refine ⟨(fun k => match k with | 0 => c0 | 1 => c1 | 2 => c2 | 3 => c3 | 4 => c4 | 5 => c5 | 6 => c6 | 7 => c7 | 8 => c8 | 9 => c9 | 10 => c10 | 11 => c11 | _ => c12, fun k => match k with | 0 => i0 | 1 => i1 | 2 => i2 | 3 => i3 | 4 => i4 | 5 => i5 | 6 => i6 | 7 => i7 | 8 => i8 | 9 => i9 | 10 => i10 | 11 => i11 | _ => i12), (ci, cz, cT), ?_, ?_⟩
  · intro c q hq
    match c, hq with
    | 0, hq => cases hq; exact k0
    | 1, hq => cases hq; exact k1
    | 2, hq => cases hq; exact k2
    | 3, hq => cases hq; exact k3
    | 4, hq => cases hq; exact k4
    | 5, hq => cases hq; exact k5
    | 6, hq => cases hq; exact k6
    | 7, hq => cases hq; exact k7
    | 8, hq => cases hq; exact k8
    | 9, hq => cases hq; exact k9
    | 10, hq => cases hq; exact k10
    | 11, hq => cases hq; exact k11
    | 12, hq => cases hq; exact k12
    | n + 13, hq => simp at hq
  · intro k q hq
    match k, hq with
    | 0, hq => cases hq; exact ⟨fun N z => ⟨(fun k h => by cases h), ki, hi2, ca, hi3⟩, hi1⟩
    | 1, hq => cases hq; exact ⟨fun N z => ⟨(fun k h => by cases h), kz, hz2, cb, hz3⟩, hz1⟩
    | 2, hq => cases hq; exact ⟨fun N z => ⟨(fun k h => by cases h), kT, ht3, comp, ht4⟩, kT, comp, ht3, ht4, ht1, ht5⟩
    | n + 3, hq => simp at hq
theorem nw_mem : ∀ w ∈ nw_list, w ∈ lw_tbl := fun w h => by
  have e : nw_list = ([93, 99, 101, 104, 105, 108, 110, 112, 114, 116, 118, 120, 122, 124, 126, 159, 165, 168, 169, 172, 191, 196, 197, 199, 200, 202, 204, 206, 208, 209, 210, 211, 213, 214, 215, 217, 237, 242, 244, 292, 300, 320, 471, 618, 642, 650, 694, 794, 803, 809, 817, 822, 839, 849, 870, 496, 1224, 1225, 1226, 1227, 1228, 1229, 1230, 1231, 1232, 1233, 665, 666, 657, 658, 638, 639, 640, 74, 75, 798, 799, 592, 544, 531, 840, 841, 801, 831, 641, 802, 796, 66, 29, 797, 243, 241, 804, 788, 531, 786, 74, 808, 504, 245, 247, 551, 552, 553, 554, 555, 563, 564, 565, 566, 567, 587, 588, 589, 590, 591, 575, 576, 577, 578, 579, 596, 597, 598, 599, 600, 521, 523, 525, 527, 529, 539, 540, 541, 542, 543, 853, 796, 66, 29, 797, 243, 241, 854, 813, 811, 814, 815, 79, 816, 818, 556, 811, 74, 828, 507, 829, 788, 789, 786, 808, 504, 790, 786, 791, 792, 82, 793, 505, 506, 805, 829, 787, 806, 801, 75, 802, 804, 531, 807, 819, 820, 80, 821, 512, 513, 823, 1223, 568, 824, 825, 854, 812, 826, 827, 245, 247, 551, 552, 553, 554, 555, 563, 564, 565, 566, 567, 587, 588, 589, 590, 591, 575, 576, 577, 578, 579, 596, 597, 598, 599, 600, 521, 523, 525, 527, 529, 539, 540, 541, 542, 543] : List Nat).filterMap (fun i => lw_tbl[i]?) := by decide +kernel
  rw [e] at h
  obtain ⟨i, -, hi⟩ := List.mem_filterMap.mp h
  exact List.mem_of_getElem? hi
theorem nw_on : nw_list.all (fun w => w.onTables) = true := by decide +kernel
theorem nc_in : nc_list.all (fun q => decide (Cond.not (.castable q.1 q.2) ∈ flatC (Cond.and given_1 narrow_1))) = true := by decide +kernel
abbrev jsT (i : Nat) : Term := .string (js i).1 (js i).2.1
abbrev jsV (i : Nat) : Term := .field (jsT i) "java/lang/String" "value" "[B"
def jsC (i : Nat) : List Cond := .exactly (jsT i) "java/lang/String" :: .eq (.field (jsT i) "java/lang/String" "coder" "B") (.int 0) :: .arrayOf (jsV i) .byte :: .eq (.length (jsV i)) (.int (Int32.ofNat (js_len i))) :: (List.range (js_len i)).map (fun j => .eq (.elem (jsV i) (.int (Int32.ofNat j))) (.int (js_b i j)))
theorem jsC_in : (List.range nJS).all (fun i => (jsC i).all (fun w => decide (w ∈ flatC (Cond.and given_1 narrow_1)))) = true := by decide +kernel
theorem jsR_in : (List.range nJS).all (fun i => decide (Cond.stringRef (js i).1 (js i).2.1 (js i).2.2.1 ∈ lw_tbl)) = true := by decide +kernel
theorem jsL_ok : (List.range nJS).all (fun i => decide (js_len i < 20)) = true := by decide +kernel
theorem js_one {s : State} {args : Array Value} {A : Nat → Prop} (hs : ∀ w ∈ flatC (Cond.and given_1 narrow_1), w.before args s = true) (hA : ∀ a : Nat, a < s.heap.size → ¬ A a) (i : Nat) (hi : i < nJS) :
    ∃ a v : Nat, (jsT i).eval args s none [] s = some (.ref a) ∧ va_O "java/lang/String" a A s s.heap ∧ va_OF "java/lang/String" "coder" "B" (.int 0) a A s s.heap ∧ va_OF "java/lang/String" "value" "[B" (.ref v) a A s s.heap ∧ va_T .byte v (js_len i) (fun j => .int (js_b i j)) A s s.heap := by
  have hm : ∀ w ∈ jsC i, w.before args s = true := fun w hw => hs w (of_decide_eq_true (List.all_eq_true.mp (List.all_eq_true.mp jsC_in i (List.mem_range.mpr hi)) w hw))
  have hl : js_len i < 20 := of_decide_eq_true (List.all_eq_true.mp jsL_ok i (List.mem_range.mpr hi))
  obtain ⟨adK, adV, h1, h2⟩ := vk_Sof (args := args) (s := s) (N := 1) (tm := fun _ => jsT i) (len := [js_len i]) (byt := [(js i).2.2.2]) (A := A)
    (fun k hk => by obtain rfl : k = 0 := by omega
                    show js_len i < 2 ^ 31
                    omega)
    (fun k hk => hm _ List.mem_cons_self)
    (fun k hk => hm _ (List.mem_cons_of_mem _ List.mem_cons_self))
    (fun k hk => hm _ (List.mem_cons_of_mem _ (List.mem_cons_of_mem _ List.mem_cons_self)))
    (fun k hk => by obtain rfl : k = 0 := by omega
                    exact hm _ (List.mem_cons_of_mem _ (List.mem_cons_of_mem _ (List.mem_cons_of_mem _ List.mem_cons_self))))
    (fun k hk j hj => by obtain rfl : k = 0 := by omega
                         exact hm _ (List.mem_cons_of_mem _ (List.mem_cons_of_mem _ (List.mem_cons_of_mem _ (List.mem_cons_of_mem _ (List.mem_map.mpr ⟨j, List.mem_range.mpr hj, rfl⟩))))))
    (fun k j hk hj hne => absurd (show k = j by omega) hne) hA
  obtain ⟨a1, a2, a3, a4⟩ := h1.1 0 (by decide)
  exact ⟨adK 0, adV 0, h2 0 (by decide), a1, a2, a3, a4⟩
theorem law_EV {s : State} {b : Nat} {A : Nat → Prop} (hA : ∀ a : Nat, a < s.heap.size → ¬ A a) (hts : ∀ w ∈ lw_tbl, w.before #[Value.ref b] s = true) (hgv : (Jvm.Cond.and given_1 narrow_1).before #[Value.ref b] s = true) : ∃ k v : Nat → Nat, ∀ (D : va_G) (t : ClassId × ClassId × ClassId), EV (D, t, k, v) A s s.heap := by
  have hs := flat_of_before _ hgv
  have h0 : ∀ i : Nat, ∃ q : Nat × Nat, i < nJS → (jsT i).eval #[Value.ref b] s none [] s = some (.ref q.1) ∧ va_O "java/lang/String" q.1 A s s.heap ∧ va_OF "java/lang/String" "coder" "B" (.int 0) q.1 A s s.heap ∧ va_OF "java/lang/String" "value" "[B" (.ref q.2) q.1 A s s.heap ∧ va_T .byte q.2 (js_len i) (fun j => .int (js_b i j)) A s s.heap := by
    intro i
    by_cases hi : i < nJS
    · obtain ⟨a, v, h⟩ := js_one hs hA i hi
      exact ⟨(a, v), fun _ => h⟩
    · exact ⟨(0, 0), fun h => absurd h hi⟩
  obtain ⟨q, hq⟩ := Classical.axiomOfChoice h0
  refine ⟨fun i => (q i).1, fun i => (q i).2, fun D t => ⟨fun w hw => va_Nw.of (List.all_eq_true.mp nw_on w hw) (hts w (nw_mem w hw)), fun x hx => va_Nc.of (hs _ (of_decide_eq_true (List.all_eq_true.mp nc_in x hx))), fun i hi => (hq i hi).2, fun i hi => vk_R.of (A := #[Value.ref b]) (hts _ (of_decide_eq_true (List.all_eq_true.mp jsR_in i (List.mem_range.mpr hi)))) (hq i hi).1, ?_, ?_, ?_⟩⟩
  · exact va_Zof (hts (.laysStatic "java/lang/String" "COMPACT_STRINGS" "Z") (List.mem_of_getElem? (i := 353) (by decide +kernel))) (hts (.initialized "java/lang/String") (List.mem_of_getElem? (i := 69) (by decide +kernel))) (va_eqt (hs (Cond.eq (.static "java/lang/String" "COMPACT_STRINGS" "Z") (.int 1)) (by decide +kernel))) hA
  · exact va_Zqof (hts (.laysStatic "jdk/internal/util/Preconditions" "SIOOBE_FORMATTER" "Ljava/util/function/BiFunction;") (List.mem_of_getElem? (i := 369) (by decide +kernel))) (hts (.initialized "jdk/internal/util/Preconditions") (List.mem_of_getElem? (i := 71) (by decide +kernel))) (hs (Cond.isRef (.static "jdk/internal/util/Preconditions" "SIOOBE_FORMATTER" "Ljava/util/function/BiFunction;")) (by decide +kernel)) hA
  · exact va_AO.of (hts (.arrayOver (.object "HeadsByHair$Throw")) (List.mem_of_getElem? (i := 98) (by decide +kernel)))
