/-! the law's cases: heads, steady, worth -/
set_option maxHeartbeats 4000000 in
set_option maxRecDepth 100000 in
theorem k_heads {p : Program} {l : Launch} {e : Env} {s : State} {m : MethodId} {below : List Frame} {meth : Method} {c : Code} {G : GG} {b L : Nat} {xs : Nat → Int32} {ad : Nat → Nat} {Q : State → Prop} {cells slots : Nat} {H : Heap} {locs : List Loc} {ls : Array Slot} {i : Int32} (C0 : lw_At p s m meth c b L xs) (hK : va_K G.1 vwCl (TY G) s) (hE : EV G (fun q : Nat => s.heap.size ≤ q) s s.heap) (hce : cells + 2 ≤ 600000) (hsl : slots + 125 ≤ 7302250) (hl : lv_has ls 4 [(0, .ref b), (1, .ref (ad 0)), (2, .ref (ad 26)), (3, .int i)]) (in1 : vp_in (i + 1) L) (in2 : vp_in (i + 2) L) (in3 : vp_in (i + 3) L) (in4 : vp_in (i + 4) L) (in5 : vp_in (i + 5) L) (y1 y2 y3 y4 y5 : Int32) (e1 : xs (i + 1).toNatClampNeg = y1) (e2 : xs (i + 2).toNatClampNeg = y2) (e3 : xs (i + 3).toNatClampNeg = y3) (e4 : xs (i + 4).toNatClampNeg = y4) (e5 : xs (i + 5).toNatClampNeg = y5) (Ls : List LR) (nc nh nl nb ns : Nat) (al be ed : Nat → Int32) (lw : Nat → Option Nat) (ri sd ta th wa f : Nat → Int32) (ik kc kh kl kb ks : Int32) (kal kbe ked : Nat → Int32) (klw : Nat → Option Nat) (kri ksd kta kth kwa fi : Nat → Int32) (tx : Nat) (r1 r2 r3 r4 r5 : Int32) (rst : Nat → Int32) (g1 g2 g3 g4 g5 g6 g7 g8 : Int32) (ra : Nat) (bo : Nat → Int32) (m0 m1 m2 m3 m4 m5 m6 m7 m8 s1 s2 s3 s4 s5 s6 : Int32) (fb tr : Nat → Int32) (hP : va_P G.1 vwCl ([o11 (ad 0) (ad 1) (ad 2) ik (ad 3) (ad 4) (ad 5), o6 (ad 1) (nI nc) (nI nh) (nI nl) (nI nb) (nI ns) (ad 6) (ad 7) (ad 8) (ad 9) (ad 10) (ad 11) (ad 12) (ad 13) (ad 14), o6 (ad 2) kc kh kl kb ks (ad 15) (ad 16) (ad 17) (ad 18) (ad 19) (ad 20) (ad 21) (ad 22) (ad 23), o3 (ad 3) tx (ad 24) r1 r2 r3 r4 r5, o2 (ad 4) g1 g2 g3 g4 g5 g6 g7 g8, o8 (ad 5) (ad 25) (nI ra), aI G (ad 6) 6 ed, aI G (ad 7) 6 be, aI G (ad 8) 6 ri, aI G (ad 9) 6 wa, aI G (ad 10) 36 th, aI G (ad 11) 36 al, aT G (ad 12) 8 lw, aI G (ad 13) 120 ta, aI G (ad 14) 16 sd, aI G (ad 15) 6 ked, aI G (ad 16) 6 kbe, aI G (ad 17) 6 kri, aI G (ad 18) 6 kwa, aI G (ad 19) 36 kth, aI G (ad 20) 36 kal, aT G (ad 21) 8 klw, aI G (ad 22) 120 kta, aI G (ad 23) 16 ksd, aI G (ad 24) 120 rst, aI G (ad 25) 20 bo, o12 (ad 26) m0 (ad 27) (ad 28) ik m1 m2 m3 m4 m5 (ad 29) (ad 30) s1 s2 s3 s4 s5 s6 (ad 31) (nI ra) m6 m7 m8, aI G (ad 27) 1394 f, aI G (ad 28) 1394 fi, aI G (ad 29) 5 fb, aZ G (ad 30) 64 tr, aI G (ad 31) 20 bo] ++ LW G Ls) H) (hD : va_D (fun q : Nat => s.heap.size ≤ q) ([o11 (ad 0) (ad 1) (ad 2) ik (ad 3) (ad 4) (ad 5), o6 (ad 1) (nI nc) (nI nh) (nI nl) (nI nb) (nI ns) (ad 6) (ad 7) (ad 8) (ad 9) (ad 10) (ad 11) (ad 12) (ad 13) (ad 14), o6 (ad 2) kc kh kl kb ks (ad 15) (ad 16) (ad 17) (ad 18) (ad 19) (ad 20) (ad 21) (ad 22) (ad 23), o3 (ad 3) tx (ad 24) r1 r2 r3 r4 r5, o2 (ad 4) g1 g2 g3 g4 g5 g6 g7 g8, o8 (ad 5) (ad 25) (nI ra), aI G (ad 6) 6 ed, aI G (ad 7) 6 be, aI G (ad 8) 6 ri, aI G (ad 9) 6 wa, aI G (ad 10) 36 th, aI G (ad 11) 36 al, aT G (ad 12) 8 lw, aI G (ad 13) 120 ta, aI G (ad 14) 16 sd, aI G (ad 15) 6 ked, aI G (ad 16) 6 kbe, aI G (ad 17) 6 kri, aI G (ad 18) 6 kwa, aI G (ad 19) 36 kth, aI G (ad 20) 36 kal, aT G (ad 21) 8 klw, aI G (ad 22) 120 kta, aI G (ad 23) 16 ksd, aI G (ad 24) 120 rst, aI G (ad 25) 20 bo, o12 (ad 26) m0 (ad 27) (ad 28) ik m1 m2 m3 m4 m5 (ad 29) (ad 30) s1 s2 s3 s4 s5 s6 (ad 31) (nI ra) m6 m7 m8, aI G (ad 27) 1394 f, aI G (ad 28) 1394 fi, aI G (ad 29) 5 fb, aZ G (ad 30) 64 tr, aI G (ad 31) 20 bo] ++ LW G Ls)) (hS : va_S (fun q : Nat => s.heap.size ≤ q) s.heap H locs) (hSS : SS Ls nc nh nl nb ns al be ed lw ri sd ta th wa f) (hKP : KP Ls ik kc kh kl kb ks kal kbe ked klw kri ksd kta kth kwa fi) (hra : ra ≤ 1000) (hTs : ∀ r ∈ Ls, isT r.1) (kk : ∀ (H : Heap) (locs : List Loc), INV G (fun q : Nat => s.heap.size ≤ q) s ad H locs → W p l e room_1 s m #[Value.ref b] below meth c H locs (cells + 2) (slots + 125) Q (F0 m 1190 ls [])) : W p l e room_1 s m #[Value.ref b] below meth c H locs cells slots Q (F0 m 617 ls []) := by
  obtain ⟨hx, hb, hr, hml, hown, hts, hX, hbl, hlocks, hgv⟩ := C0
  have hown : s.vm.findClass RL = some m.cls := hown
  have hb : c.code = cL_law := hb
  have hA : ∀ q : Nat, s.heap.size ≤ q → (fun q : Nat => s.heap.size ≤ q) q := fun _ h => h
  have hbA : ¬ (fun q : Nat => s.heap.size ≤ q) b := Nat.not_le.mpr hbl
  have hf0 : cells + 0 ≤ room_1.cells ∧ slots + 0 ≤ room_1.slots := ⟨show cells + 0 ≤ 600000 by omega, show slots + 0 ≤ 7302250 by omega⟩
  rcases p_lawOf hSS y1 with ⟨hw, hlaw⟩ | ⟨hw, k, r, hk, hk8, ek, hrm, hr, hlaw⟩
  · obtain ⟨z, ⟨t1, t2, t3, t4, t5, t6, fb2, tr2⟩, h1, h2⟩ := p_heads_n hSS hw y2 y3 y4 y5 s1 s2 s3 s4 s5 s6 fb tr
    refine lv_aload_n hx hb dL_law_617 rfl (lv_at hl 1 rfl) ?_
    refine lv_aload_n hx hb dL_law_618 rfl (lv_at hl 0 rfl) ?_
    refine lv_iload_n hx hb dL_law_619 rfl (lv_at hl 3 rfl) ?_
    refine lv_iconst (v := 1) hx hb dL_law_620 (by decide) ?_
    refine lv_iadd hx hb dL_law_621 ?_
    refine va_sld hx hb hX hbl hbA hS in1 dL_law_622 ?_
    refine lv_eqi e1 ?_
    refine lv_aload_n hx hb dL_law_623 rfl (lv_at hl 0 rfl) ?_
    refine lv_iload_n hx hb dL_law_624 rfl (lv_at hl 3 rfl) ?_
    refine lv_iconst (v := 2) hx hb dL_law_625 (by decide) ?_
    refine lv_iadd hx hb dL_law_626 ?_
    refine va_sld hx hb hX hbl hbA hS in2 dL_law_627 ?_
    refine lv_eqi e2 ?_
    refine lv_aload_n hx hb dL_law_628 rfl (lv_at hl 0 rfl) ?_
    refine lv_iload_n hx hb dL_law_629 rfl (lv_at hl 3 rfl) ?_
    refine lv_iconst (v := 3) hx hb dL_law_630 (by decide) ?_
    refine lv_iadd hx hb dL_law_631 ?_
    refine va_sld hx hb hX hbl hbA hS in3 dL_law_632 ?_
    refine lv_eqi e3 ?_
    refine lv_aload_n hx hb dL_law_633 rfl (lv_at hl 0 rfl) ?_
    refine lv_iload_n hx hb dL_law_634 rfl (lv_at hl 3 rfl) ?_
    refine lv_iconst (v := 4) hx hb dL_law_635 (by decide) ?_
    refine lv_iadd hx hb dL_law_636 ?_
    refine va_sld hx hb hX hbl hbA hS in4 dL_law_637 ?_
    refine lv_eqi e4 ?_
    refine lv_aload_n hx hb dL_law_638 rfl (lv_at hl 0 rfl) ?_
    refine lv_iload_n hx hb dL_law_639 rfl (lv_at hl 3 rfl) ?_
    refine lv_iconst (v := 5) hx hb dL_law_640 (by decide) ?_
    refine lv_iadd hx hb dL_law_641 ?_
    refine va_sld hx hb hX hbl hbA hS in5 dL_law_642 ?_
    refine lv_eqi e5 ?_
    have hPc := hP.sub (ws' := [o11 (ad 0) (ad 1) (ad 2) ik (ad 3) (ad 4) (ad 5), o6 (ad 1) (nI nc) (nI nh) (nI nl) (nI nb) (nI ns) (ad 6) (ad 7) (ad 8) (ad 9) (ad 10) (ad 11) (ad 12) (ad 13) (ad 14), aT G (ad 12) 8 lw]) [0, 1, 12] rfl
    have hDc := hD.sub (ws' := [o11 (ad 0) (ad 1) (ad 2) ik (ad 3) (ad 4) (ad 5), o6 (ad 1) (nI nc) (nI nh) (nI nl) (nI nb) (nI ns) (ad 6) (ad 7) (ad 8) (ad 9) (ad 10) (ad 11) (ad 12) (ad 13) (ad 14), aT G (ad 12) 8 lw]) [0, 1, 12] (by decide) rfl
    have hFc := va_free (wc := [o11 (ad 0) (ad 1) (ad 2) ik (ad 3) (ad 4) (ad 5), o6 (ad 1) (nI nc) (nI nh) (nI nl) (nI nb) (nI ns) (ad 6) (ad 7) (ad 8) (ad 9) (ad 10) (ad 11) (ad 12) (ad 13) (ad 14), aT G (ad 12) 8 lw]) hD hS hA [0, 1, 12] rfl
    have hM := c_X11_heads_n l G (ad 0) (ad 1) (ad 2) (ad 3) (ad 4) (ad 5) (ad 6) (ad 7) (ad 8) (ad 9) (ad 10) (ad 11) (ad 12) (ad 13) (ad 14) ik (nI nc) (nI nh) (nI nl) (nI nb) (nI ns) lw y1 y2 y3 y4 y5 z hlaw h1 H.size
    refine cl_l (w1 := [o11 (ad 0) (ad 1) (ad 2) ik (ad 3) (ad 4) (ad 5), o6 (ad 1) (nI nc) (nI nh) (nI nl) (nI nb) (nI ns) (ad 6) (ad 7) (ad 8) (ad 9) (ad 10) (ad 11) (ad 12) (ad 13) (ad 14), aT G (ad 12) 8 lw]) (ws' := [o11 (ad 0) (ad 1) (ad 2) ik (ad 3) (ad 4) (ad 5), o6 (ad 1) (nI nc) (nI nh) (nI nl) (nI nb) (nI ns) (ad 6) (ad 7) (ad 8) (ad 9) (ad 10) (ad 11) (ad 12) (ad 13) (ad 14), o6 (ad 2) kc kh kl kb ks (ad 15) (ad 16) (ad 17) (ad 18) (ad 19) (ad 20) (ad 21) (ad 22) (ad 23), o3 (ad 3) tx (ad 24) r1 r2 r3 r4 r5, o2 (ad 4) g1 g2 g3 g4 g5 g6 g7 g8, o8 (ad 5) (ad 25) (nI ra), aI G (ad 6) 6 ed, aI G (ad 7) 6 be, aI G (ad 8) 6 ri, aI G (ad 9) 6 wa, aI G (ad 10) 36 th, aI G (ad 11) 36 al, aT G (ad 12) 8 lw, aI G (ad 13) 120 ta, aI G (ad 14) 16 sd, aI G (ad 15) 6 ked, aI G (ad 16) 6 kbe, aI G (ad 17) 6 kri, aI G (ad 18) 6 kwa, aI G (ad 19) 36 kth, aI G (ad 20) 36 kal, aT G (ad 21) 8 klw, aI G (ad 22) 120 kta, aI G (ad 23) 16 ksd, aI G (ad 24) 120 rst, aI G (ad 25) 20 bo, o12 (ad 26) m0 (ad 27) (ad 28) ik m1 m2 m3 m4 m5 (ad 29) (ad 30) s1 s2 s3 s4 s5 s6 (ad 31) (nI ra) m6 m7 m8, aI G (ad 27) 1394 f, aI G (ad 28) 1394 fi, aI G (ad 29) 5 fb, aZ G (ad 30) 64 tr, aI G (ad 31) 20 bo] ++ LW G Ls) hP hD hS hFc [0, 1, 12] rfl rfl rfl (va_runV (As := [.int y1, .int y2, .int y3, .int y4, .int y5]) (rest := []) ⟨hx, hb, hml, hown, hts⟩ hM (cwV 5 hts gT_X11_heads rfl rfl rfl (by decide +kernel) ⟨Nat.le_of_ble_eq_true rfl, Nat.le_of_ble_eq_true rfl⟩) (cp_V hK hE hS hPc hDc hFc (va_recv hK hP (ci := 11) (q0 := 0) rfl rfl)) rfl rfl hl.1 rfl (lv_room (Nat.le_of_ble_eq_true rfl)) dL_law_643 hf0) (fun H locs hP hD hS => ?_)
    refine lv_aload_n hx hb dL_law_646 rfl (lv_at hl 2 rfl) ?_
    refine lv_aload_n hx hb dL_law_647 rfl (lv_at hl 0 rfl) ?_
    refine lv_iload_n hx hb dL_law_648 rfl (lv_at hl 3 rfl) ?_
    refine lv_iconst (v := 1) hx hb dL_law_649 (by decide) ?_
    refine lv_iadd hx hb dL_law_650 ?_
    refine va_sld hx hb hX hbl hbA hS in1 dL_law_651 ?_
    refine lv_eqi e1 ?_
    refine lv_aload_n hx hb dL_law_652 rfl (lv_at hl 0 rfl) ?_
    refine lv_iload_n hx hb dL_law_653 rfl (lv_at hl 3 rfl) ?_
    refine lv_iconst (v := 2) hx hb dL_law_654 (by decide) ?_
    refine lv_iadd hx hb dL_law_655 ?_
    refine va_sld hx hb hX hbl hbA hS in2 dL_law_656 ?_
    refine lv_eqi e2 ?_
    refine lv_aload_n hx hb dL_law_657 rfl (lv_at hl 0 rfl) ?_
    refine lv_iload_n hx hb dL_law_658 rfl (lv_at hl 3 rfl) ?_
    refine lv_iconst (v := 3) hx hb dL_law_659 (by decide) ?_
    refine lv_iadd hx hb dL_law_660 ?_
    refine va_sld hx hb hX hbl hbA hS in3 dL_law_661 ?_
    refine lv_eqi e3 ?_
    refine lv_aload_n hx hb dL_law_662 rfl (lv_at hl 0 rfl) ?_
    refine lv_iload_n hx hb dL_law_663 rfl (lv_at hl 3 rfl) ?_
    refine lv_iconst (v := 4) hx hb dL_law_664 (by decide) ?_
    refine lv_iadd hx hb dL_law_665 ?_
    refine va_sld hx hb hX hbl hbA hS in4 dL_law_666 ?_
    refine lv_eqi e4 ?_
    refine lv_aload_n hx hb dL_law_667 rfl (lv_at hl 0 rfl) ?_
    refine lv_iload_n hx hb dL_law_668 rfl (lv_at hl 3 rfl) ?_
    refine lv_iconst (v := 5) hx hb dL_law_669 (by decide) ?_
    refine lv_iadd hx hb dL_law_670 ?_
    refine va_sld hx hb hX hbl hbA hS in5 dL_law_671 ?_
    refine lv_eqi e5 ?_
    have hPc := hP.sub (ws' := [o12 (ad 26) m0 (ad 27) (ad 28) ik m1 m2 m3 m4 m5 (ad 29) (ad 30) s1 s2 s3 s4 s5 s6 (ad 31) (nI ra) m6 m7 m8, aI G (ad 29) 5 fb, aI G (ad 27) 1394 f, aZ G (ad 30) 64 tr]) [26, 29, 27, 30] rfl
    have hDc := hD.sub (ws' := [o12 (ad 26) m0 (ad 27) (ad 28) ik m1 m2 m3 m4 m5 (ad 29) (ad 30) s1 s2 s3 s4 s5 s6 (ad 31) (nI ra) m6 m7 m8, aI G (ad 29) 5 fb, aI G (ad 27) 1394 f, aZ G (ad 30) 64 tr]) [26, 29, 27, 30] (by decide) rfl
    have hFc := va_free (wc := [o12 (ad 26) m0 (ad 27) (ad 28) ik m1 m2 m3 m4 m5 (ad 29) (ad 30) s1 s2 s3 s4 s5 s6 (ad 31) (nI ra) m6 m7 m8, aI G (ad 29) 5 fb, aI G (ad 27) 1394 f, aZ G (ad 30) 64 tr]) hD hS hA [26, 29, 27, 30] rfl
    have hM := c_X12_heads l G (ad 26) (ad 27) (ad 28) (ad 29) (ad 30) (ad 31) m0 ik m1 m2 m3 m4 m5 s1 s2 s3 s4 s5 s6 (nI ra) m6 m7 m8 fb f tr y1 y2 y3 y4 y5 z t1 t2 t3 t4 t5 t6 fb2 tr2 h2 H.size
    refine cl_l (w1 := [o12 (ad 26) m0 (ad 27) (ad 28) ik m1 m2 m3 m4 m5 (ad 29) (ad 30) t1 t2 t3 t4 t5 t6 (ad 31) (nI ra) m6 m7 m8, aI G (ad 29) 5 fb2, aI G (ad 27) 1394 f, aZ G (ad 30) 64 tr2]) (ws' := [o11 (ad 0) (ad 1) (ad 2) ik (ad 3) (ad 4) (ad 5), o6 (ad 1) (nI nc) (nI nh) (nI nl) (nI nb) (nI ns) (ad 6) (ad 7) (ad 8) (ad 9) (ad 10) (ad 11) (ad 12) (ad 13) (ad 14), o6 (ad 2) kc kh kl kb ks (ad 15) (ad 16) (ad 17) (ad 18) (ad 19) (ad 20) (ad 21) (ad 22) (ad 23), o3 (ad 3) tx (ad 24) r1 r2 r3 r4 r5, o2 (ad 4) g1 g2 g3 g4 g5 g6 g7 g8, o8 (ad 5) (ad 25) (nI ra), aI G (ad 6) 6 ed, aI G (ad 7) 6 be, aI G (ad 8) 6 ri, aI G (ad 9) 6 wa, aI G (ad 10) 36 th, aI G (ad 11) 36 al, aT G (ad 12) 8 lw, aI G (ad 13) 120 ta, aI G (ad 14) 16 sd, aI G (ad 15) 6 ked, aI G (ad 16) 6 kbe, aI G (ad 17) 6 kri, aI G (ad 18) 6 kwa, aI G (ad 19) 36 kth, aI G (ad 20) 36 kal, aT G (ad 21) 8 klw, aI G (ad 22) 120 kta, aI G (ad 23) 16 ksd, aI G (ad 24) 120 rst, aI G (ad 25) 20 bo, o12 (ad 26) m0 (ad 27) (ad 28) ik m1 m2 m3 m4 m5 (ad 29) (ad 30) t1 t2 t3 t4 t5 t6 (ad 31) (nI ra) m6 m7 m8, aI G (ad 27) 1394 f, aI G (ad 28) 1394 fi, aI G (ad 29) 5 fb2, aZ G (ad 30) 64 tr2, aI G (ad 31) 20 bo] ++ LW G Ls) hP hD hS hFc [26, 29, 27, 30] rfl rfl rfl (va_runV (As := [.int y1, .int y2, .int y3, .int y4, .int y5]) (rest := [.long z]) ⟨hx, hb, hml, hown, hts⟩ hM (cwV 5 hts gT_X12_heads rfl rfl rfl (by decide +kernel) ⟨Nat.le_of_ble_eq_true rfl, Nat.le_of_ble_eq_true rfl⟩) (cp_V hK hE hS hPc hDc hFc (va_recv hK hP (ci := 12) (q0 := 26) rfl rfl)) rfl rfl hl.1 rfl (lv_room (Nat.le_of_ble_eq_true rfl)) dL_law_672 hf0) (fun H locs hP hD hS => ?_)
    refine W.lcmp hx hb dL_law_675 ?_
    refine lv_if_eq (tgt := 1190) hx hb dL_law_676 (by decide) (fun _ => ?_) (fun c9 => absurd (lcmp_self _) c9)
    refine W.widen (k := cells + 2) (n := slots + 125) (by omega) (by omega) ?_
    exact kk _ _ ⟨Ls, nc, nh, nl, nb, ns, al, be, ed, lw, ri, sd, ta, th, wa, f, ik, kc, kh, kl, kb, ks, kal, kbe, ked, klw, kri, ksd, kta, kth, kwa, fi, tx, r1, r2, r3, r4, r5, rst, g1, g2, g3, g4, g5, g6, g7, g8, ra, bo, m0, m1, m2, m3, m4, m5, m6, m7, m8, t1, t2, t3, t4, t5, t6, fb2, tr2, hP, hD, hS, hSS, hKP, hra, hTs⟩
  · subst ek
    have hcq : r.1 = 0 ∨ r.1 = 1 ∨ r.1 = 4 ∨ r.1 = 5 ∨ r.1 = 7 ∨ r.1 = 9 ∨ r.1 = 10 := hTs r hrm
    obtain ⟨z, ⟨q1, q2, q3, q4, q5, q6, q7, q8⟩, ⟨t1, t2, t3, t4, t5, t6, fb2, tr2⟩, h1, h2⟩ := p_heads_s hSS hk hk8 hr hw y2 y3 y4 y5 g1 g2 g3 g4 g5 g6 g7 g8 s1 s2 s3 s4 s5 s6 fb tr
    obtain ⟨S, T, eL⟩ := List.append_of_mem hrm
    subst eL
    have hP := wP_perm (LW_out G [o11 (ad 0) (ad 1) (ad 2) ik (ad 3) (ad 4) (ad 5), o6 (ad 1) (nI nc) (nI nh) (nI nl) (nI nb) (nI ns) (ad 6) (ad 7) (ad 8) (ad 9) (ad 10) (ad 11) (ad 12) (ad 13) (ad 14), o6 (ad 2) kc kh kl kb ks (ad 15) (ad 16) (ad 17) (ad 18) (ad 19) (ad 20) (ad 21) (ad 22) (ad 23), o3 (ad 3) tx (ad 24) r1 r2 r3 r4 r5, o2 (ad 4) g1 g2 g3 g4 g5 g6 g7 g8, o8 (ad 5) (ad 25) (nI ra), aI G (ad 6) 6 ed, aI G (ad 7) 6 be, aI G (ad 8) 6 ri, aI G (ad 9) 6 wa, aI G (ad 10) 36 th, aI G (ad 11) 36 al, aT G (ad 12) 8 lw, aI G (ad 13) 120 ta, aI G (ad 14) 16 sd, aI G (ad 15) 6 ked, aI G (ad 16) 6 kbe, aI G (ad 17) 6 kri, aI G (ad 18) 6 kwa, aI G (ad 19) 36 kth, aI G (ad 20) 36 kal, aT G (ad 21) 8 klw, aI G (ad 22) 120 kta, aI G (ad 23) 16 ksd, aI G (ad 24) 120 rst, aI G (ad 25) 20 bo, o12 (ad 26) m0 (ad 27) (ad 28) ik m1 m2 m3 m4 m5 (ad 29) (ad 30) s1 s2 s3 s4 s5 s6 (ad 31) (nI ra) m6 m7 m8, aI G (ad 27) 1394 f, aI G (ad 28) 1394 fi, aI G (ad 29) 5 fb, aZ G (ad 30) 64 tr, aI G (ad 31) 20 bo] S T r) hP
    have hD := wD_perm (LW_out G [o11 (ad 0) (ad 1) (ad 2) ik (ad 3) (ad 4) (ad 5), o6 (ad 1) (nI nc) (nI nh) (nI nl) (nI nb) (nI ns) (ad 6) (ad 7) (ad 8) (ad 9) (ad 10) (ad 11) (ad 12) (ad 13) (ad 14), o6 (ad 2) kc kh kl kb ks (ad 15) (ad 16) (ad 17) (ad 18) (ad 19) (ad 20) (ad 21) (ad 22) (ad 23), o3 (ad 3) tx (ad 24) r1 r2 r3 r4 r5, o2 (ad 4) g1 g2 g3 g4 g5 g6 g7 g8, o8 (ad 5) (ad 25) (nI ra), aI G (ad 6) 6 ed, aI G (ad 7) 6 be, aI G (ad 8) 6 ri, aI G (ad 9) 6 wa, aI G (ad 10) 36 th, aI G (ad 11) 36 al, aT G (ad 12) 8 lw, aI G (ad 13) 120 ta, aI G (ad 14) 16 sd, aI G (ad 15) 6 ked, aI G (ad 16) 6 kbe, aI G (ad 17) 6 kri, aI G (ad 18) 6 kwa, aI G (ad 19) 36 kth, aI G (ad 20) 36 kal, aT G (ad 21) 8 klw, aI G (ad 22) 120 kta, aI G (ad 23) 16 ksd, aI G (ad 24) 120 rst, aI G (ad 25) 20 bo, o12 (ad 26) m0 (ad 27) (ad 28) ik m1 m2 m3 m4 m5 (ad 29) (ad 30) s1 s2 s3 s4 s5 s6 (ad 31) (nI ra) m6 m7 m8, aI G (ad 27) 1394 f, aI G (ad 28) 1394 fi, aI G (ad 29) 5 fb, aZ G (ad 30) 64 tr, aI G (ad 31) 20 bo] S T r) hD
    have hP : va_P G.1 vwCl ([o11 (ad 0) (ad 1) (ad 2) ik (ad 3) (ad 4) (ad 5), o6 (ad 1) (nI nc) (nI nh) (nI nl) (nI nb) (nI ns) (ad 6) (ad 7) (ad 8) (ad 9) (ad 10) (ad 11) (ad 12) (ad 13) (ad 14), o6 (ad 2) kc kh kl kb ks (ad 15) (ad 16) (ad 17) (ad 18) (ad 19) (ad 20) (ad 21) (ad 22) (ad 23), o3 (ad 3) tx (ad 24) r1 r2 r3 r4 r5, o2 (ad 4) g1 g2 g3 g4 g5 g6 g7 g8, o8 (ad 5) (ad 25) (nI ra), aI G (ad 6) 6 ed, aI G (ad 7) 6 be, aI G (ad 8) 6 ri, aI G (ad 9) 6 wa, aI G (ad 10) 36 th, aI G (ad 11) 36 al, aT G (ad 12) 8 lw, aI G (ad 13) 120 ta, aI G (ad 14) 16 sd, aI G (ad 15) 6 ked, aI G (ad 16) 6 kbe, aI G (ad 17) 6 kri, aI G (ad 18) 6 kwa, aI G (ad 19) 36 kth, aI G (ad 20) 36 kal, aT G (ad 21) 8 klw, aI G (ad 22) 120 kta, aI G (ad 23) 16 ksd, aI G (ad 24) 120 rst, aI G (ad 25) 20 bo, o12 (ad 26) m0 (ad 27) (ad 28) ik m1 m2 m3 m4 m5 (ad 29) (ad 30) s1 s2 s3 s4 s5 s6 (ad 31) (nI ra) m6 m7 m8, aI G (ad 27) 1394 f, aI G (ad 28) 1394 fi, aI G (ad 29) 5 fb, aZ G (ad 30) 64 tr, aI G (ad 31) 20 bo, oT r.1 r.2.1 r.2.2.1 r.2.2.2.1 r.2.2.2.2.1 r.2.2.2.2.2.1 r.2.2.2.2.2.2.1, aI G r.2.2.2.2.2.2.1 r.2.2.2.2.2.2.2.1 r.2.2.2.2.2.2.2.2] ++ LW G (S ++ T)) H := hP
    have hD : va_D (fun q : Nat => s.heap.size ≤ q) ([o11 (ad 0) (ad 1) (ad 2) ik (ad 3) (ad 4) (ad 5), o6 (ad 1) (nI nc) (nI nh) (nI nl) (nI nb) (nI ns) (ad 6) (ad 7) (ad 8) (ad 9) (ad 10) (ad 11) (ad 12) (ad 13) (ad 14), o6 (ad 2) kc kh kl kb ks (ad 15) (ad 16) (ad 17) (ad 18) (ad 19) (ad 20) (ad 21) (ad 22) (ad 23), o3 (ad 3) tx (ad 24) r1 r2 r3 r4 r5, o2 (ad 4) g1 g2 g3 g4 g5 g6 g7 g8, o8 (ad 5) (ad 25) (nI ra), aI G (ad 6) 6 ed, aI G (ad 7) 6 be, aI G (ad 8) 6 ri, aI G (ad 9) 6 wa, aI G (ad 10) 36 th, aI G (ad 11) 36 al, aT G (ad 12) 8 lw, aI G (ad 13) 120 ta, aI G (ad 14) 16 sd, aI G (ad 15) 6 ked, aI G (ad 16) 6 kbe, aI G (ad 17) 6 kri, aI G (ad 18) 6 kwa, aI G (ad 19) 36 kth, aI G (ad 20) 36 kal, aT G (ad 21) 8 klw, aI G (ad 22) 120 kta, aI G (ad 23) 16 ksd, aI G (ad 24) 120 rst, aI G (ad 25) 20 bo, o12 (ad 26) m0 (ad 27) (ad 28) ik m1 m2 m3 m4 m5 (ad 29) (ad 30) s1 s2 s3 s4 s5 s6 (ad 31) (nI ra) m6 m7 m8, aI G (ad 27) 1394 f, aI G (ad 28) 1394 fi, aI G (ad 29) 5 fb, aZ G (ad 30) 64 tr, aI G (ad 31) 20 bo, oT r.1 r.2.1 r.2.2.1 r.2.2.2.1 r.2.2.2.2.1 r.2.2.2.2.2.1 r.2.2.2.2.2.2.1, aI G r.2.2.2.2.2.2.1 r.2.2.2.2.2.2.2.1 r.2.2.2.2.2.2.2.2] ++ LW G (S ++ T)) := hD
    refine lv_aload_n hx hb dL_law_617 rfl (lv_at hl 1 rfl) ?_
    refine lv_aload_n hx hb dL_law_618 rfl (lv_at hl 0 rfl) ?_
    refine lv_iload_n hx hb dL_law_619 rfl (lv_at hl 3 rfl) ?_
    refine lv_iconst (v := 1) hx hb dL_law_620 (by decide) ?_
    refine lv_iadd hx hb dL_law_621 ?_
    refine va_sld hx hb hX hbl hbA hS in1 dL_law_622 ?_
    refine lv_eqi e1 ?_
    refine lv_aload_n hx hb dL_law_623 rfl (lv_at hl 0 rfl) ?_
    refine lv_iload_n hx hb dL_law_624 rfl (lv_at hl 3 rfl) ?_
    refine lv_iconst (v := 2) hx hb dL_law_625 (by decide) ?_
    refine lv_iadd hx hb dL_law_626 ?_
    refine va_sld hx hb hX hbl hbA hS in2 dL_law_627 ?_
    refine lv_eqi e2 ?_
    refine lv_aload_n hx hb dL_law_628 rfl (lv_at hl 0 rfl) ?_
    refine lv_iload_n hx hb dL_law_629 rfl (lv_at hl 3 rfl) ?_
    refine lv_iconst (v := 3) hx hb dL_law_630 (by decide) ?_
    refine lv_iadd hx hb dL_law_631 ?_
    refine va_sld hx hb hX hbl hbA hS in3 dL_law_632 ?_
    refine lv_eqi e3 ?_
    refine lv_aload_n hx hb dL_law_633 rfl (lv_at hl 0 rfl) ?_
    refine lv_iload_n hx hb dL_law_634 rfl (lv_at hl 3 rfl) ?_
    refine lv_iconst (v := 4) hx hb dL_law_635 (by decide) ?_
    refine lv_iadd hx hb dL_law_636 ?_
    refine va_sld hx hb hX hbl hbA hS in4 dL_law_637 ?_
    refine lv_eqi e4 ?_
    refine lv_aload_n hx hb dL_law_638 rfl (lv_at hl 0 rfl) ?_
    refine lv_iload_n hx hb dL_law_639 rfl (lv_at hl 3 rfl) ?_
    refine lv_iconst (v := 5) hx hb dL_law_640 (by decide) ?_
    refine lv_iadd hx hb dL_law_641 ?_
    refine va_sld hx hb hX hbl hbA hS in5 dL_law_642 ?_
    refine lv_eqi e5 ?_
    have hPc := hP.sub (ws' := [oT r.1 r.2.1 r.2.2.1 r.2.2.2.1 r.2.2.2.2.1 r.2.2.2.2.2.1 r.2.2.2.2.2.2.1, o11 (ad 0) (ad 1) (ad 2) ik (ad 3) (ad 4) (ad 5), o2 (ad 4) g1 g2 g3 g4 g5 g6 g7 g8, o6 (ad 1) (nI nc) (nI nh) (nI nl) (nI nb) (nI ns) (ad 6) (ad 7) (ad 8) (ad 9) (ad 10) (ad 11) (ad 12) (ad 13) (ad 14), aI G r.2.2.2.2.2.2.1 r.2.2.2.2.2.2.2.1 r.2.2.2.2.2.2.2.2, aI G (ad 7) 6 be, aI G (ad 6) 6 ed, aT G (ad 12) 8 lw, aI G (ad 8) 6 ri, aI G (ad 9) 6 wa]) [32, 0, 4, 1, 33, 7, 6, 12, 8, 9] rfl
    have hDc := hD.sub (ws' := [oT r.1 r.2.1 r.2.2.1 r.2.2.2.1 r.2.2.2.2.1 r.2.2.2.2.2.1 r.2.2.2.2.2.2.1, o11 (ad 0) (ad 1) (ad 2) ik (ad 3) (ad 4) (ad 5), o2 (ad 4) g1 g2 g3 g4 g5 g6 g7 g8, o6 (ad 1) (nI nc) (nI nh) (nI nl) (nI nb) (nI ns) (ad 6) (ad 7) (ad 8) (ad 9) (ad 10) (ad 11) (ad 12) (ad 13) (ad 14), aI G r.2.2.2.2.2.2.1 r.2.2.2.2.2.2.2.1 r.2.2.2.2.2.2.2.2, aI G (ad 7) 6 be, aI G (ad 6) 6 ed, aT G (ad 12) 8 lw, aI G (ad 8) 6 ri, aI G (ad 9) 6 wa]) [32, 0, 4, 1, 33, 7, 6, 12, 8, 9] (by decide) rfl
    have hFc := va_free (wc := [oT r.1 r.2.1 r.2.2.1 r.2.2.2.1 r.2.2.2.2.1 r.2.2.2.2.2.1 r.2.2.2.2.2.2.1, o11 (ad 0) (ad 1) (ad 2) ik (ad 3) (ad 4) (ad 5), o2 (ad 4) g1 g2 g3 g4 g5 g6 g7 g8, o6 (ad 1) (nI nc) (nI nh) (nI nl) (nI nb) (nI ns) (ad 6) (ad 7) (ad 8) (ad 9) (ad 10) (ad 11) (ad 12) (ad 13) (ad 14), aI G r.2.2.2.2.2.2.1 r.2.2.2.2.2.2.2.1 r.2.2.2.2.2.2.2.2, aI G (ad 7) 6 be, aI G (ad 6) 6 ed, aT G (ad 12) 8 lw, aI G (ad 8) 6 ri, aI G (ad 9) 6 wa]) hD hS hA [32, 0, 4, 1, 33, 7, 6, 12, 8, 9] rfl
    have hM := c_X11_heads_s l G r.1 hcq r.2.1 r.2.2.2.2.2.2.1 (ad 0) (ad 1) (ad 2) (ad 3) (ad 4) (ad 5) (ad 6) (ad 7) (ad 8) (ad 9) (ad 10) (ad 11) (ad 12) (ad 13) (ad 14) r.2.2.1 r.2.2.2.1 r.2.2.2.2.1 r.2.2.2.2.2.1 ik g1 g2 g3 g4 g5 g6 g7 g8 (nI nc) (nI nh) (nI nl) (nI nb) (nI ns) r.2.2.2.2.2.2.2.2 be ed lw ri wa r.2.2.2.2.2.2.2.1 (nI k) y2 y3 y4 y5 z q1 q2 q3 q4 q5 q6 q7 q8 hlaw h1 H.size
    refine cl_l (w1 := [oT r.1 r.2.1 r.2.2.1 r.2.2.2.1 r.2.2.2.2.1 r.2.2.2.2.2.1 r.2.2.2.2.2.2.1, o11 (ad 0) (ad 1) (ad 2) ik (ad 3) (ad 4) (ad 5), o2 (ad 4) q1 q2 q3 q4 q5 q6 q7 q8, o6 (ad 1) (nI nc) (nI nh) (nI nl) (nI nb) (nI ns) (ad 6) (ad 7) (ad 8) (ad 9) (ad 10) (ad 11) (ad 12) (ad 13) (ad 14), aI G r.2.2.2.2.2.2.1 r.2.2.2.2.2.2.2.1 r.2.2.2.2.2.2.2.2, aI G (ad 7) 6 be, aI G (ad 6) 6 ed, aT G (ad 12) 8 lw, aI G (ad 8) 6 ri, aI G (ad 9) 6 wa]) (ws' := [o11 (ad 0) (ad 1) (ad 2) ik (ad 3) (ad 4) (ad 5), o6 (ad 1) (nI nc) (nI nh) (nI nl) (nI nb) (nI ns) (ad 6) (ad 7) (ad 8) (ad 9) (ad 10) (ad 11) (ad 12) (ad 13) (ad 14), o6 (ad 2) kc kh kl kb ks (ad 15) (ad 16) (ad 17) (ad 18) (ad 19) (ad 20) (ad 21) (ad 22) (ad 23), o3 (ad 3) tx (ad 24) r1 r2 r3 r4 r5, o2 (ad 4) q1 q2 q3 q4 q5 q6 q7 q8, o8 (ad 5) (ad 25) (nI ra), aI G (ad 6) 6 ed, aI G (ad 7) 6 be, aI G (ad 8) 6 ri, aI G (ad 9) 6 wa, aI G (ad 10) 36 th, aI G (ad 11) 36 al, aT G (ad 12) 8 lw, aI G (ad 13) 120 ta, aI G (ad 14) 16 sd, aI G (ad 15) 6 ked, aI G (ad 16) 6 kbe, aI G (ad 17) 6 kri, aI G (ad 18) 6 kwa, aI G (ad 19) 36 kth, aI G (ad 20) 36 kal, aT G (ad 21) 8 klw, aI G (ad 22) 120 kta, aI G (ad 23) 16 ksd, aI G (ad 24) 120 rst, aI G (ad 25) 20 bo, o12 (ad 26) m0 (ad 27) (ad 28) ik m1 m2 m3 m4 m5 (ad 29) (ad 30) s1 s2 s3 s4 s5 s6 (ad 31) (nI ra) m6 m7 m8, aI G (ad 27) 1394 f, aI G (ad 28) 1394 fi, aI G (ad 29) 5 fb, aZ G (ad 30) 64 tr, aI G (ad 31) 20 bo, oT r.1 r.2.1 r.2.2.1 r.2.2.2.1 r.2.2.2.2.1 r.2.2.2.2.2.1 r.2.2.2.2.2.2.1, aI G r.2.2.2.2.2.2.1 r.2.2.2.2.2.2.2.1 r.2.2.2.2.2.2.2.2] ++ LW G (S ++ T)) hP hD hS hFc [32, 0, 4, 1, 33, 7, 6, 12, 8, 9] rfl rfl rfl (va_runV (As := [.int (nI k), .int y2, .int y3, .int y4, .int y5]) (rest := []) ⟨hx, hb, hml, hown, hts⟩ hM (cwV 5 hts gT_X11_heads rfl rfl rfl (by decide +kernel) ⟨Nat.le_of_ble_eq_true rfl, Nat.le_of_ble_eq_true rfl⟩) (cp_V hK hE hS hPc hDc hFc (va_recv hK hP (ci := 11) (q0 := 0) rfl rfl)) rfl rfl hl.1 rfl (lv_room (Nat.le_of_ble_eq_true rfl)) dL_law_643 hf0) (fun H locs hP hD hS => ?_)
    refine lv_aload_n hx hb dL_law_646 rfl (lv_at hl 2 rfl) ?_
    refine lv_aload_n hx hb dL_law_647 rfl (lv_at hl 0 rfl) ?_
    refine lv_iload_n hx hb dL_law_648 rfl (lv_at hl 3 rfl) ?_
    refine lv_iconst (v := 1) hx hb dL_law_649 (by decide) ?_
    refine lv_iadd hx hb dL_law_650 ?_
    refine va_sld hx hb hX hbl hbA hS in1 dL_law_651 ?_
    refine lv_eqi e1 ?_
    refine lv_aload_n hx hb dL_law_652 rfl (lv_at hl 0 rfl) ?_
    refine lv_iload_n hx hb dL_law_653 rfl (lv_at hl 3 rfl) ?_
    refine lv_iconst (v := 2) hx hb dL_law_654 (by decide) ?_
    refine lv_iadd hx hb dL_law_655 ?_
    refine va_sld hx hb hX hbl hbA hS in2 dL_law_656 ?_
    refine lv_eqi e2 ?_
    refine lv_aload_n hx hb dL_law_657 rfl (lv_at hl 0 rfl) ?_
    refine lv_iload_n hx hb dL_law_658 rfl (lv_at hl 3 rfl) ?_
    refine lv_iconst (v := 3) hx hb dL_law_659 (by decide) ?_
    refine lv_iadd hx hb dL_law_660 ?_
    refine va_sld hx hb hX hbl hbA hS in3 dL_law_661 ?_
    refine lv_eqi e3 ?_
    refine lv_aload_n hx hb dL_law_662 rfl (lv_at hl 0 rfl) ?_
    refine lv_iload_n hx hb dL_law_663 rfl (lv_at hl 3 rfl) ?_
    refine lv_iconst (v := 4) hx hb dL_law_664 (by decide) ?_
    refine lv_iadd hx hb dL_law_665 ?_
    refine va_sld hx hb hX hbl hbA hS in4 dL_law_666 ?_
    refine lv_eqi e4 ?_
    refine lv_aload_n hx hb dL_law_667 rfl (lv_at hl 0 rfl) ?_
    refine lv_iload_n hx hb dL_law_668 rfl (lv_at hl 3 rfl) ?_
    refine lv_iconst (v := 5) hx hb dL_law_669 (by decide) ?_
    refine lv_iadd hx hb dL_law_670 ?_
    refine va_sld hx hb hX hbl hbA hS in5 dL_law_671 ?_
    refine lv_eqi e5 ?_
    have hPc := hP.sub (ws' := [o12 (ad 26) m0 (ad 27) (ad 28) ik m1 m2 m3 m4 m5 (ad 29) (ad 30) s1 s2 s3 s4 s5 s6 (ad 31) (nI ra) m6 m7 m8, aI G (ad 29) 5 fb, aI G (ad 27) 1394 f, aZ G (ad 30) 64 tr]) [26, 29, 27, 30] rfl
    have hDc := hD.sub (ws' := [o12 (ad 26) m0 (ad 27) (ad 28) ik m1 m2 m3 m4 m5 (ad 29) (ad 30) s1 s2 s3 s4 s5 s6 (ad 31) (nI ra) m6 m7 m8, aI G (ad 29) 5 fb, aI G (ad 27) 1394 f, aZ G (ad 30) 64 tr]) [26, 29, 27, 30] (by decide) rfl
    have hFc := va_free (wc := [o12 (ad 26) m0 (ad 27) (ad 28) ik m1 m2 m3 m4 m5 (ad 29) (ad 30) s1 s2 s3 s4 s5 s6 (ad 31) (nI ra) m6 m7 m8, aI G (ad 29) 5 fb, aI G (ad 27) 1394 f, aZ G (ad 30) 64 tr]) hD hS hA [26, 29, 27, 30] rfl
    have hM := c_X12_heads l G (ad 26) (ad 27) (ad 28) (ad 29) (ad 30) (ad 31) m0 ik m1 m2 m3 m4 m5 s1 s2 s3 s4 s5 s6 (nI ra) m6 m7 m8 fb f tr (nI k) y2 y3 y4 y5 z t1 t2 t3 t4 t5 t6 fb2 tr2 h2 H.size
    refine cl_l (w1 := [o12 (ad 26) m0 (ad 27) (ad 28) ik m1 m2 m3 m4 m5 (ad 29) (ad 30) t1 t2 t3 t4 t5 t6 (ad 31) (nI ra) m6 m7 m8, aI G (ad 29) 5 fb2, aI G (ad 27) 1394 f, aZ G (ad 30) 64 tr2]) (ws' := [o11 (ad 0) (ad 1) (ad 2) ik (ad 3) (ad 4) (ad 5), o6 (ad 1) (nI nc) (nI nh) (nI nl) (nI nb) (nI ns) (ad 6) (ad 7) (ad 8) (ad 9) (ad 10) (ad 11) (ad 12) (ad 13) (ad 14), o6 (ad 2) kc kh kl kb ks (ad 15) (ad 16) (ad 17) (ad 18) (ad 19) (ad 20) (ad 21) (ad 22) (ad 23), o3 (ad 3) tx (ad 24) r1 r2 r3 r4 r5, o2 (ad 4) q1 q2 q3 q4 q5 q6 q7 q8, o8 (ad 5) (ad 25) (nI ra), aI G (ad 6) 6 ed, aI G (ad 7) 6 be, aI G (ad 8) 6 ri, aI G (ad 9) 6 wa, aI G (ad 10) 36 th, aI G (ad 11) 36 al, aT G (ad 12) 8 lw, aI G (ad 13) 120 ta, aI G (ad 14) 16 sd, aI G (ad 15) 6 ked, aI G (ad 16) 6 kbe, aI G (ad 17) 6 kri, aI G (ad 18) 6 kwa, aI G (ad 19) 36 kth, aI G (ad 20) 36 kal, aT G (ad 21) 8 klw, aI G (ad 22) 120 kta, aI G (ad 23) 16 ksd, aI G (ad 24) 120 rst, aI G (ad 25) 20 bo, o12 (ad 26) m0 (ad 27) (ad 28) ik m1 m2 m3 m4 m5 (ad 29) (ad 30) t1 t2 t3 t4 t5 t6 (ad 31) (nI ra) m6 m7 m8, aI G (ad 27) 1394 f, aI G (ad 28) 1394 fi, aI G (ad 29) 5 fb2, aZ G (ad 30) 64 tr2, aI G (ad 31) 20 bo, oT r.1 r.2.1 r.2.2.1 r.2.2.2.1 r.2.2.2.2.1 r.2.2.2.2.2.1 r.2.2.2.2.2.2.1, aI G r.2.2.2.2.2.2.1 r.2.2.2.2.2.2.2.1 r.2.2.2.2.2.2.2.2] ++ LW G (S ++ T)) hP hD hS hFc [26, 29, 27, 30] rfl rfl rfl (va_runV (As := [.int (nI k), .int y2, .int y3, .int y4, .int y5]) (rest := [.long z]) ⟨hx, hb, hml, hown, hts⟩ hM (cwV 5 hts gT_X12_heads rfl rfl rfl (by decide +kernel) ⟨Nat.le_of_ble_eq_true rfl, Nat.le_of_ble_eq_true rfl⟩) (cp_V hK hE hS hPc hDc hFc (va_recv hK hP (ci := 12) (q0 := 26) rfl rfl)) rfl rfl hl.1 rfl (lv_room (Nat.le_of_ble_eq_true rfl)) dL_law_672 hf0) (fun H locs hP hD hS => ?_)
    refine W.lcmp hx hb dL_law_675 ?_
    refine lv_if_eq (tgt := 1190) hx hb dL_law_676 (by decide) (fun _ => ?_) (fun c9 => absurd (lcmp_self _) c9)
    have hP : va_P G.1 vwCl ([o11 (ad 0) (ad 1) (ad 2) ik (ad 3) (ad 4) (ad 5), o6 (ad 1) (nI nc) (nI nh) (nI nl) (nI nb) (nI ns) (ad 6) (ad 7) (ad 8) (ad 9) (ad 10) (ad 11) (ad 12) (ad 13) (ad 14), o6 (ad 2) kc kh kl kb ks (ad 15) (ad 16) (ad 17) (ad 18) (ad 19) (ad 20) (ad 21) (ad 22) (ad 23), o3 (ad 3) tx (ad 24) r1 r2 r3 r4 r5, o2 (ad 4) q1 q2 q3 q4 q5 q6 q7 q8, o8 (ad 5) (ad 25) (nI ra), aI G (ad 6) 6 ed, aI G (ad 7) 6 be, aI G (ad 8) 6 ri, aI G (ad 9) 6 wa, aI G (ad 10) 36 th, aI G (ad 11) 36 al, aT G (ad 12) 8 lw, aI G (ad 13) 120 ta, aI G (ad 14) 16 sd, aI G (ad 15) 6 ked, aI G (ad 16) 6 kbe, aI G (ad 17) 6 kri, aI G (ad 18) 6 kwa, aI G (ad 19) 36 kth, aI G (ad 20) 36 kal, aT G (ad 21) 8 klw, aI G (ad 22) 120 kta, aI G (ad 23) 16 ksd, aI G (ad 24) 120 rst, aI G (ad 25) 20 bo, o12 (ad 26) m0 (ad 27) (ad 28) ik m1 m2 m3 m4 m5 (ad 29) (ad 30) t1 t2 t3 t4 t5 t6 (ad 31) (nI ra) m6 m7 m8, aI G (ad 27) 1394 f, aI G (ad 28) 1394 fi, aI G (ad 29) 5 fb2, aZ G (ad 30) 64 tr2, aI G (ad 31) 20 bo] ++ (lawCells G r ++ LW G (S ++ T))) H := hP
    have hD : va_D (fun q : Nat => s.heap.size ≤ q) ([o11 (ad 0) (ad 1) (ad 2) ik (ad 3) (ad 4) (ad 5), o6 (ad 1) (nI nc) (nI nh) (nI nl) (nI nb) (nI ns) (ad 6) (ad 7) (ad 8) (ad 9) (ad 10) (ad 11) (ad 12) (ad 13) (ad 14), o6 (ad 2) kc kh kl kb ks (ad 15) (ad 16) (ad 17) (ad 18) (ad 19) (ad 20) (ad 21) (ad 22) (ad 23), o3 (ad 3) tx (ad 24) r1 r2 r3 r4 r5, o2 (ad 4) q1 q2 q3 q4 q5 q6 q7 q8, o8 (ad 5) (ad 25) (nI ra), aI G (ad 6) 6 ed, aI G (ad 7) 6 be, aI G (ad 8) 6 ri, aI G (ad 9) 6 wa, aI G (ad 10) 36 th, aI G (ad 11) 36 al, aT G (ad 12) 8 lw, aI G (ad 13) 120 ta, aI G (ad 14) 16 sd, aI G (ad 15) 6 ked, aI G (ad 16) 6 kbe, aI G (ad 17) 6 kri, aI G (ad 18) 6 kwa, aI G (ad 19) 36 kth, aI G (ad 20) 36 kal, aT G (ad 21) 8 klw, aI G (ad 22) 120 kta, aI G (ad 23) 16 ksd, aI G (ad 24) 120 rst, aI G (ad 25) 20 bo, o12 (ad 26) m0 (ad 27) (ad 28) ik m1 m2 m3 m4 m5 (ad 29) (ad 30) t1 t2 t3 t4 t5 t6 (ad 31) (nI ra) m6 m7 m8, aI G (ad 27) 1394 f, aI G (ad 28) 1394 fi, aI G (ad 29) 5 fb2, aZ G (ad 30) 64 tr2, aI G (ad 31) 20 bo] ++ (lawCells G r ++ LW G (S ++ T))) := hD
    have hP := wP_perm (LW_out G [o11 (ad 0) (ad 1) (ad 2) ik (ad 3) (ad 4) (ad 5), o6 (ad 1) (nI nc) (nI nh) (nI nl) (nI nb) (nI ns) (ad 6) (ad 7) (ad 8) (ad 9) (ad 10) (ad 11) (ad 12) (ad 13) (ad 14), o6 (ad 2) kc kh kl kb ks (ad 15) (ad 16) (ad 17) (ad 18) (ad 19) (ad 20) (ad 21) (ad 22) (ad 23), o3 (ad 3) tx (ad 24) r1 r2 r3 r4 r5, o2 (ad 4) q1 q2 q3 q4 q5 q6 q7 q8, o8 (ad 5) (ad 25) (nI ra), aI G (ad 6) 6 ed, aI G (ad 7) 6 be, aI G (ad 8) 6 ri, aI G (ad 9) 6 wa, aI G (ad 10) 36 th, aI G (ad 11) 36 al, aT G (ad 12) 8 lw, aI G (ad 13) 120 ta, aI G (ad 14) 16 sd, aI G (ad 15) 6 ked, aI G (ad 16) 6 kbe, aI G (ad 17) 6 kri, aI G (ad 18) 6 kwa, aI G (ad 19) 36 kth, aI G (ad 20) 36 kal, aT G (ad 21) 8 klw, aI G (ad 22) 120 kta, aI G (ad 23) 16 ksd, aI G (ad 24) 120 rst, aI G (ad 25) 20 bo, o12 (ad 26) m0 (ad 27) (ad 28) ik m1 m2 m3 m4 m5 (ad 29) (ad 30) t1 t2 t3 t4 t5 t6 (ad 31) (nI ra) m6 m7 m8, aI G (ad 27) 1394 f, aI G (ad 28) 1394 fi, aI G (ad 29) 5 fb2, aZ G (ad 30) 64 tr2, aI G (ad 31) 20 bo] S T r).symm hP
    have hD := wD_perm (LW_out G [o11 (ad 0) (ad 1) (ad 2) ik (ad 3) (ad 4) (ad 5), o6 (ad 1) (nI nc) (nI nh) (nI nl) (nI nb) (nI ns) (ad 6) (ad 7) (ad 8) (ad 9) (ad 10) (ad 11) (ad 12) (ad 13) (ad 14), o6 (ad 2) kc kh kl kb ks (ad 15) (ad 16) (ad 17) (ad 18) (ad 19) (ad 20) (ad 21) (ad 22) (ad 23), o3 (ad 3) tx (ad 24) r1 r2 r3 r4 r5, o2 (ad 4) q1 q2 q3 q4 q5 q6 q7 q8, o8 (ad 5) (ad 25) (nI ra), aI G (ad 6) 6 ed, aI G (ad 7) 6 be, aI G (ad 8) 6 ri, aI G (ad 9) 6 wa, aI G (ad 10) 36 th, aI G (ad 11) 36 al, aT G (ad 12) 8 lw, aI G (ad 13) 120 ta, aI G (ad 14) 16 sd, aI G (ad 15) 6 ked, aI G (ad 16) 6 kbe, aI G (ad 17) 6 kri, aI G (ad 18) 6 kwa, aI G (ad 19) 36 kth, aI G (ad 20) 36 kal, aT G (ad 21) 8 klw, aI G (ad 22) 120 kta, aI G (ad 23) 16 ksd, aI G (ad 24) 120 rst, aI G (ad 25) 20 bo, o12 (ad 26) m0 (ad 27) (ad 28) ik m1 m2 m3 m4 m5 (ad 29) (ad 30) t1 t2 t3 t4 t5 t6 (ad 31) (nI ra) m6 m7 m8, aI G (ad 27) 1394 f, aI G (ad 28) 1394 fi, aI G (ad 29) 5 fb2, aZ G (ad 30) 64 tr2, aI G (ad 31) 20 bo] S T r).symm hD
    refine W.widen (k := cells + 2) (n := slots + 125) (by omega) (by omega) ?_
    exact kk _ _ ⟨S ++ r :: T, nc, nh, nl, nb, ns, al, be, ed, lw, ri, sd, ta, th, wa, f, ik, kc, kh, kl, kb, ks, kal, kbe, ked, klw, kri, ksd, kta, kth, kwa, fi, tx, r1, r2, r3, r4, r5, rst, q1, q2, q3, q4, q5, q6, q7, q8, ra, bo, m0, m1, m2, m3, m4, m5, m6, m7, m8, t1, t2, t3, t4, t5, t6, fb2, tr2, hP, hD, hS, hSS, hKP, hra, hTs⟩
set_option maxHeartbeats 4000000 in
set_option maxRecDepth 100000 in
theorem k_steady {p : Program} {l : Launch} {e : Env} {s : State} {m : MethodId} {below : List Frame} {meth : Method} {c : Code} {G : GG} {b L : Nat} {xs : Nat → Int32} {ad : Nat → Nat} {Q : State → Prop} {cells slots : Nat} {H : Heap} {locs : List Loc} {ls : Array Slot} {i : Int32} (C0 : lw_At p s m meth c b L xs) (hK : va_K G.1 vwCl (TY G) s) (hE : EV G (fun q : Nat => s.heap.size ≤ q) s s.heap) (hce : cells + 2 ≤ 600000) (hsl : slots + 125 ≤ 7302250) (hl : lv_has ls 4 [(0, .ref b), (1, .ref (ad 0)), (2, .ref (ad 26)), (3, .int i)]) (in1 : vp_in (i + 1) L) (in2 : vp_in (i + 2) L) (in3 : vp_in (i + 3) L) (in4 : vp_in (i + 4) L) (in5 : vp_in (i + 5) L) (y1 y2 y3 y4 y5 : Int32) (e1 : xs (i + 1).toNatClampNeg = y1) (e2 : xs (i + 2).toNatClampNeg = y2) (e3 : xs (i + 3).toNatClampNeg = y3) (e4 : xs (i + 4).toNatClampNeg = y4) (e5 : xs (i + 5).toNatClampNeg = y5) (Ls : List LR) (nc nh nl nb ns : Nat) (al be ed : Nat → Int32) (lw : Nat → Option Nat) (ri sd ta th wa f : Nat → Int32) (ik kc kh kl kb ks : Int32) (kal kbe ked : Nat → Int32) (klw : Nat → Option Nat) (kri ksd kta kth kwa fi : Nat → Int32) (tx : Nat) (r1 r2 r3 r4 r5 : Int32) (rst : Nat → Int32) (g1 g2 g3 g4 g5 g6 g7 g8 : Int32) (ra : Nat) (bo : Nat → Int32) (m0 m1 m2 m3 m4 m5 m6 m7 m8 s1 s2 s3 s4 s5 s6 : Int32) (fb tr : Nat → Int32) (hP : va_P G.1 vwCl ([o11 (ad 0) (ad 1) (ad 2) ik (ad 3) (ad 4) (ad 5), o6 (ad 1) (nI nc) (nI nh) (nI nl) (nI nb) (nI ns) (ad 6) (ad 7) (ad 8) (ad 9) (ad 10) (ad 11) (ad 12) (ad 13) (ad 14), o6 (ad 2) kc kh kl kb ks (ad 15) (ad 16) (ad 17) (ad 18) (ad 19) (ad 20) (ad 21) (ad 22) (ad 23), o3 (ad 3) tx (ad 24) r1 r2 r3 r4 r5, o2 (ad 4) g1 g2 g3 g4 g5 g6 g7 g8, o8 (ad 5) (ad 25) (nI ra), aI G (ad 6) 6 ed, aI G (ad 7) 6 be, aI G (ad 8) 6 ri, aI G (ad 9) 6 wa, aI G (ad 10) 36 th, aI G (ad 11) 36 al, aT G (ad 12) 8 lw, aI G (ad 13) 120 ta, aI G (ad 14) 16 sd, aI G (ad 15) 6 ked, aI G (ad 16) 6 kbe, aI G (ad 17) 6 kri, aI G (ad 18) 6 kwa, aI G (ad 19) 36 kth, aI G (ad 20) 36 kal, aT G (ad 21) 8 klw, aI G (ad 22) 120 kta, aI G (ad 23) 16 ksd, aI G (ad 24) 120 rst, aI G (ad 25) 20 bo, o12 (ad 26) m0 (ad 27) (ad 28) ik m1 m2 m3 m4 m5 (ad 29) (ad 30) s1 s2 s3 s4 s5 s6 (ad 31) (nI ra) m6 m7 m8, aI G (ad 27) 1394 f, aI G (ad 28) 1394 fi, aI G (ad 29) 5 fb, aZ G (ad 30) 64 tr, aI G (ad 31) 20 bo] ++ LW G Ls) H) (hD : va_D (fun q : Nat => s.heap.size ≤ q) ([o11 (ad 0) (ad 1) (ad 2) ik (ad 3) (ad 4) (ad 5), o6 (ad 1) (nI nc) (nI nh) (nI nl) (nI nb) (nI ns) (ad 6) (ad 7) (ad 8) (ad 9) (ad 10) (ad 11) (ad 12) (ad 13) (ad 14), o6 (ad 2) kc kh kl kb ks (ad 15) (ad 16) (ad 17) (ad 18) (ad 19) (ad 20) (ad 21) (ad 22) (ad 23), o3 (ad 3) tx (ad 24) r1 r2 r3 r4 r5, o2 (ad 4) g1 g2 g3 g4 g5 g6 g7 g8, o8 (ad 5) (ad 25) (nI ra), aI G (ad 6) 6 ed, aI G (ad 7) 6 be, aI G (ad 8) 6 ri, aI G (ad 9) 6 wa, aI G (ad 10) 36 th, aI G (ad 11) 36 al, aT G (ad 12) 8 lw, aI G (ad 13) 120 ta, aI G (ad 14) 16 sd, aI G (ad 15) 6 ked, aI G (ad 16) 6 kbe, aI G (ad 17) 6 kri, aI G (ad 18) 6 kwa, aI G (ad 19) 36 kth, aI G (ad 20) 36 kal, aT G (ad 21) 8 klw, aI G (ad 22) 120 kta, aI G (ad 23) 16 ksd, aI G (ad 24) 120 rst, aI G (ad 25) 20 bo, o12 (ad 26) m0 (ad 27) (ad 28) ik m1 m2 m3 m4 m5 (ad 29) (ad 30) s1 s2 s3 s4 s5 s6 (ad 31) (nI ra) m6 m7 m8, aI G (ad 27) 1394 f, aI G (ad 28) 1394 fi, aI G (ad 29) 5 fb, aZ G (ad 30) 64 tr, aI G (ad 31) 20 bo] ++ LW G Ls)) (hS : va_S (fun q : Nat => s.heap.size ≤ q) s.heap H locs) (hSS : SS Ls nc nh nl nb ns al be ed lw ri sd ta th wa f) (hKP : KP Ls ik kc kh kl kb ks kal kbe ked klw kri ksd kta kth kwa fi) (hra : ra ≤ 1000) (hTs : ∀ r ∈ Ls, isT r.1) (kk : ∀ (H : Heap) (locs : List Loc), INV G (fun q : Nat => s.heap.size ≤ q) s ad H locs → W p l e room_1 s m #[Value.ref b] below meth c H locs (cells + 2) (slots + 125) Q (F0 m 1190 ls [])) : W p l e room_1 s m #[Value.ref b] below meth c H locs cells slots Q (F0 m 681 ls []) := by
  obtain ⟨hx, hb, hr, hml, hown, hts, hX, hbl, hlocks, hgv⟩ := C0
  have hown : s.vm.findClass RL = some m.cls := hown
  have hb : c.code = cL_law := hb
  have hA : ∀ q : Nat, s.heap.size ≤ q → (fun q : Nat => s.heap.size ≤ q) q := fun _ h => h
  have hbA : ¬ (fun q : Nat => s.heap.size ≤ q) b := Nat.not_le.mpr hbl
  have hf0 : cells + 0 ≤ room_1.cells ∧ slots + 0 ≤ room_1.slots := ⟨show cells + 0 ≤ 600000 by omega, show slots + 0 ≤ 7302250 by omega⟩
  rcases p_lawOf hSS y1 with ⟨hw, hlaw⟩ | ⟨hw, k, r, hk, hk8, ek, hrm, hr, hlaw⟩
  · obtain ⟨z, ⟨t1, t2, t3, t4, t5, t6, fb2, tr2⟩, h1, h2⟩ := p_steady_n hSS hw y2 y3 y4 s1 s2 s3 s4 s5 s6 fb tr
    refine lv_aload_n hx hb dL_law_681 rfl (lv_at hl 1 rfl) ?_
    refine lv_aload_n hx hb dL_law_682 rfl (lv_at hl 0 rfl) ?_
    refine lv_iload_n hx hb dL_law_683 rfl (lv_at hl 3 rfl) ?_
    refine lv_iconst (v := 1) hx hb dL_law_684 (by decide) ?_
    refine lv_iadd hx hb dL_law_685 ?_
    refine va_sld hx hb hX hbl hbA hS in1 dL_law_686 ?_
    refine lv_eqi e1 ?_
    refine lv_aload_n hx hb dL_law_687 rfl (lv_at hl 0 rfl) ?_
    refine lv_iload_n hx hb dL_law_688 rfl (lv_at hl 3 rfl) ?_
    refine lv_iconst (v := 2) hx hb dL_law_689 (by decide) ?_
    refine lv_iadd hx hb dL_law_690 ?_
    refine va_sld hx hb hX hbl hbA hS in2 dL_law_691 ?_
    refine lv_eqi e2 ?_
    refine lv_aload_n hx hb dL_law_692 rfl (lv_at hl 0 rfl) ?_
    refine lv_iload_n hx hb dL_law_693 rfl (lv_at hl 3 rfl) ?_
    refine lv_iconst (v := 3) hx hb dL_law_694 (by decide) ?_
    refine lv_iadd hx hb dL_law_695 ?_
    refine va_sld hx hb hX hbl hbA hS in3 dL_law_696 ?_
    refine lv_eqi e3 ?_
    refine lv_aload_n hx hb dL_law_697 rfl (lv_at hl 0 rfl) ?_
    refine lv_iload_n hx hb dL_law_698 rfl (lv_at hl 3 rfl) ?_
    refine lv_iconst (v := 4) hx hb dL_law_699 (by decide) ?_
    refine lv_iadd hx hb dL_law_700 ?_
    refine va_sld hx hb hX hbl hbA hS in4 dL_law_701 ?_
    refine lv_eqi e4 ?_
    have hPc := hP.sub (ws' := [o11 (ad 0) (ad 1) (ad 2) ik (ad 3) (ad 4) (ad 5), o6 (ad 1) (nI nc) (nI nh) (nI nl) (nI nb) (nI ns) (ad 6) (ad 7) (ad 8) (ad 9) (ad 10) (ad 11) (ad 12) (ad 13) (ad 14), aT G (ad 12) 8 lw]) [0, 1, 12] rfl
    have hDc := hD.sub (ws' := [o11 (ad 0) (ad 1) (ad 2) ik (ad 3) (ad 4) (ad 5), o6 (ad 1) (nI nc) (nI nh) (nI nl) (nI nb) (nI ns) (ad 6) (ad 7) (ad 8) (ad 9) (ad 10) (ad 11) (ad 12) (ad 13) (ad 14), aT G (ad 12) 8 lw]) [0, 1, 12] (by decide) rfl
    have hFc := va_free (wc := [o11 (ad 0) (ad 1) (ad 2) ik (ad 3) (ad 4) (ad 5), o6 (ad 1) (nI nc) (nI nh) (nI nl) (nI nb) (nI ns) (ad 6) (ad 7) (ad 8) (ad 9) (ad 10) (ad 11) (ad 12) (ad 13) (ad 14), aT G (ad 12) 8 lw]) hD hS hA [0, 1, 12] rfl
    have hM := c_X11_steady_n l G (ad 0) (ad 1) (ad 2) (ad 3) (ad 4) (ad 5) (ad 6) (ad 7) (ad 8) (ad 9) (ad 10) (ad 11) (ad 12) (ad 13) (ad 14) ik (nI nc) (nI nh) (nI nl) (nI nb) (nI ns) lw y1 y2 y3 y4 z hlaw h1 H.size
    refine cl_i (w1 := [o11 (ad 0) (ad 1) (ad 2) ik (ad 3) (ad 4) (ad 5), o6 (ad 1) (nI nc) (nI nh) (nI nl) (nI nb) (nI ns) (ad 6) (ad 7) (ad 8) (ad 9) (ad 10) (ad 11) (ad 12) (ad 13) (ad 14), aT G (ad 12) 8 lw]) (ws' := [o11 (ad 0) (ad 1) (ad 2) ik (ad 3) (ad 4) (ad 5), o6 (ad 1) (nI nc) (nI nh) (nI nl) (nI nb) (nI ns) (ad 6) (ad 7) (ad 8) (ad 9) (ad 10) (ad 11) (ad 12) (ad 13) (ad 14), o6 (ad 2) kc kh kl kb ks (ad 15) (ad 16) (ad 17) (ad 18) (ad 19) (ad 20) (ad 21) (ad 22) (ad 23), o3 (ad 3) tx (ad 24) r1 r2 r3 r4 r5, o2 (ad 4) g1 g2 g3 g4 g5 g6 g7 g8, o8 (ad 5) (ad 25) (nI ra), aI G (ad 6) 6 ed, aI G (ad 7) 6 be, aI G (ad 8) 6 ri, aI G (ad 9) 6 wa, aI G (ad 10) 36 th, aI G (ad 11) 36 al, aT G (ad 12) 8 lw, aI G (ad 13) 120 ta, aI G (ad 14) 16 sd, aI G (ad 15) 6 ked, aI G (ad 16) 6 kbe, aI G (ad 17) 6 kri, aI G (ad 18) 6 kwa, aI G (ad 19) 36 kth, aI G (ad 20) 36 kal, aT G (ad 21) 8 klw, aI G (ad 22) 120 kta, aI G (ad 23) 16 ksd, aI G (ad 24) 120 rst, aI G (ad 25) 20 bo, o12 (ad 26) m0 (ad 27) (ad 28) ik m1 m2 m3 m4 m5 (ad 29) (ad 30) s1 s2 s3 s4 s5 s6 (ad 31) (nI ra) m6 m7 m8, aI G (ad 27) 1394 f, aI G (ad 28) 1394 fi, aI G (ad 29) 5 fb, aZ G (ad 30) 64 tr, aI G (ad 31) 20 bo] ++ LW G Ls) hP hD hS hFc [0, 1, 12] rfl rfl rfl (va_runV (As := [.int y1, .int y2, .int y3, .int y4]) (rest := []) ⟨hx, hb, hml, hown, hts⟩ hM (cwV 4 hts gT_X11_steady rfl rfl rfl (by decide +kernel) ⟨Nat.le_of_ble_eq_true rfl, Nat.le_of_ble_eq_true rfl⟩) (cp_V hK hE hS hPc hDc hFc (va_recv hK hP (ci := 11) (q0 := 0) rfl rfl)) rfl rfl hl.1 rfl (lv_room (Nat.le_of_ble_eq_true rfl)) dL_law_702 hf0) (fun H locs hP hD hS => ?_)
    refine lv_aload_n hx hb dL_law_705 rfl (lv_at hl 2 rfl) ?_
    refine lv_aload_n hx hb dL_law_706 rfl (lv_at hl 0 rfl) ?_
    refine lv_iload_n hx hb dL_law_707 rfl (lv_at hl 3 rfl) ?_
    refine lv_iconst (v := 1) hx hb dL_law_708 (by decide) ?_
    refine lv_iadd hx hb dL_law_709 ?_
    refine va_sld hx hb hX hbl hbA hS in1 dL_law_710 ?_
    refine lv_eqi e1 ?_
    refine lv_aload_n hx hb dL_law_711 rfl (lv_at hl 0 rfl) ?_
    refine lv_iload_n hx hb dL_law_712 rfl (lv_at hl 3 rfl) ?_
    refine lv_iconst (v := 2) hx hb dL_law_713 (by decide) ?_
    refine lv_iadd hx hb dL_law_714 ?_
    refine va_sld hx hb hX hbl hbA hS in2 dL_law_715 ?_
    refine lv_eqi e2 ?_
    refine lv_aload_n hx hb dL_law_716 rfl (lv_at hl 0 rfl) ?_
    refine lv_iload_n hx hb dL_law_717 rfl (lv_at hl 3 rfl) ?_
    refine lv_iconst (v := 3) hx hb dL_law_718 (by decide) ?_
    refine lv_iadd hx hb dL_law_719 ?_
    refine va_sld hx hb hX hbl hbA hS in3 dL_law_720 ?_
    refine lv_eqi e3 ?_
    refine lv_aload_n hx hb dL_law_721 rfl (lv_at hl 0 rfl) ?_
    refine lv_iload_n hx hb dL_law_722 rfl (lv_at hl 3 rfl) ?_
    refine lv_iconst (v := 4) hx hb dL_law_723 (by decide) ?_
    refine lv_iadd hx hb dL_law_724 ?_
    refine va_sld hx hb hX hbl hbA hS in4 dL_law_725 ?_
    refine lv_eqi e4 ?_
    have hPc := hP.sub (ws' := [o12 (ad 26) m0 (ad 27) (ad 28) ik m1 m2 m3 m4 m5 (ad 29) (ad 30) s1 s2 s3 s4 s5 s6 (ad 31) (nI ra) m6 m7 m8, aI G (ad 29) 5 fb, aI G (ad 27) 1394 f, aZ G (ad 30) 64 tr]) [26, 29, 27, 30] rfl
    have hDc := hD.sub (ws' := [o12 (ad 26) m0 (ad 27) (ad 28) ik m1 m2 m3 m4 m5 (ad 29) (ad 30) s1 s2 s3 s4 s5 s6 (ad 31) (nI ra) m6 m7 m8, aI G (ad 29) 5 fb, aI G (ad 27) 1394 f, aZ G (ad 30) 64 tr]) [26, 29, 27, 30] (by decide) rfl
    have hFc := va_free (wc := [o12 (ad 26) m0 (ad 27) (ad 28) ik m1 m2 m3 m4 m5 (ad 29) (ad 30) s1 s2 s3 s4 s5 s6 (ad 31) (nI ra) m6 m7 m8, aI G (ad 29) 5 fb, aI G (ad 27) 1394 f, aZ G (ad 30) 64 tr]) hD hS hA [26, 29, 27, 30] rfl
    have hM := c_X12_steady l G (ad 26) (ad 27) (ad 28) (ad 29) (ad 30) (ad 31) m0 ik m1 m2 m3 m4 m5 s1 s2 s3 s4 s5 s6 (nI ra) m6 m7 m8 fb f tr y1 y2 y3 y4 z t1 t2 t3 t4 t5 t6 fb2 tr2 h2 H.size
    refine cl_i (w1 := [o12 (ad 26) m0 (ad 27) (ad 28) ik m1 m2 m3 m4 m5 (ad 29) (ad 30) t1 t2 t3 t4 t5 t6 (ad 31) (nI ra) m6 m7 m8, aI G (ad 29) 5 fb2, aI G (ad 27) 1394 f, aZ G (ad 30) 64 tr2]) (ws' := [o11 (ad 0) (ad 1) (ad 2) ik (ad 3) (ad 4) (ad 5), o6 (ad 1) (nI nc) (nI nh) (nI nl) (nI nb) (nI ns) (ad 6) (ad 7) (ad 8) (ad 9) (ad 10) (ad 11) (ad 12) (ad 13) (ad 14), o6 (ad 2) kc kh kl kb ks (ad 15) (ad 16) (ad 17) (ad 18) (ad 19) (ad 20) (ad 21) (ad 22) (ad 23), o3 (ad 3) tx (ad 24) r1 r2 r3 r4 r5, o2 (ad 4) g1 g2 g3 g4 g5 g6 g7 g8, o8 (ad 5) (ad 25) (nI ra), aI G (ad 6) 6 ed, aI G (ad 7) 6 be, aI G (ad 8) 6 ri, aI G (ad 9) 6 wa, aI G (ad 10) 36 th, aI G (ad 11) 36 al, aT G (ad 12) 8 lw, aI G (ad 13) 120 ta, aI G (ad 14) 16 sd, aI G (ad 15) 6 ked, aI G (ad 16) 6 kbe, aI G (ad 17) 6 kri, aI G (ad 18) 6 kwa, aI G (ad 19) 36 kth, aI G (ad 20) 36 kal, aT G (ad 21) 8 klw, aI G (ad 22) 120 kta, aI G (ad 23) 16 ksd, aI G (ad 24) 120 rst, aI G (ad 25) 20 bo, o12 (ad 26) m0 (ad 27) (ad 28) ik m1 m2 m3 m4 m5 (ad 29) (ad 30) t1 t2 t3 t4 t5 t6 (ad 31) (nI ra) m6 m7 m8, aI G (ad 27) 1394 f, aI G (ad 28) 1394 fi, aI G (ad 29) 5 fb2, aZ G (ad 30) 64 tr2, aI G (ad 31) 20 bo] ++ LW G Ls) hP hD hS hFc [26, 29, 27, 30] rfl rfl rfl (va_runV (As := [.int y1, .int y2, .int y3, .int y4]) (rest := [.int z]) ⟨hx, hb, hml, hown, hts⟩ hM (cwV 4 hts gT_X12_steady rfl rfl rfl (by decide +kernel) ⟨Nat.le_of_ble_eq_true rfl, Nat.le_of_ble_eq_true rfl⟩) (cp_V hK hE hS hPc hDc hFc (va_recv hK hP (ci := 12) (q0 := 26) rfl rfl)) rfl rfl hl.1 rfl (lv_room (Nat.le_of_ble_eq_true rfl)) dL_law_726 hf0) (fun H locs hP hD hS => ?_)
    refine lv_icmp_eq (tgt := 1190) hx hb dL_law_729 (by decide) (fun _ => ?_) (fun c9 => absurd rfl c9)
    refine W.widen (k := cells + 2) (n := slots + 125) (by omega) (by omega) ?_
    exact kk _ _ ⟨Ls, nc, nh, nl, nb, ns, al, be, ed, lw, ri, sd, ta, th, wa, f, ik, kc, kh, kl, kb, ks, kal, kbe, ked, klw, kri, ksd, kta, kth, kwa, fi, tx, r1, r2, r3, r4, r5, rst, g1, g2, g3, g4, g5, g6, g7, g8, ra, bo, m0, m1, m2, m3, m4, m5, m6, m7, m8, t1, t2, t3, t4, t5, t6, fb2, tr2, hP, hD, hS, hSS, hKP, hra, hTs⟩
  · subst ek
    have hcq : r.1 = 0 ∨ r.1 = 1 ∨ r.1 = 4 ∨ r.1 = 5 ∨ r.1 = 7 ∨ r.1 = 9 ∨ r.1 = 10 := hTs r hrm
    obtain ⟨z, ⟨q1, q2, q3, q4, q5, q6, q7, q8⟩, ⟨t1, t2, t3, t4, t5, t6, fb2, tr2⟩, h1, h2⟩ := p_steady_s hSS hk hk8 hr hw y2 y3 y4 g1 g2 g3 g4 g5 g6 g7 g8 s1 s2 s3 s4 s5 s6 fb tr
    obtain ⟨S, T, eL⟩ := List.append_of_mem hrm
    subst eL
    have hP := wP_perm (LW_out G [o11 (ad 0) (ad 1) (ad 2) ik (ad 3) (ad 4) (ad 5), o6 (ad 1) (nI nc) (nI nh) (nI nl) (nI nb) (nI ns) (ad 6) (ad 7) (ad 8) (ad 9) (ad 10) (ad 11) (ad 12) (ad 13) (ad 14), o6 (ad 2) kc kh kl kb ks (ad 15) (ad 16) (ad 17) (ad 18) (ad 19) (ad 20) (ad 21) (ad 22) (ad 23), o3 (ad 3) tx (ad 24) r1 r2 r3 r4 r5, o2 (ad 4) g1 g2 g3 g4 g5 g6 g7 g8, o8 (ad 5) (ad 25) (nI ra), aI G (ad 6) 6 ed, aI G (ad 7) 6 be, aI G (ad 8) 6 ri, aI G (ad 9) 6 wa, aI G (ad 10) 36 th, aI G (ad 11) 36 al, aT G (ad 12) 8 lw, aI G (ad 13) 120 ta, aI G (ad 14) 16 sd, aI G (ad 15) 6 ked, aI G (ad 16) 6 kbe, aI G (ad 17) 6 kri, aI G (ad 18) 6 kwa, aI G (ad 19) 36 kth, aI G (ad 20) 36 kal, aT G (ad 21) 8 klw, aI G (ad 22) 120 kta, aI G (ad 23) 16 ksd, aI G (ad 24) 120 rst, aI G (ad 25) 20 bo, o12 (ad 26) m0 (ad 27) (ad 28) ik m1 m2 m3 m4 m5 (ad 29) (ad 30) s1 s2 s3 s4 s5 s6 (ad 31) (nI ra) m6 m7 m8, aI G (ad 27) 1394 f, aI G (ad 28) 1394 fi, aI G (ad 29) 5 fb, aZ G (ad 30) 64 tr, aI G (ad 31) 20 bo] S T r) hP
    have hD := wD_perm (LW_out G [o11 (ad 0) (ad 1) (ad 2) ik (ad 3) (ad 4) (ad 5), o6 (ad 1) (nI nc) (nI nh) (nI nl) (nI nb) (nI ns) (ad 6) (ad 7) (ad 8) (ad 9) (ad 10) (ad 11) (ad 12) (ad 13) (ad 14), o6 (ad 2) kc kh kl kb ks (ad 15) (ad 16) (ad 17) (ad 18) (ad 19) (ad 20) (ad 21) (ad 22) (ad 23), o3 (ad 3) tx (ad 24) r1 r2 r3 r4 r5, o2 (ad 4) g1 g2 g3 g4 g5 g6 g7 g8, o8 (ad 5) (ad 25) (nI ra), aI G (ad 6) 6 ed, aI G (ad 7) 6 be, aI G (ad 8) 6 ri, aI G (ad 9) 6 wa, aI G (ad 10) 36 th, aI G (ad 11) 36 al, aT G (ad 12) 8 lw, aI G (ad 13) 120 ta, aI G (ad 14) 16 sd, aI G (ad 15) 6 ked, aI G (ad 16) 6 kbe, aI G (ad 17) 6 kri, aI G (ad 18) 6 kwa, aI G (ad 19) 36 kth, aI G (ad 20) 36 kal, aT G (ad 21) 8 klw, aI G (ad 22) 120 kta, aI G (ad 23) 16 ksd, aI G (ad 24) 120 rst, aI G (ad 25) 20 bo, o12 (ad 26) m0 (ad 27) (ad 28) ik m1 m2 m3 m4 m5 (ad 29) (ad 30) s1 s2 s3 s4 s5 s6 (ad 31) (nI ra) m6 m7 m8, aI G (ad 27) 1394 f, aI G (ad 28) 1394 fi, aI G (ad 29) 5 fb, aZ G (ad 30) 64 tr, aI G (ad 31) 20 bo] S T r) hD
    have hP : va_P G.1 vwCl ([o11 (ad 0) (ad 1) (ad 2) ik (ad 3) (ad 4) (ad 5), o6 (ad 1) (nI nc) (nI nh) (nI nl) (nI nb) (nI ns) (ad 6) (ad 7) (ad 8) (ad 9) (ad 10) (ad 11) (ad 12) (ad 13) (ad 14), o6 (ad 2) kc kh kl kb ks (ad 15) (ad 16) (ad 17) (ad 18) (ad 19) (ad 20) (ad 21) (ad 22) (ad 23), o3 (ad 3) tx (ad 24) r1 r2 r3 r4 r5, o2 (ad 4) g1 g2 g3 g4 g5 g6 g7 g8, o8 (ad 5) (ad 25) (nI ra), aI G (ad 6) 6 ed, aI G (ad 7) 6 be, aI G (ad 8) 6 ri, aI G (ad 9) 6 wa, aI G (ad 10) 36 th, aI G (ad 11) 36 al, aT G (ad 12) 8 lw, aI G (ad 13) 120 ta, aI G (ad 14) 16 sd, aI G (ad 15) 6 ked, aI G (ad 16) 6 kbe, aI G (ad 17) 6 kri, aI G (ad 18) 6 kwa, aI G (ad 19) 36 kth, aI G (ad 20) 36 kal, aT G (ad 21) 8 klw, aI G (ad 22) 120 kta, aI G (ad 23) 16 ksd, aI G (ad 24) 120 rst, aI G (ad 25) 20 bo, o12 (ad 26) m0 (ad 27) (ad 28) ik m1 m2 m3 m4 m5 (ad 29) (ad 30) s1 s2 s3 s4 s5 s6 (ad 31) (nI ra) m6 m7 m8, aI G (ad 27) 1394 f, aI G (ad 28) 1394 fi, aI G (ad 29) 5 fb, aZ G (ad 30) 64 tr, aI G (ad 31) 20 bo, oT r.1 r.2.1 r.2.2.1 r.2.2.2.1 r.2.2.2.2.1 r.2.2.2.2.2.1 r.2.2.2.2.2.2.1, aI G r.2.2.2.2.2.2.1 r.2.2.2.2.2.2.2.1 r.2.2.2.2.2.2.2.2] ++ LW G (S ++ T)) H := hP
    have hD : va_D (fun q : Nat => s.heap.size ≤ q) ([o11 (ad 0) (ad 1) (ad 2) ik (ad 3) (ad 4) (ad 5), o6 (ad 1) (nI nc) (nI nh) (nI nl) (nI nb) (nI ns) (ad 6) (ad 7) (ad 8) (ad 9) (ad 10) (ad 11) (ad 12) (ad 13) (ad 14), o6 (ad 2) kc kh kl kb ks (ad 15) (ad 16) (ad 17) (ad 18) (ad 19) (ad 20) (ad 21) (ad 22) (ad 23), o3 (ad 3) tx (ad 24) r1 r2 r3 r4 r5, o2 (ad 4) g1 g2 g3 g4 g5 g6 g7 g8, o8 (ad 5) (ad 25) (nI ra), aI G (ad 6) 6 ed, aI G (ad 7) 6 be, aI G (ad 8) 6 ri, aI G (ad 9) 6 wa, aI G (ad 10) 36 th, aI G (ad 11) 36 al, aT G (ad 12) 8 lw, aI G (ad 13) 120 ta, aI G (ad 14) 16 sd, aI G (ad 15) 6 ked, aI G (ad 16) 6 kbe, aI G (ad 17) 6 kri, aI G (ad 18) 6 kwa, aI G (ad 19) 36 kth, aI G (ad 20) 36 kal, aT G (ad 21) 8 klw, aI G (ad 22) 120 kta, aI G (ad 23) 16 ksd, aI G (ad 24) 120 rst, aI G (ad 25) 20 bo, o12 (ad 26) m0 (ad 27) (ad 28) ik m1 m2 m3 m4 m5 (ad 29) (ad 30) s1 s2 s3 s4 s5 s6 (ad 31) (nI ra) m6 m7 m8, aI G (ad 27) 1394 f, aI G (ad 28) 1394 fi, aI G (ad 29) 5 fb, aZ G (ad 30) 64 tr, aI G (ad 31) 20 bo, oT r.1 r.2.1 r.2.2.1 r.2.2.2.1 r.2.2.2.2.1 r.2.2.2.2.2.1 r.2.2.2.2.2.2.1, aI G r.2.2.2.2.2.2.1 r.2.2.2.2.2.2.2.1 r.2.2.2.2.2.2.2.2] ++ LW G (S ++ T)) := hD
    refine lv_aload_n hx hb dL_law_681 rfl (lv_at hl 1 rfl) ?_
    refine lv_aload_n hx hb dL_law_682 rfl (lv_at hl 0 rfl) ?_
    refine lv_iload_n hx hb dL_law_683 rfl (lv_at hl 3 rfl) ?_
    refine lv_iconst (v := 1) hx hb dL_law_684 (by decide) ?_
    refine lv_iadd hx hb dL_law_685 ?_
    refine va_sld hx hb hX hbl hbA hS in1 dL_law_686 ?_
    refine lv_eqi e1 ?_
    refine lv_aload_n hx hb dL_law_687 rfl (lv_at hl 0 rfl) ?_
    refine lv_iload_n hx hb dL_law_688 rfl (lv_at hl 3 rfl) ?_
    refine lv_iconst (v := 2) hx hb dL_law_689 (by decide) ?_
    refine lv_iadd hx hb dL_law_690 ?_
    refine va_sld hx hb hX hbl hbA hS in2 dL_law_691 ?_
    refine lv_eqi e2 ?_
    refine lv_aload_n hx hb dL_law_692 rfl (lv_at hl 0 rfl) ?_
    refine lv_iload_n hx hb dL_law_693 rfl (lv_at hl 3 rfl) ?_
    refine lv_iconst (v := 3) hx hb dL_law_694 (by decide) ?_
    refine lv_iadd hx hb dL_law_695 ?_
    refine va_sld hx hb hX hbl hbA hS in3 dL_law_696 ?_
    refine lv_eqi e3 ?_
    refine lv_aload_n hx hb dL_law_697 rfl (lv_at hl 0 rfl) ?_
    refine lv_iload_n hx hb dL_law_698 rfl (lv_at hl 3 rfl) ?_
    refine lv_iconst (v := 4) hx hb dL_law_699 (by decide) ?_
    refine lv_iadd hx hb dL_law_700 ?_
    refine va_sld hx hb hX hbl hbA hS in4 dL_law_701 ?_
    refine lv_eqi e4 ?_
    have hPc := hP.sub (ws' := [oT r.1 r.2.1 r.2.2.1 r.2.2.2.1 r.2.2.2.2.1 r.2.2.2.2.2.1 r.2.2.2.2.2.2.1, o11 (ad 0) (ad 1) (ad 2) ik (ad 3) (ad 4) (ad 5), o2 (ad 4) g1 g2 g3 g4 g5 g6 g7 g8, o6 (ad 1) (nI nc) (nI nh) (nI nl) (nI nb) (nI ns) (ad 6) (ad 7) (ad 8) (ad 9) (ad 10) (ad 11) (ad 12) (ad 13) (ad 14), aI G r.2.2.2.2.2.2.1 r.2.2.2.2.2.2.2.1 r.2.2.2.2.2.2.2.2, aI G (ad 7) 6 be, aI G (ad 6) 6 ed, aT G (ad 12) 8 lw]) [32, 0, 4, 1, 33, 7, 6, 12] rfl
    have hDc := hD.sub (ws' := [oT r.1 r.2.1 r.2.2.1 r.2.2.2.1 r.2.2.2.2.1 r.2.2.2.2.2.1 r.2.2.2.2.2.2.1, o11 (ad 0) (ad 1) (ad 2) ik (ad 3) (ad 4) (ad 5), o2 (ad 4) g1 g2 g3 g4 g5 g6 g7 g8, o6 (ad 1) (nI nc) (nI nh) (nI nl) (nI nb) (nI ns) (ad 6) (ad 7) (ad 8) (ad 9) (ad 10) (ad 11) (ad 12) (ad 13) (ad 14), aI G r.2.2.2.2.2.2.1 r.2.2.2.2.2.2.2.1 r.2.2.2.2.2.2.2.2, aI G (ad 7) 6 be, aI G (ad 6) 6 ed, aT G (ad 12) 8 lw]) [32, 0, 4, 1, 33, 7, 6, 12] (by decide) rfl
    have hFc := va_free (wc := [oT r.1 r.2.1 r.2.2.1 r.2.2.2.1 r.2.2.2.2.1 r.2.2.2.2.2.1 r.2.2.2.2.2.2.1, o11 (ad 0) (ad 1) (ad 2) ik (ad 3) (ad 4) (ad 5), o2 (ad 4) g1 g2 g3 g4 g5 g6 g7 g8, o6 (ad 1) (nI nc) (nI nh) (nI nl) (nI nb) (nI ns) (ad 6) (ad 7) (ad 8) (ad 9) (ad 10) (ad 11) (ad 12) (ad 13) (ad 14), aI G r.2.2.2.2.2.2.1 r.2.2.2.2.2.2.2.1 r.2.2.2.2.2.2.2.2, aI G (ad 7) 6 be, aI G (ad 6) 6 ed, aT G (ad 12) 8 lw]) hD hS hA [32, 0, 4, 1, 33, 7, 6, 12] rfl
    have hM := c_X11_steady_s l G r.1 hcq r.2.1 r.2.2.2.2.2.2.1 (ad 0) (ad 1) (ad 2) (ad 3) (ad 4) (ad 5) (ad 6) (ad 7) (ad 8) (ad 9) (ad 10) (ad 11) (ad 12) (ad 13) (ad 14) r.2.2.1 r.2.2.2.1 r.2.2.2.2.1 r.2.2.2.2.2.1 ik g1 g2 g3 g4 g5 g6 g7 g8 (nI nc) (nI nh) (nI nl) (nI nb) (nI ns) r.2.2.2.2.2.2.2.2 be ed lw r.2.2.2.2.2.2.2.1 (nI k) y2 y3 y4 z q1 q2 q3 q4 q5 q6 q7 q8 hlaw h1 H.size
    refine cl_i (w1 := [oT r.1 r.2.1 r.2.2.1 r.2.2.2.1 r.2.2.2.2.1 r.2.2.2.2.2.1 r.2.2.2.2.2.2.1, o11 (ad 0) (ad 1) (ad 2) ik (ad 3) (ad 4) (ad 5), o2 (ad 4) q1 q2 q3 q4 q5 q6 q7 q8, o6 (ad 1) (nI nc) (nI nh) (nI nl) (nI nb) (nI ns) (ad 6) (ad 7) (ad 8) (ad 9) (ad 10) (ad 11) (ad 12) (ad 13) (ad 14), aI G r.2.2.2.2.2.2.1 r.2.2.2.2.2.2.2.1 r.2.2.2.2.2.2.2.2, aI G (ad 7) 6 be, aI G (ad 6) 6 ed, aT G (ad 12) 8 lw]) (ws' := [o11 (ad 0) (ad 1) (ad 2) ik (ad 3) (ad 4) (ad 5), o6 (ad 1) (nI nc) (nI nh) (nI nl) (nI nb) (nI ns) (ad 6) (ad 7) (ad 8) (ad 9) (ad 10) (ad 11) (ad 12) (ad 13) (ad 14), o6 (ad 2) kc kh kl kb ks (ad 15) (ad 16) (ad 17) (ad 18) (ad 19) (ad 20) (ad 21) (ad 22) (ad 23), o3 (ad 3) tx (ad 24) r1 r2 r3 r4 r5, o2 (ad 4) q1 q2 q3 q4 q5 q6 q7 q8, o8 (ad 5) (ad 25) (nI ra), aI G (ad 6) 6 ed, aI G (ad 7) 6 be, aI G (ad 8) 6 ri, aI G (ad 9) 6 wa, aI G (ad 10) 36 th, aI G (ad 11) 36 al, aT G (ad 12) 8 lw, aI G (ad 13) 120 ta, aI G (ad 14) 16 sd, aI G (ad 15) 6 ked, aI G (ad 16) 6 kbe, aI G (ad 17) 6 kri, aI G (ad 18) 6 kwa, aI G (ad 19) 36 kth, aI G (ad 20) 36 kal, aT G (ad 21) 8 klw, aI G (ad 22) 120 kta, aI G (ad 23) 16 ksd, aI G (ad 24) 120 rst, aI G (ad 25) 20 bo, o12 (ad 26) m0 (ad 27) (ad 28) ik m1 m2 m3 m4 m5 (ad 29) (ad 30) s1 s2 s3 s4 s5 s6 (ad 31) (nI ra) m6 m7 m8, aI G (ad 27) 1394 f, aI G (ad 28) 1394 fi, aI G (ad 29) 5 fb, aZ G (ad 30) 64 tr, aI G (ad 31) 20 bo, oT r.1 r.2.1 r.2.2.1 r.2.2.2.1 r.2.2.2.2.1 r.2.2.2.2.2.1 r.2.2.2.2.2.2.1, aI G r.2.2.2.2.2.2.1 r.2.2.2.2.2.2.2.1 r.2.2.2.2.2.2.2.2] ++ LW G (S ++ T)) hP hD hS hFc [32, 0, 4, 1, 33, 7, 6, 12] rfl rfl rfl (va_runV (As := [.int (nI k), .int y2, .int y3, .int y4]) (rest := []) ⟨hx, hb, hml, hown, hts⟩ hM (cwV 4 hts gT_X11_steady rfl rfl rfl (by decide +kernel) ⟨Nat.le_of_ble_eq_true rfl, Nat.le_of_ble_eq_true rfl⟩) (cp_V hK hE hS hPc hDc hFc (va_recv hK hP (ci := 11) (q0 := 0) rfl rfl)) rfl rfl hl.1 rfl (lv_room (Nat.le_of_ble_eq_true rfl)) dL_law_702 hf0) (fun H locs hP hD hS => ?_)
    refine lv_aload_n hx hb dL_law_705 rfl (lv_at hl 2 rfl) ?_
    refine lv_aload_n hx hb dL_law_706 rfl (lv_at hl 0 rfl) ?_
    refine lv_iload_n hx hb dL_law_707 rfl (lv_at hl 3 rfl) ?_
    refine lv_iconst (v := 1) hx hb dL_law_708 (by decide) ?_
    refine lv_iadd hx hb dL_law_709 ?_
    refine va_sld hx hb hX hbl hbA hS in1 dL_law_710 ?_
    refine lv_eqi e1 ?_
    refine lv_aload_n hx hb dL_law_711 rfl (lv_at hl 0 rfl) ?_
    refine lv_iload_n hx hb dL_law_712 rfl (lv_at hl 3 rfl) ?_
    refine lv_iconst (v := 2) hx hb dL_law_713 (by decide) ?_
    refine lv_iadd hx hb dL_law_714 ?_
    refine va_sld hx hb hX hbl hbA hS in2 dL_law_715 ?_
    refine lv_eqi e2 ?_
    refine lv_aload_n hx hb dL_law_716 rfl (lv_at hl 0 rfl) ?_
    refine lv_iload_n hx hb dL_law_717 rfl (lv_at hl 3 rfl) ?_
    refine lv_iconst (v := 3) hx hb dL_law_718 (by decide) ?_
    refine lv_iadd hx hb dL_law_719 ?_
    refine va_sld hx hb hX hbl hbA hS in3 dL_law_720 ?_
    refine lv_eqi e3 ?_
    refine lv_aload_n hx hb dL_law_721 rfl (lv_at hl 0 rfl) ?_
    refine lv_iload_n hx hb dL_law_722 rfl (lv_at hl 3 rfl) ?_
    refine lv_iconst (v := 4) hx hb dL_law_723 (by decide) ?_
    refine lv_iadd hx hb dL_law_724 ?_
    refine va_sld hx hb hX hbl hbA hS in4 dL_law_725 ?_
    refine lv_eqi e4 ?_
    have hPc := hP.sub (ws' := [o12 (ad 26) m0 (ad 27) (ad 28) ik m1 m2 m3 m4 m5 (ad 29) (ad 30) s1 s2 s3 s4 s5 s6 (ad 31) (nI ra) m6 m7 m8, aI G (ad 29) 5 fb, aI G (ad 27) 1394 f, aZ G (ad 30) 64 tr]) [26, 29, 27, 30] rfl
    have hDc := hD.sub (ws' := [o12 (ad 26) m0 (ad 27) (ad 28) ik m1 m2 m3 m4 m5 (ad 29) (ad 30) s1 s2 s3 s4 s5 s6 (ad 31) (nI ra) m6 m7 m8, aI G (ad 29) 5 fb, aI G (ad 27) 1394 f, aZ G (ad 30) 64 tr]) [26, 29, 27, 30] (by decide) rfl
    have hFc := va_free (wc := [o12 (ad 26) m0 (ad 27) (ad 28) ik m1 m2 m3 m4 m5 (ad 29) (ad 30) s1 s2 s3 s4 s5 s6 (ad 31) (nI ra) m6 m7 m8, aI G (ad 29) 5 fb, aI G (ad 27) 1394 f, aZ G (ad 30) 64 tr]) hD hS hA [26, 29, 27, 30] rfl
    have hM := c_X12_steady l G (ad 26) (ad 27) (ad 28) (ad 29) (ad 30) (ad 31) m0 ik m1 m2 m3 m4 m5 s1 s2 s3 s4 s5 s6 (nI ra) m6 m7 m8 fb f tr (nI k) y2 y3 y4 z t1 t2 t3 t4 t5 t6 fb2 tr2 h2 H.size
    refine cl_i (w1 := [o12 (ad 26) m0 (ad 27) (ad 28) ik m1 m2 m3 m4 m5 (ad 29) (ad 30) t1 t2 t3 t4 t5 t6 (ad 31) (nI ra) m6 m7 m8, aI G (ad 29) 5 fb2, aI G (ad 27) 1394 f, aZ G (ad 30) 64 tr2]) (ws' := [o11 (ad 0) (ad 1) (ad 2) ik (ad 3) (ad 4) (ad 5), o6 (ad 1) (nI nc) (nI nh) (nI nl) (nI nb) (nI ns) (ad 6) (ad 7) (ad 8) (ad 9) (ad 10) (ad 11) (ad 12) (ad 13) (ad 14), o6 (ad 2) kc kh kl kb ks (ad 15) (ad 16) (ad 17) (ad 18) (ad 19) (ad 20) (ad 21) (ad 22) (ad 23), o3 (ad 3) tx (ad 24) r1 r2 r3 r4 r5, o2 (ad 4) q1 q2 q3 q4 q5 q6 q7 q8, o8 (ad 5) (ad 25) (nI ra), aI G (ad 6) 6 ed, aI G (ad 7) 6 be, aI G (ad 8) 6 ri, aI G (ad 9) 6 wa, aI G (ad 10) 36 th, aI G (ad 11) 36 al, aT G (ad 12) 8 lw, aI G (ad 13) 120 ta, aI G (ad 14) 16 sd, aI G (ad 15) 6 ked, aI G (ad 16) 6 kbe, aI G (ad 17) 6 kri, aI G (ad 18) 6 kwa, aI G (ad 19) 36 kth, aI G (ad 20) 36 kal, aT G (ad 21) 8 klw, aI G (ad 22) 120 kta, aI G (ad 23) 16 ksd, aI G (ad 24) 120 rst, aI G (ad 25) 20 bo, o12 (ad 26) m0 (ad 27) (ad 28) ik m1 m2 m3 m4 m5 (ad 29) (ad 30) t1 t2 t3 t4 t5 t6 (ad 31) (nI ra) m6 m7 m8, aI G (ad 27) 1394 f, aI G (ad 28) 1394 fi, aI G (ad 29) 5 fb2, aZ G (ad 30) 64 tr2, aI G (ad 31) 20 bo, oT r.1 r.2.1 r.2.2.1 r.2.2.2.1 r.2.2.2.2.1 r.2.2.2.2.2.1 r.2.2.2.2.2.2.1, aI G r.2.2.2.2.2.2.1 r.2.2.2.2.2.2.2.1 r.2.2.2.2.2.2.2.2] ++ LW G (S ++ T)) hP hD hS hFc [26, 29, 27, 30] rfl rfl rfl (va_runV (As := [.int (nI k), .int y2, .int y3, .int y4]) (rest := [.int z]) ⟨hx, hb, hml, hown, hts⟩ hM (cwV 4 hts gT_X12_steady rfl rfl rfl (by decide +kernel) ⟨Nat.le_of_ble_eq_true rfl, Nat.le_of_ble_eq_true rfl⟩) (cp_V hK hE hS hPc hDc hFc (va_recv hK hP (ci := 12) (q0 := 26) rfl rfl)) rfl rfl hl.1 rfl (lv_room (Nat.le_of_ble_eq_true rfl)) dL_law_726 hf0) (fun H locs hP hD hS => ?_)
    refine lv_icmp_eq (tgt := 1190) hx hb dL_law_729 (by decide) (fun _ => ?_) (fun c9 => absurd rfl c9)
    have hP : va_P G.1 vwCl ([o11 (ad 0) (ad 1) (ad 2) ik (ad 3) (ad 4) (ad 5), o6 (ad 1) (nI nc) (nI nh) (nI nl) (nI nb) (nI ns) (ad 6) (ad 7) (ad 8) (ad 9) (ad 10) (ad 11) (ad 12) (ad 13) (ad 14), o6 (ad 2) kc kh kl kb ks (ad 15) (ad 16) (ad 17) (ad 18) (ad 19) (ad 20) (ad 21) (ad 22) (ad 23), o3 (ad 3) tx (ad 24) r1 r2 r3 r4 r5, o2 (ad 4) q1 q2 q3 q4 q5 q6 q7 q8, o8 (ad 5) (ad 25) (nI ra), aI G (ad 6) 6 ed, aI G (ad 7) 6 be, aI G (ad 8) 6 ri, aI G (ad 9) 6 wa, aI G (ad 10) 36 th, aI G (ad 11) 36 al, aT G (ad 12) 8 lw, aI G (ad 13) 120 ta, aI G (ad 14) 16 sd, aI G (ad 15) 6 ked, aI G (ad 16) 6 kbe, aI G (ad 17) 6 kri, aI G (ad 18) 6 kwa, aI G (ad 19) 36 kth, aI G (ad 20) 36 kal, aT G (ad 21) 8 klw, aI G (ad 22) 120 kta, aI G (ad 23) 16 ksd, aI G (ad 24) 120 rst, aI G (ad 25) 20 bo, o12 (ad 26) m0 (ad 27) (ad 28) ik m1 m2 m3 m4 m5 (ad 29) (ad 30) t1 t2 t3 t4 t5 t6 (ad 31) (nI ra) m6 m7 m8, aI G (ad 27) 1394 f, aI G (ad 28) 1394 fi, aI G (ad 29) 5 fb2, aZ G (ad 30) 64 tr2, aI G (ad 31) 20 bo] ++ (lawCells G r ++ LW G (S ++ T))) H := hP
    have hD : va_D (fun q : Nat => s.heap.size ≤ q) ([o11 (ad 0) (ad 1) (ad 2) ik (ad 3) (ad 4) (ad 5), o6 (ad 1) (nI nc) (nI nh) (nI nl) (nI nb) (nI ns) (ad 6) (ad 7) (ad 8) (ad 9) (ad 10) (ad 11) (ad 12) (ad 13) (ad 14), o6 (ad 2) kc kh kl kb ks (ad 15) (ad 16) (ad 17) (ad 18) (ad 19) (ad 20) (ad 21) (ad 22) (ad 23), o3 (ad 3) tx (ad 24) r1 r2 r3 r4 r5, o2 (ad 4) q1 q2 q3 q4 q5 q6 q7 q8, o8 (ad 5) (ad 25) (nI ra), aI G (ad 6) 6 ed, aI G (ad 7) 6 be, aI G (ad 8) 6 ri, aI G (ad 9) 6 wa, aI G (ad 10) 36 th, aI G (ad 11) 36 al, aT G (ad 12) 8 lw, aI G (ad 13) 120 ta, aI G (ad 14) 16 sd, aI G (ad 15) 6 ked, aI G (ad 16) 6 kbe, aI G (ad 17) 6 kri, aI G (ad 18) 6 kwa, aI G (ad 19) 36 kth, aI G (ad 20) 36 kal, aT G (ad 21) 8 klw, aI G (ad 22) 120 kta, aI G (ad 23) 16 ksd, aI G (ad 24) 120 rst, aI G (ad 25) 20 bo, o12 (ad 26) m0 (ad 27) (ad 28) ik m1 m2 m3 m4 m5 (ad 29) (ad 30) t1 t2 t3 t4 t5 t6 (ad 31) (nI ra) m6 m7 m8, aI G (ad 27) 1394 f, aI G (ad 28) 1394 fi, aI G (ad 29) 5 fb2, aZ G (ad 30) 64 tr2, aI G (ad 31) 20 bo] ++ (lawCells G r ++ LW G (S ++ T))) := hD
    have hP := wP_perm (LW_out G [o11 (ad 0) (ad 1) (ad 2) ik (ad 3) (ad 4) (ad 5), o6 (ad 1) (nI nc) (nI nh) (nI nl) (nI nb) (nI ns) (ad 6) (ad 7) (ad 8) (ad 9) (ad 10) (ad 11) (ad 12) (ad 13) (ad 14), o6 (ad 2) kc kh kl kb ks (ad 15) (ad 16) (ad 17) (ad 18) (ad 19) (ad 20) (ad 21) (ad 22) (ad 23), o3 (ad 3) tx (ad 24) r1 r2 r3 r4 r5, o2 (ad 4) q1 q2 q3 q4 q5 q6 q7 q8, o8 (ad 5) (ad 25) (nI ra), aI G (ad 6) 6 ed, aI G (ad 7) 6 be, aI G (ad 8) 6 ri, aI G (ad 9) 6 wa, aI G (ad 10) 36 th, aI G (ad 11) 36 al, aT G (ad 12) 8 lw, aI G (ad 13) 120 ta, aI G (ad 14) 16 sd, aI G (ad 15) 6 ked, aI G (ad 16) 6 kbe, aI G (ad 17) 6 kri, aI G (ad 18) 6 kwa, aI G (ad 19) 36 kth, aI G (ad 20) 36 kal, aT G (ad 21) 8 klw, aI G (ad 22) 120 kta, aI G (ad 23) 16 ksd, aI G (ad 24) 120 rst, aI G (ad 25) 20 bo, o12 (ad 26) m0 (ad 27) (ad 28) ik m1 m2 m3 m4 m5 (ad 29) (ad 30) t1 t2 t3 t4 t5 t6 (ad 31) (nI ra) m6 m7 m8, aI G (ad 27) 1394 f, aI G (ad 28) 1394 fi, aI G (ad 29) 5 fb2, aZ G (ad 30) 64 tr2, aI G (ad 31) 20 bo] S T r).symm hP
    have hD := wD_perm (LW_out G [o11 (ad 0) (ad 1) (ad 2) ik (ad 3) (ad 4) (ad 5), o6 (ad 1) (nI nc) (nI nh) (nI nl) (nI nb) (nI ns) (ad 6) (ad 7) (ad 8) (ad 9) (ad 10) (ad 11) (ad 12) (ad 13) (ad 14), o6 (ad 2) kc kh kl kb ks (ad 15) (ad 16) (ad 17) (ad 18) (ad 19) (ad 20) (ad 21) (ad 22) (ad 23), o3 (ad 3) tx (ad 24) r1 r2 r3 r4 r5, o2 (ad 4) q1 q2 q3 q4 q5 q6 q7 q8, o8 (ad 5) (ad 25) (nI ra), aI G (ad 6) 6 ed, aI G (ad 7) 6 be, aI G (ad 8) 6 ri, aI G (ad 9) 6 wa, aI G (ad 10) 36 th, aI G (ad 11) 36 al, aT G (ad 12) 8 lw, aI G (ad 13) 120 ta, aI G (ad 14) 16 sd, aI G (ad 15) 6 ked, aI G (ad 16) 6 kbe, aI G (ad 17) 6 kri, aI G (ad 18) 6 kwa, aI G (ad 19) 36 kth, aI G (ad 20) 36 kal, aT G (ad 21) 8 klw, aI G (ad 22) 120 kta, aI G (ad 23) 16 ksd, aI G (ad 24) 120 rst, aI G (ad 25) 20 bo, o12 (ad 26) m0 (ad 27) (ad 28) ik m1 m2 m3 m4 m5 (ad 29) (ad 30) t1 t2 t3 t4 t5 t6 (ad 31) (nI ra) m6 m7 m8, aI G (ad 27) 1394 f, aI G (ad 28) 1394 fi, aI G (ad 29) 5 fb2, aZ G (ad 30) 64 tr2, aI G (ad 31) 20 bo] S T r).symm hD
    refine W.widen (k := cells + 2) (n := slots + 125) (by omega) (by omega) ?_
    exact kk _ _ ⟨S ++ r :: T, nc, nh, nl, nb, ns, al, be, ed, lw, ri, sd, ta, th, wa, f, ik, kc, kh, kl, kb, ks, kal, kbe, ked, klw, kri, ksd, kta, kth, kwa, fi, tx, r1, r2, r3, r4, r5, rst, q1, q2, q3, q4, q5, q6, q7, q8, ra, bo, m0, m1, m2, m3, m4, m5, m6, m7, m8, t1, t2, t3, t4, t5, t6, fb2, tr2, hP, hD, hS, hSS, hKP, hra, hTs⟩
set_option maxHeartbeats 4000000 in
set_option maxRecDepth 100000 in
theorem k_worth {p : Program} {l : Launch} {e : Env} {s : State} {m : MethodId} {below : List Frame} {meth : Method} {c : Code} {G : GG} {b L : Nat} {xs : Nat → Int32} {ad : Nat → Nat} {Q : State → Prop} {cells slots : Nat} {H : Heap} {locs : List Loc} {ls : Array Slot} {i : Int32} (C0 : lw_At p s m meth c b L xs) (hK : va_K G.1 vwCl (TY G) s) (hE : EV G (fun q : Nat => s.heap.size ≤ q) s s.heap) (hce : cells + 2 ≤ 600000) (hsl : slots + 125 ≤ 7302250) (hl : lv_has ls 4 [(0, .ref b), (1, .ref (ad 0)), (2, .ref (ad 26)), (3, .int i)]) (in1 : vp_in (i + 1) L) (in2 : vp_in (i + 2) L) (in3 : vp_in (i + 3) L) (in4 : vp_in (i + 4) L) (in5 : vp_in (i + 5) L) (y1 y2 y3 y4 y5 : Int32) (e1 : xs (i + 1).toNatClampNeg = y1) (e2 : xs (i + 2).toNatClampNeg = y2) (e3 : xs (i + 3).toNatClampNeg = y3) (e4 : xs (i + 4).toNatClampNeg = y4) (e5 : xs (i + 5).toNatClampNeg = y5) (Ls : List LR) (nc nh nl nb ns : Nat) (al be ed : Nat → Int32) (lw : Nat → Option Nat) (ri sd ta th wa f : Nat → Int32) (ik kc kh kl kb ks : Int32) (kal kbe ked : Nat → Int32) (klw : Nat → Option Nat) (kri ksd kta kth kwa fi : Nat → Int32) (tx : Nat) (r1 r2 r3 r4 r5 : Int32) (rst : Nat → Int32) (g1 g2 g3 g4 g5 g6 g7 g8 : Int32) (ra : Nat) (bo : Nat → Int32) (m0 m1 m2 m3 m4 m5 m6 m7 m8 s1 s2 s3 s4 s5 s6 : Int32) (fb tr : Nat → Int32) (hP : va_P G.1 vwCl ([o11 (ad 0) (ad 1) (ad 2) ik (ad 3) (ad 4) (ad 5), o6 (ad 1) (nI nc) (nI nh) (nI nl) (nI nb) (nI ns) (ad 6) (ad 7) (ad 8) (ad 9) (ad 10) (ad 11) (ad 12) (ad 13) (ad 14), o6 (ad 2) kc kh kl kb ks (ad 15) (ad 16) (ad 17) (ad 18) (ad 19) (ad 20) (ad 21) (ad 22) (ad 23), o3 (ad 3) tx (ad 24) r1 r2 r3 r4 r5, o2 (ad 4) g1 g2 g3 g4 g5 g6 g7 g8, o8 (ad 5) (ad 25) (nI ra), aI G (ad 6) 6 ed, aI G (ad 7) 6 be, aI G (ad 8) 6 ri, aI G (ad 9) 6 wa, aI G (ad 10) 36 th, aI G (ad 11) 36 al, aT G (ad 12) 8 lw, aI G (ad 13) 120 ta, aI G (ad 14) 16 sd, aI G (ad 15) 6 ked, aI G (ad 16) 6 kbe, aI G (ad 17) 6 kri, aI G (ad 18) 6 kwa, aI G (ad 19) 36 kth, aI G (ad 20) 36 kal, aT G (ad 21) 8 klw, aI G (ad 22) 120 kta, aI G (ad 23) 16 ksd, aI G (ad 24) 120 rst, aI G (ad 25) 20 bo, o12 (ad 26) m0 (ad 27) (ad 28) ik m1 m2 m3 m4 m5 (ad 29) (ad 30) s1 s2 s3 s4 s5 s6 (ad 31) (nI ra) m6 m7 m8, aI G (ad 27) 1394 f, aI G (ad 28) 1394 fi, aI G (ad 29) 5 fb, aZ G (ad 30) 64 tr, aI G (ad 31) 20 bo] ++ LW G Ls) H) (hD : va_D (fun q : Nat => s.heap.size ≤ q) ([o11 (ad 0) (ad 1) (ad 2) ik (ad 3) (ad 4) (ad 5), o6 (ad 1) (nI nc) (nI nh) (nI nl) (nI nb) (nI ns) (ad 6) (ad 7) (ad 8) (ad 9) (ad 10) (ad 11) (ad 12) (ad 13) (ad 14), o6 (ad 2) kc kh kl kb ks (ad 15) (ad 16) (ad 17) (ad 18) (ad 19) (ad 20) (ad 21) (ad 22) (ad 23), o3 (ad 3) tx (ad 24) r1 r2 r3 r4 r5, o2 (ad 4) g1 g2 g3 g4 g5 g6 g7 g8, o8 (ad 5) (ad 25) (nI ra), aI G (ad 6) 6 ed, aI G (ad 7) 6 be, aI G (ad 8) 6 ri, aI G (ad 9) 6 wa, aI G (ad 10) 36 th, aI G (ad 11) 36 al, aT G (ad 12) 8 lw, aI G (ad 13) 120 ta, aI G (ad 14) 16 sd, aI G (ad 15) 6 ked, aI G (ad 16) 6 kbe, aI G (ad 17) 6 kri, aI G (ad 18) 6 kwa, aI G (ad 19) 36 kth, aI G (ad 20) 36 kal, aT G (ad 21) 8 klw, aI G (ad 22) 120 kta, aI G (ad 23) 16 ksd, aI G (ad 24) 120 rst, aI G (ad 25) 20 bo, o12 (ad 26) m0 (ad 27) (ad 28) ik m1 m2 m3 m4 m5 (ad 29) (ad 30) s1 s2 s3 s4 s5 s6 (ad 31) (nI ra) m6 m7 m8, aI G (ad 27) 1394 f, aI G (ad 28) 1394 fi, aI G (ad 29) 5 fb, aZ G (ad 30) 64 tr, aI G (ad 31) 20 bo] ++ LW G Ls)) (hS : va_S (fun q : Nat => s.heap.size ≤ q) s.heap H locs) (hSS : SS Ls nc nh nl nb ns al be ed lw ri sd ta th wa f) (hKP : KP Ls ik kc kh kl kb ks kal kbe ked klw kri ksd kta kth kwa fi) (hra : ra ≤ 1000) (hTs : ∀ r ∈ Ls, isT r.1) (kk : ∀ (H : Heap) (locs : List Loc), INV G (fun q : Nat => s.heap.size ≤ q) s ad H locs → W p l e room_1 s m #[Value.ref b] below meth c H locs (cells + 2) (slots + 125) Q (F0 m 1190 ls [])) : W p l e room_1 s m #[Value.ref b] below meth c H locs cells slots Q (F0 m 903 ls []) := by
  obtain ⟨hx, hb, hr, hml, hown, hts, hX, hbl, hlocks, hgv⟩ := C0
  have hown : s.vm.findClass RL = some m.cls := hown
  have hb : c.code = cL_law := hb
  have hA : ∀ q : Nat, s.heap.size ≤ q → (fun q : Nat => s.heap.size ≤ q) q := fun _ h => h
  have hbA : ¬ (fun q : Nat => s.heap.size ≤ q) b := Nat.not_le.mpr hbl
  have hf0 : cells + 0 ≤ room_1.cells ∧ slots + 0 ≤ room_1.slots := ⟨show cells + 0 ≤ 600000 by omega, show slots + 0 ≤ 7302250 by omega⟩
  rcases p_lawOf hSS y1 with ⟨hw, hlaw⟩ | ⟨hw, k, r, hk, hk8, ek, hrm, hr, hlaw⟩
  · obtain ⟨z, ⟨t1, t2, t3, t4, t5, t6, fb2, tr2⟩, h1, h2⟩ := p_worth_n hSS hw y2 y3 y4 s1 s2 s3 s4 s5 s6 fb tr
    refine lv_aload_n hx hb dL_law_903 rfl (lv_at hl 1 rfl) ?_
    refine lv_aload_n hx hb dL_law_904 rfl (lv_at hl 0 rfl) ?_
    refine lv_iload_n hx hb dL_law_905 rfl (lv_at hl 3 rfl) ?_
    refine lv_iconst (v := 1) hx hb dL_law_906 (by decide) ?_
    refine lv_iadd hx hb dL_law_907 ?_
    refine va_sld hx hb hX hbl hbA hS in1 dL_law_908 ?_
    refine lv_eqi e1 ?_
    refine lv_aload_n hx hb dL_law_909 rfl (lv_at hl 0 rfl) ?_
    refine lv_iload_n hx hb dL_law_910 rfl (lv_at hl 3 rfl) ?_
    refine lv_iconst (v := 2) hx hb dL_law_911 (by decide) ?_
    refine lv_iadd hx hb dL_law_912 ?_
    refine va_sld hx hb hX hbl hbA hS in2 dL_law_913 ?_
    refine lv_eqi e2 ?_
    refine lv_aload_n hx hb dL_law_914 rfl (lv_at hl 0 rfl) ?_
    refine lv_iload_n hx hb dL_law_915 rfl (lv_at hl 3 rfl) ?_
    refine lv_iconst (v := 3) hx hb dL_law_916 (by decide) ?_
    refine lv_iadd hx hb dL_law_917 ?_
    refine va_sld hx hb hX hbl hbA hS in3 dL_law_918 ?_
    refine lv_eqi e3 ?_
    refine lv_aload_n hx hb dL_law_919 rfl (lv_at hl 0 rfl) ?_
    refine lv_iload_n hx hb dL_law_920 rfl (lv_at hl 3 rfl) ?_
    refine lv_iconst (v := 4) hx hb dL_law_921 (by decide) ?_
    refine lv_iadd hx hb dL_law_922 ?_
    refine va_sld hx hb hX hbl hbA hS in4 dL_law_923 ?_
    refine lv_eqi e4 ?_
    have hPc := hP.sub (ws' := [o11 (ad 0) (ad 1) (ad 2) ik (ad 3) (ad 4) (ad 5), o6 (ad 1) (nI nc) (nI nh) (nI nl) (nI nb) (nI ns) (ad 6) (ad 7) (ad 8) (ad 9) (ad 10) (ad 11) (ad 12) (ad 13) (ad 14), aT G (ad 12) 8 lw]) [0, 1, 12] rfl
    have hDc := hD.sub (ws' := [o11 (ad 0) (ad 1) (ad 2) ik (ad 3) (ad 4) (ad 5), o6 (ad 1) (nI nc) (nI nh) (nI nl) (nI nb) (nI ns) (ad 6) (ad 7) (ad 8) (ad 9) (ad 10) (ad 11) (ad 12) (ad 13) (ad 14), aT G (ad 12) 8 lw]) [0, 1, 12] (by decide) rfl
    have hFc := va_free (wc := [o11 (ad 0) (ad 1) (ad 2) ik (ad 3) (ad 4) (ad 5), o6 (ad 1) (nI nc) (nI nh) (nI nl) (nI nb) (nI ns) (ad 6) (ad 7) (ad 8) (ad 9) (ad 10) (ad 11) (ad 12) (ad 13) (ad 14), aT G (ad 12) 8 lw]) hD hS hA [0, 1, 12] rfl
    have hM := c_X11_worth_n l G (ad 0) (ad 1) (ad 2) (ad 3) (ad 4) (ad 5) (ad 6) (ad 7) (ad 8) (ad 9) (ad 10) (ad 11) (ad 12) (ad 13) (ad 14) ik (nI nc) (nI nh) (nI nl) (nI nb) (nI ns) lw y1 y2 y3 y4 z hlaw h1 H.size
    refine cl_i (w1 := [o11 (ad 0) (ad 1) (ad 2) ik (ad 3) (ad 4) (ad 5), o6 (ad 1) (nI nc) (nI nh) (nI nl) (nI nb) (nI ns) (ad 6) (ad 7) (ad 8) (ad 9) (ad 10) (ad 11) (ad 12) (ad 13) (ad 14), aT G (ad 12) 8 lw]) (ws' := [o11 (ad 0) (ad 1) (ad 2) ik (ad 3) (ad 4) (ad 5), o6 (ad 1) (nI nc) (nI nh) (nI nl) (nI nb) (nI ns) (ad 6) (ad 7) (ad 8) (ad 9) (ad 10) (ad 11) (ad 12) (ad 13) (ad 14), o6 (ad 2) kc kh kl kb ks (ad 15) (ad 16) (ad 17) (ad 18) (ad 19) (ad 20) (ad 21) (ad 22) (ad 23), o3 (ad 3) tx (ad 24) r1 r2 r3 r4 r5, o2 (ad 4) g1 g2 g3 g4 g5 g6 g7 g8, o8 (ad 5) (ad 25) (nI ra), aI G (ad 6) 6 ed, aI G (ad 7) 6 be, aI G (ad 8) 6 ri, aI G (ad 9) 6 wa, aI G (ad 10) 36 th, aI G (ad 11) 36 al, aT G (ad 12) 8 lw, aI G (ad 13) 120 ta, aI G (ad 14) 16 sd, aI G (ad 15) 6 ked, aI G (ad 16) 6 kbe, aI G (ad 17) 6 kri, aI G (ad 18) 6 kwa, aI G (ad 19) 36 kth, aI G (ad 20) 36 kal, aT G (ad 21) 8 klw, aI G (ad 22) 120 kta, aI G (ad 23) 16 ksd, aI G (ad 24) 120 rst, aI G (ad 25) 20 bo, o12 (ad 26) m0 (ad 27) (ad 28) ik m1 m2 m3 m4 m5 (ad 29) (ad 30) s1 s2 s3 s4 s5 s6 (ad 31) (nI ra) m6 m7 m8, aI G (ad 27) 1394 f, aI G (ad 28) 1394 fi, aI G (ad 29) 5 fb, aZ G (ad 30) 64 tr, aI G (ad 31) 20 bo] ++ LW G Ls) hP hD hS hFc [0, 1, 12] rfl rfl rfl (va_runV (As := [.int y1, .int y2, .int y3, .int y4]) (rest := []) ⟨hx, hb, hml, hown, hts⟩ hM (cwV 4 hts gT_X11_worth rfl rfl rfl (by decide +kernel) ⟨Nat.le_of_ble_eq_true rfl, Nat.le_of_ble_eq_true rfl⟩) (cp_V hK hE hS hPc hDc hFc (va_recv hK hP (ci := 11) (q0 := 0) rfl rfl)) rfl rfl hl.1 rfl (lv_room (Nat.le_of_ble_eq_true rfl)) dL_law_924 hf0) (fun H locs hP hD hS => ?_)
    refine lv_aload_n hx hb dL_law_927 rfl (lv_at hl 2 rfl) ?_
    refine lv_aload_n hx hb dL_law_928 rfl (lv_at hl 0 rfl) ?_
    refine lv_iload_n hx hb dL_law_929 rfl (lv_at hl 3 rfl) ?_
    refine lv_iconst (v := 1) hx hb dL_law_930 (by decide) ?_
    refine lv_iadd hx hb dL_law_931 ?_
    refine va_sld hx hb hX hbl hbA hS in1 dL_law_932 ?_
    refine lv_eqi e1 ?_
    refine lv_aload_n hx hb dL_law_933 rfl (lv_at hl 0 rfl) ?_
    refine lv_iload_n hx hb dL_law_934 rfl (lv_at hl 3 rfl) ?_
    refine lv_iconst (v := 2) hx hb dL_law_935 (by decide) ?_
    refine lv_iadd hx hb dL_law_936 ?_
    refine va_sld hx hb hX hbl hbA hS in2 dL_law_937 ?_
    refine lv_eqi e2 ?_
    refine lv_aload_n hx hb dL_law_938 rfl (lv_at hl 0 rfl) ?_
    refine lv_iload_n hx hb dL_law_939 rfl (lv_at hl 3 rfl) ?_
    refine lv_iconst (v := 3) hx hb dL_law_940 (by decide) ?_
    refine lv_iadd hx hb dL_law_941 ?_
    refine va_sld hx hb hX hbl hbA hS in3 dL_law_942 ?_
    refine lv_eqi e3 ?_
    refine lv_aload_n hx hb dL_law_943 rfl (lv_at hl 0 rfl) ?_
    refine lv_iload_n hx hb dL_law_944 rfl (lv_at hl 3 rfl) ?_
    refine lv_iconst (v := 4) hx hb dL_law_945 (by decide) ?_
    refine lv_iadd hx hb dL_law_946 ?_
    refine va_sld hx hb hX hbl hbA hS in4 dL_law_947 ?_
    refine lv_eqi e4 ?_
    have hPc := hP.sub (ws' := [o12 (ad 26) m0 (ad 27) (ad 28) ik m1 m2 m3 m4 m5 (ad 29) (ad 30) s1 s2 s3 s4 s5 s6 (ad 31) (nI ra) m6 m7 m8, aI G (ad 29) 5 fb, aI G (ad 27) 1394 f, aZ G (ad 30) 64 tr]) [26, 29, 27, 30] rfl
    have hDc := hD.sub (ws' := [o12 (ad 26) m0 (ad 27) (ad 28) ik m1 m2 m3 m4 m5 (ad 29) (ad 30) s1 s2 s3 s4 s5 s6 (ad 31) (nI ra) m6 m7 m8, aI G (ad 29) 5 fb, aI G (ad 27) 1394 f, aZ G (ad 30) 64 tr]) [26, 29, 27, 30] (by decide) rfl
    have hFc := va_free (wc := [o12 (ad 26) m0 (ad 27) (ad 28) ik m1 m2 m3 m4 m5 (ad 29) (ad 30) s1 s2 s3 s4 s5 s6 (ad 31) (nI ra) m6 m7 m8, aI G (ad 29) 5 fb, aI G (ad 27) 1394 f, aZ G (ad 30) 64 tr]) hD hS hA [26, 29, 27, 30] rfl
    have hM := c_X12_worth l G (ad 26) (ad 27) (ad 28) (ad 29) (ad 30) (ad 31) m0 ik m1 m2 m3 m4 m5 s1 s2 s3 s4 s5 s6 (nI ra) m6 m7 m8 fb f tr y1 y2 y3 y4 z t1 t2 t3 t4 t5 t6 fb2 tr2 h2 H.size
    refine cl_i (w1 := [o12 (ad 26) m0 (ad 27) (ad 28) ik m1 m2 m3 m4 m5 (ad 29) (ad 30) t1 t2 t3 t4 t5 t6 (ad 31) (nI ra) m6 m7 m8, aI G (ad 29) 5 fb2, aI G (ad 27) 1394 f, aZ G (ad 30) 64 tr2]) (ws' := [o11 (ad 0) (ad 1) (ad 2) ik (ad 3) (ad 4) (ad 5), o6 (ad 1) (nI nc) (nI nh) (nI nl) (nI nb) (nI ns) (ad 6) (ad 7) (ad 8) (ad 9) (ad 10) (ad 11) (ad 12) (ad 13) (ad 14), o6 (ad 2) kc kh kl kb ks (ad 15) (ad 16) (ad 17) (ad 18) (ad 19) (ad 20) (ad 21) (ad 22) (ad 23), o3 (ad 3) tx (ad 24) r1 r2 r3 r4 r5, o2 (ad 4) g1 g2 g3 g4 g5 g6 g7 g8, o8 (ad 5) (ad 25) (nI ra), aI G (ad 6) 6 ed, aI G (ad 7) 6 be, aI G (ad 8) 6 ri, aI G (ad 9) 6 wa, aI G (ad 10) 36 th, aI G (ad 11) 36 al, aT G (ad 12) 8 lw, aI G (ad 13) 120 ta, aI G (ad 14) 16 sd, aI G (ad 15) 6 ked, aI G (ad 16) 6 kbe, aI G (ad 17) 6 kri, aI G (ad 18) 6 kwa, aI G (ad 19) 36 kth, aI G (ad 20) 36 kal, aT G (ad 21) 8 klw, aI G (ad 22) 120 kta, aI G (ad 23) 16 ksd, aI G (ad 24) 120 rst, aI G (ad 25) 20 bo, o12 (ad 26) m0 (ad 27) (ad 28) ik m1 m2 m3 m4 m5 (ad 29) (ad 30) t1 t2 t3 t4 t5 t6 (ad 31) (nI ra) m6 m7 m8, aI G (ad 27) 1394 f, aI G (ad 28) 1394 fi, aI G (ad 29) 5 fb2, aZ G (ad 30) 64 tr2, aI G (ad 31) 20 bo] ++ LW G Ls) hP hD hS hFc [26, 29, 27, 30] rfl rfl rfl (va_runV (As := [.int y1, .int y2, .int y3, .int y4]) (rest := [.int z]) ⟨hx, hb, hml, hown, hts⟩ hM (cwV 4 hts gT_X12_worth rfl rfl rfl (by decide +kernel) ⟨Nat.le_of_ble_eq_true rfl, Nat.le_of_ble_eq_true rfl⟩) (cp_V hK hE hS hPc hDc hFc (va_recv hK hP (ci := 12) (q0 := 26) rfl rfl)) rfl rfl hl.1 rfl (lv_room (Nat.le_of_ble_eq_true rfl)) dL_law_948 hf0) (fun H locs hP hD hS => ?_)
    refine lv_icmp_eq (tgt := 1190) hx hb dL_law_951 (by decide) (fun _ => ?_) (fun c9 => absurd rfl c9)
    refine W.widen (k := cells + 2) (n := slots + 125) (by omega) (by omega) ?_
    exact kk _ _ ⟨Ls, nc, nh, nl, nb, ns, al, be, ed, lw, ri, sd, ta, th, wa, f, ik, kc, kh, kl, kb, ks, kal, kbe, ked, klw, kri, ksd, kta, kth, kwa, fi, tx, r1, r2, r3, r4, r5, rst, g1, g2, g3, g4, g5, g6, g7, g8, ra, bo, m0, m1, m2, m3, m4, m5, m6, m7, m8, t1, t2, t3, t4, t5, t6, fb2, tr2, hP, hD, hS, hSS, hKP, hra, hTs⟩
  · subst ek
    have hcq : r.1 = 0 ∨ r.1 = 1 ∨ r.1 = 4 ∨ r.1 = 5 ∨ r.1 = 7 ∨ r.1 = 9 ∨ r.1 = 10 := hTs r hrm
    obtain ⟨z, ⟨q1, q2, q3, q4, q5, q6, q7, q8⟩, ⟨t1, t2, t3, t4, t5, t6, fb2, tr2⟩, h1, h2⟩ := p_worth_s hSS hk hk8 hr hw y2 y3 y4 g1 g2 g3 g4 g5 g6 g7 g8 s1 s2 s3 s4 s5 s6 fb tr
    obtain ⟨S, T, eL⟩ := List.append_of_mem hrm
    subst eL
    have hP := wP_perm (LW_out G [o11 (ad 0) (ad 1) (ad 2) ik (ad 3) (ad 4) (ad 5), o6 (ad 1) (nI nc) (nI nh) (nI nl) (nI nb) (nI ns) (ad 6) (ad 7) (ad 8) (ad 9) (ad 10) (ad 11) (ad 12) (ad 13) (ad 14), o6 (ad 2) kc kh kl kb ks (ad 15) (ad 16) (ad 17) (ad 18) (ad 19) (ad 20) (ad 21) (ad 22) (ad 23), o3 (ad 3) tx (ad 24) r1 r2 r3 r4 r5, o2 (ad 4) g1 g2 g3 g4 g5 g6 g7 g8, o8 (ad 5) (ad 25) (nI ra), aI G (ad 6) 6 ed, aI G (ad 7) 6 be, aI G (ad 8) 6 ri, aI G (ad 9) 6 wa, aI G (ad 10) 36 th, aI G (ad 11) 36 al, aT G (ad 12) 8 lw, aI G (ad 13) 120 ta, aI G (ad 14) 16 sd, aI G (ad 15) 6 ked, aI G (ad 16) 6 kbe, aI G (ad 17) 6 kri, aI G (ad 18) 6 kwa, aI G (ad 19) 36 kth, aI G (ad 20) 36 kal, aT G (ad 21) 8 klw, aI G (ad 22) 120 kta, aI G (ad 23) 16 ksd, aI G (ad 24) 120 rst, aI G (ad 25) 20 bo, o12 (ad 26) m0 (ad 27) (ad 28) ik m1 m2 m3 m4 m5 (ad 29) (ad 30) s1 s2 s3 s4 s5 s6 (ad 31) (nI ra) m6 m7 m8, aI G (ad 27) 1394 f, aI G (ad 28) 1394 fi, aI G (ad 29) 5 fb, aZ G (ad 30) 64 tr, aI G (ad 31) 20 bo] S T r) hP
    have hD := wD_perm (LW_out G [o11 (ad 0) (ad 1) (ad 2) ik (ad 3) (ad 4) (ad 5), o6 (ad 1) (nI nc) (nI nh) (nI nl) (nI nb) (nI ns) (ad 6) (ad 7) (ad 8) (ad 9) (ad 10) (ad 11) (ad 12) (ad 13) (ad 14), o6 (ad 2) kc kh kl kb ks (ad 15) (ad 16) (ad 17) (ad 18) (ad 19) (ad 20) (ad 21) (ad 22) (ad 23), o3 (ad 3) tx (ad 24) r1 r2 r3 r4 r5, o2 (ad 4) g1 g2 g3 g4 g5 g6 g7 g8, o8 (ad 5) (ad 25) (nI ra), aI G (ad 6) 6 ed, aI G (ad 7) 6 be, aI G (ad 8) 6 ri, aI G (ad 9) 6 wa, aI G (ad 10) 36 th, aI G (ad 11) 36 al, aT G (ad 12) 8 lw, aI G (ad 13) 120 ta, aI G (ad 14) 16 sd, aI G (ad 15) 6 ked, aI G (ad 16) 6 kbe, aI G (ad 17) 6 kri, aI G (ad 18) 6 kwa, aI G (ad 19) 36 kth, aI G (ad 20) 36 kal, aT G (ad 21) 8 klw, aI G (ad 22) 120 kta, aI G (ad 23) 16 ksd, aI G (ad 24) 120 rst, aI G (ad 25) 20 bo, o12 (ad 26) m0 (ad 27) (ad 28) ik m1 m2 m3 m4 m5 (ad 29) (ad 30) s1 s2 s3 s4 s5 s6 (ad 31) (nI ra) m6 m7 m8, aI G (ad 27) 1394 f, aI G (ad 28) 1394 fi, aI G (ad 29) 5 fb, aZ G (ad 30) 64 tr, aI G (ad 31) 20 bo] S T r) hD
    have hP : va_P G.1 vwCl ([o11 (ad 0) (ad 1) (ad 2) ik (ad 3) (ad 4) (ad 5), o6 (ad 1) (nI nc) (nI nh) (nI nl) (nI nb) (nI ns) (ad 6) (ad 7) (ad 8) (ad 9) (ad 10) (ad 11) (ad 12) (ad 13) (ad 14), o6 (ad 2) kc kh kl kb ks (ad 15) (ad 16) (ad 17) (ad 18) (ad 19) (ad 20) (ad 21) (ad 22) (ad 23), o3 (ad 3) tx (ad 24) r1 r2 r3 r4 r5, o2 (ad 4) g1 g2 g3 g4 g5 g6 g7 g8, o8 (ad 5) (ad 25) (nI ra), aI G (ad 6) 6 ed, aI G (ad 7) 6 be, aI G (ad 8) 6 ri, aI G (ad 9) 6 wa, aI G (ad 10) 36 th, aI G (ad 11) 36 al, aT G (ad 12) 8 lw, aI G (ad 13) 120 ta, aI G (ad 14) 16 sd, aI G (ad 15) 6 ked, aI G (ad 16) 6 kbe, aI G (ad 17) 6 kri, aI G (ad 18) 6 kwa, aI G (ad 19) 36 kth, aI G (ad 20) 36 kal, aT G (ad 21) 8 klw, aI G (ad 22) 120 kta, aI G (ad 23) 16 ksd, aI G (ad 24) 120 rst, aI G (ad 25) 20 bo, o12 (ad 26) m0 (ad 27) (ad 28) ik m1 m2 m3 m4 m5 (ad 29) (ad 30) s1 s2 s3 s4 s5 s6 (ad 31) (nI ra) m6 m7 m8, aI G (ad 27) 1394 f, aI G (ad 28) 1394 fi, aI G (ad 29) 5 fb, aZ G (ad 30) 64 tr, aI G (ad 31) 20 bo, oT r.1 r.2.1 r.2.2.1 r.2.2.2.1 r.2.2.2.2.1 r.2.2.2.2.2.1 r.2.2.2.2.2.2.1, aI G r.2.2.2.2.2.2.1 r.2.2.2.2.2.2.2.1 r.2.2.2.2.2.2.2.2] ++ LW G (S ++ T)) H := hP
    have hD : va_D (fun q : Nat => s.heap.size ≤ q) ([o11 (ad 0) (ad 1) (ad 2) ik (ad 3) (ad 4) (ad 5), o6 (ad 1) (nI nc) (nI nh) (nI nl) (nI nb) (nI ns) (ad 6) (ad 7) (ad 8) (ad 9) (ad 10) (ad 11) (ad 12) (ad 13) (ad 14), o6 (ad 2) kc kh kl kb ks (ad 15) (ad 16) (ad 17) (ad 18) (ad 19) (ad 20) (ad 21) (ad 22) (ad 23), o3 (ad 3) tx (ad 24) r1 r2 r3 r4 r5, o2 (ad 4) g1 g2 g3 g4 g5 g6 g7 g8, o8 (ad 5) (ad 25) (nI ra), aI G (ad 6) 6 ed, aI G (ad 7) 6 be, aI G (ad 8) 6 ri, aI G (ad 9) 6 wa, aI G (ad 10) 36 th, aI G (ad 11) 36 al, aT G (ad 12) 8 lw, aI G (ad 13) 120 ta, aI G (ad 14) 16 sd, aI G (ad 15) 6 ked, aI G (ad 16) 6 kbe, aI G (ad 17) 6 kri, aI G (ad 18) 6 kwa, aI G (ad 19) 36 kth, aI G (ad 20) 36 kal, aT G (ad 21) 8 klw, aI G (ad 22) 120 kta, aI G (ad 23) 16 ksd, aI G (ad 24) 120 rst, aI G (ad 25) 20 bo, o12 (ad 26) m0 (ad 27) (ad 28) ik m1 m2 m3 m4 m5 (ad 29) (ad 30) s1 s2 s3 s4 s5 s6 (ad 31) (nI ra) m6 m7 m8, aI G (ad 27) 1394 f, aI G (ad 28) 1394 fi, aI G (ad 29) 5 fb, aZ G (ad 30) 64 tr, aI G (ad 31) 20 bo, oT r.1 r.2.1 r.2.2.1 r.2.2.2.1 r.2.2.2.2.1 r.2.2.2.2.2.1 r.2.2.2.2.2.2.1, aI G r.2.2.2.2.2.2.1 r.2.2.2.2.2.2.2.1 r.2.2.2.2.2.2.2.2] ++ LW G (S ++ T)) := hD
    refine lv_aload_n hx hb dL_law_903 rfl (lv_at hl 1 rfl) ?_
    refine lv_aload_n hx hb dL_law_904 rfl (lv_at hl 0 rfl) ?_
    refine lv_iload_n hx hb dL_law_905 rfl (lv_at hl 3 rfl) ?_
    refine lv_iconst (v := 1) hx hb dL_law_906 (by decide) ?_
    refine lv_iadd hx hb dL_law_907 ?_
    refine va_sld hx hb hX hbl hbA hS in1 dL_law_908 ?_
    refine lv_eqi e1 ?_
    refine lv_aload_n hx hb dL_law_909 rfl (lv_at hl 0 rfl) ?_
    refine lv_iload_n hx hb dL_law_910 rfl (lv_at hl 3 rfl) ?_
    refine lv_iconst (v := 2) hx hb dL_law_911 (by decide) ?_
    refine lv_iadd hx hb dL_law_912 ?_
    refine va_sld hx hb hX hbl hbA hS in2 dL_law_913 ?_
    refine lv_eqi e2 ?_
    refine lv_aload_n hx hb dL_law_914 rfl (lv_at hl 0 rfl) ?_
    refine lv_iload_n hx hb dL_law_915 rfl (lv_at hl 3 rfl) ?_
    refine lv_iconst (v := 3) hx hb dL_law_916 (by decide) ?_
    refine lv_iadd hx hb dL_law_917 ?_
    refine va_sld hx hb hX hbl hbA hS in3 dL_law_918 ?_
    refine lv_eqi e3 ?_
    refine lv_aload_n hx hb dL_law_919 rfl (lv_at hl 0 rfl) ?_
    refine lv_iload_n hx hb dL_law_920 rfl (lv_at hl 3 rfl) ?_
    refine lv_iconst (v := 4) hx hb dL_law_921 (by decide) ?_
    refine lv_iadd hx hb dL_law_922 ?_
    refine va_sld hx hb hX hbl hbA hS in4 dL_law_923 ?_
    refine lv_eqi e4 ?_
    have hPc := hP.sub (ws' := [oT r.1 r.2.1 r.2.2.1 r.2.2.2.1 r.2.2.2.2.1 r.2.2.2.2.2.1 r.2.2.2.2.2.2.1, o11 (ad 0) (ad 1) (ad 2) ik (ad 3) (ad 4) (ad 5), o2 (ad 4) g1 g2 g3 g4 g5 g6 g7 g8, o6 (ad 1) (nI nc) (nI nh) (nI nl) (nI nb) (nI ns) (ad 6) (ad 7) (ad 8) (ad 9) (ad 10) (ad 11) (ad 12) (ad 13) (ad 14), aI G r.2.2.2.2.2.2.1 r.2.2.2.2.2.2.2.1 r.2.2.2.2.2.2.2.2, aI G (ad 7) 6 be, aI G (ad 6) 6 ed, aT G (ad 12) 8 lw, aI G (ad 8) 6 ri, aI G (ad 9) 6 wa]) [32, 0, 4, 1, 33, 7, 6, 12, 8, 9] rfl
    have hDc := hD.sub (ws' := [oT r.1 r.2.1 r.2.2.1 r.2.2.2.1 r.2.2.2.2.1 r.2.2.2.2.2.1 r.2.2.2.2.2.2.1, o11 (ad 0) (ad 1) (ad 2) ik (ad 3) (ad 4) (ad 5), o2 (ad 4) g1 g2 g3 g4 g5 g6 g7 g8, o6 (ad 1) (nI nc) (nI nh) (nI nl) (nI nb) (nI ns) (ad 6) (ad 7) (ad 8) (ad 9) (ad 10) (ad 11) (ad 12) (ad 13) (ad 14), aI G r.2.2.2.2.2.2.1 r.2.2.2.2.2.2.2.1 r.2.2.2.2.2.2.2.2, aI G (ad 7) 6 be, aI G (ad 6) 6 ed, aT G (ad 12) 8 lw, aI G (ad 8) 6 ri, aI G (ad 9) 6 wa]) [32, 0, 4, 1, 33, 7, 6, 12, 8, 9] (by decide) rfl
    have hFc := va_free (wc := [oT r.1 r.2.1 r.2.2.1 r.2.2.2.1 r.2.2.2.2.1 r.2.2.2.2.2.1 r.2.2.2.2.2.2.1, o11 (ad 0) (ad 1) (ad 2) ik (ad 3) (ad 4) (ad 5), o2 (ad 4) g1 g2 g3 g4 g5 g6 g7 g8, o6 (ad 1) (nI nc) (nI nh) (nI nl) (nI nb) (nI ns) (ad 6) (ad 7) (ad 8) (ad 9) (ad 10) (ad 11) (ad 12) (ad 13) (ad 14), aI G r.2.2.2.2.2.2.1 r.2.2.2.2.2.2.2.1 r.2.2.2.2.2.2.2.2, aI G (ad 7) 6 be, aI G (ad 6) 6 ed, aT G (ad 12) 8 lw, aI G (ad 8) 6 ri, aI G (ad 9) 6 wa]) hD hS hA [32, 0, 4, 1, 33, 7, 6, 12, 8, 9] rfl
    have hM := c_X11_worth_s l G r.1 hcq r.2.1 r.2.2.2.2.2.2.1 (ad 0) (ad 1) (ad 2) (ad 3) (ad 4) (ad 5) (ad 6) (ad 7) (ad 8) (ad 9) (ad 10) (ad 11) (ad 12) (ad 13) (ad 14) r.2.2.1 r.2.2.2.1 r.2.2.2.2.1 r.2.2.2.2.2.1 ik g1 g2 g3 g4 g5 g6 g7 g8 (nI nc) (nI nh) (nI nl) (nI nb) (nI ns) r.2.2.2.2.2.2.2.2 be ed lw ri wa r.2.2.2.2.2.2.2.1 (nI k) y2 y3 y4 z q1 q2 q3 q4 q5 q6 q7 q8 hlaw h1 H.size
    refine cl_i (w1 := [oT r.1 r.2.1 r.2.2.1 r.2.2.2.1 r.2.2.2.2.1 r.2.2.2.2.2.1 r.2.2.2.2.2.2.1, o11 (ad 0) (ad 1) (ad 2) ik (ad 3) (ad 4) (ad 5), o2 (ad 4) q1 q2 q3 q4 q5 q6 q7 q8, o6 (ad 1) (nI nc) (nI nh) (nI nl) (nI nb) (nI ns) (ad 6) (ad 7) (ad 8) (ad 9) (ad 10) (ad 11) (ad 12) (ad 13) (ad 14), aI G r.2.2.2.2.2.2.1 r.2.2.2.2.2.2.2.1 r.2.2.2.2.2.2.2.2, aI G (ad 7) 6 be, aI G (ad 6) 6 ed, aT G (ad 12) 8 lw, aI G (ad 8) 6 ri, aI G (ad 9) 6 wa]) (ws' := [o11 (ad 0) (ad 1) (ad 2) ik (ad 3) (ad 4) (ad 5), o6 (ad 1) (nI nc) (nI nh) (nI nl) (nI nb) (nI ns) (ad 6) (ad 7) (ad 8) (ad 9) (ad 10) (ad 11) (ad 12) (ad 13) (ad 14), o6 (ad 2) kc kh kl kb ks (ad 15) (ad 16) (ad 17) (ad 18) (ad 19) (ad 20) (ad 21) (ad 22) (ad 23), o3 (ad 3) tx (ad 24) r1 r2 r3 r4 r5, o2 (ad 4) q1 q2 q3 q4 q5 q6 q7 q8, o8 (ad 5) (ad 25) (nI ra), aI G (ad 6) 6 ed, aI G (ad 7) 6 be, aI G (ad 8) 6 ri, aI G (ad 9) 6 wa, aI G (ad 10) 36 th, aI G (ad 11) 36 al, aT G (ad 12) 8 lw, aI G (ad 13) 120 ta, aI G (ad 14) 16 sd, aI G (ad 15) 6 ked, aI G (ad 16) 6 kbe, aI G (ad 17) 6 kri, aI G (ad 18) 6 kwa, aI G (ad 19) 36 kth, aI G (ad 20) 36 kal, aT G (ad 21) 8 klw, aI G (ad 22) 120 kta, aI G (ad 23) 16 ksd, aI G (ad 24) 120 rst, aI G (ad 25) 20 bo, o12 (ad 26) m0 (ad 27) (ad 28) ik m1 m2 m3 m4 m5 (ad 29) (ad 30) s1 s2 s3 s4 s5 s6 (ad 31) (nI ra) m6 m7 m8, aI G (ad 27) 1394 f, aI G (ad 28) 1394 fi, aI G (ad 29) 5 fb, aZ G (ad 30) 64 tr, aI G (ad 31) 20 bo, oT r.1 r.2.1 r.2.2.1 r.2.2.2.1 r.2.2.2.2.1 r.2.2.2.2.2.1 r.2.2.2.2.2.2.1, aI G r.2.2.2.2.2.2.1 r.2.2.2.2.2.2.2.1 r.2.2.2.2.2.2.2.2] ++ LW G (S ++ T)) hP hD hS hFc [32, 0, 4, 1, 33, 7, 6, 12, 8, 9] rfl rfl rfl (va_runV (As := [.int (nI k), .int y2, .int y3, .int y4]) (rest := []) ⟨hx, hb, hml, hown, hts⟩ hM (cwV 4 hts gT_X11_worth rfl rfl rfl (by decide +kernel) ⟨Nat.le_of_ble_eq_true rfl, Nat.le_of_ble_eq_true rfl⟩) (cp_V hK hE hS hPc hDc hFc (va_recv hK hP (ci := 11) (q0 := 0) rfl rfl)) rfl rfl hl.1 rfl (lv_room (Nat.le_of_ble_eq_true rfl)) dL_law_924 hf0) (fun H locs hP hD hS => ?_)
    refine lv_aload_n hx hb dL_law_927 rfl (lv_at hl 2 rfl) ?_
    refine lv_aload_n hx hb dL_law_928 rfl (lv_at hl 0 rfl) ?_
    refine lv_iload_n hx hb dL_law_929 rfl (lv_at hl 3 rfl) ?_
    refine lv_iconst (v := 1) hx hb dL_law_930 (by decide) ?_
    refine lv_iadd hx hb dL_law_931 ?_
    refine va_sld hx hb hX hbl hbA hS in1 dL_law_932 ?_
    refine lv_eqi e1 ?_
    refine lv_aload_n hx hb dL_law_933 rfl (lv_at hl 0 rfl) ?_
    refine lv_iload_n hx hb dL_law_934 rfl (lv_at hl 3 rfl) ?_
    refine lv_iconst (v := 2) hx hb dL_law_935 (by decide) ?_
    refine lv_iadd hx hb dL_law_936 ?_
    refine va_sld hx hb hX hbl hbA hS in2 dL_law_937 ?_
    refine lv_eqi e2 ?_
    refine lv_aload_n hx hb dL_law_938 rfl (lv_at hl 0 rfl) ?_
    refine lv_iload_n hx hb dL_law_939 rfl (lv_at hl 3 rfl) ?_
    refine lv_iconst (v := 3) hx hb dL_law_940 (by decide) ?_
    refine lv_iadd hx hb dL_law_941 ?_
    refine va_sld hx hb hX hbl hbA hS in3 dL_law_942 ?_
    refine lv_eqi e3 ?_
    refine lv_aload_n hx hb dL_law_943 rfl (lv_at hl 0 rfl) ?_
    refine lv_iload_n hx hb dL_law_944 rfl (lv_at hl 3 rfl) ?_
    refine lv_iconst (v := 4) hx hb dL_law_945 (by decide) ?_
    refine lv_iadd hx hb dL_law_946 ?_
    refine va_sld hx hb hX hbl hbA hS in4 dL_law_947 ?_
    refine lv_eqi e4 ?_
    have hPc := hP.sub (ws' := [o12 (ad 26) m0 (ad 27) (ad 28) ik m1 m2 m3 m4 m5 (ad 29) (ad 30) s1 s2 s3 s4 s5 s6 (ad 31) (nI ra) m6 m7 m8, aI G (ad 29) 5 fb, aI G (ad 27) 1394 f, aZ G (ad 30) 64 tr]) [26, 29, 27, 30] rfl
    have hDc := hD.sub (ws' := [o12 (ad 26) m0 (ad 27) (ad 28) ik m1 m2 m3 m4 m5 (ad 29) (ad 30) s1 s2 s3 s4 s5 s6 (ad 31) (nI ra) m6 m7 m8, aI G (ad 29) 5 fb, aI G (ad 27) 1394 f, aZ G (ad 30) 64 tr]) [26, 29, 27, 30] (by decide) rfl
    have hFc := va_free (wc := [o12 (ad 26) m0 (ad 27) (ad 28) ik m1 m2 m3 m4 m5 (ad 29) (ad 30) s1 s2 s3 s4 s5 s6 (ad 31) (nI ra) m6 m7 m8, aI G (ad 29) 5 fb, aI G (ad 27) 1394 f, aZ G (ad 30) 64 tr]) hD hS hA [26, 29, 27, 30] rfl
    have hM := c_X12_worth l G (ad 26) (ad 27) (ad 28) (ad 29) (ad 30) (ad 31) m0 ik m1 m2 m3 m4 m5 s1 s2 s3 s4 s5 s6 (nI ra) m6 m7 m8 fb f tr (nI k) y2 y3 y4 z t1 t2 t3 t4 t5 t6 fb2 tr2 h2 H.size
    refine cl_i (w1 := [o12 (ad 26) m0 (ad 27) (ad 28) ik m1 m2 m3 m4 m5 (ad 29) (ad 30) t1 t2 t3 t4 t5 t6 (ad 31) (nI ra) m6 m7 m8, aI G (ad 29) 5 fb2, aI G (ad 27) 1394 f, aZ G (ad 30) 64 tr2]) (ws' := [o11 (ad 0) (ad 1) (ad 2) ik (ad 3) (ad 4) (ad 5), o6 (ad 1) (nI nc) (nI nh) (nI nl) (nI nb) (nI ns) (ad 6) (ad 7) (ad 8) (ad 9) (ad 10) (ad 11) (ad 12) (ad 13) (ad 14), o6 (ad 2) kc kh kl kb ks (ad 15) (ad 16) (ad 17) (ad 18) (ad 19) (ad 20) (ad 21) (ad 22) (ad 23), o3 (ad 3) tx (ad 24) r1 r2 r3 r4 r5, o2 (ad 4) q1 q2 q3 q4 q5 q6 q7 q8, o8 (ad 5) (ad 25) (nI ra), aI G (ad 6) 6 ed, aI G (ad 7) 6 be, aI G (ad 8) 6 ri, aI G (ad 9) 6 wa, aI G (ad 10) 36 th, aI G (ad 11) 36 al, aT G (ad 12) 8 lw, aI G (ad 13) 120 ta, aI G (ad 14) 16 sd, aI G (ad 15) 6 ked, aI G (ad 16) 6 kbe, aI G (ad 17) 6 kri, aI G (ad 18) 6 kwa, aI G (ad 19) 36 kth, aI G (ad 20) 36 kal, aT G (ad 21) 8 klw, aI G (ad 22) 120 kta, aI G (ad 23) 16 ksd, aI G (ad 24) 120 rst, aI G (ad 25) 20 bo, o12 (ad 26) m0 (ad 27) (ad 28) ik m1 m2 m3 m4 m5 (ad 29) (ad 30) t1 t2 t3 t4 t5 t6 (ad 31) (nI ra) m6 m7 m8, aI G (ad 27) 1394 f, aI G (ad 28) 1394 fi, aI G (ad 29) 5 fb2, aZ G (ad 30) 64 tr2, aI G (ad 31) 20 bo, oT r.1 r.2.1 r.2.2.1 r.2.2.2.1 r.2.2.2.2.1 r.2.2.2.2.2.1 r.2.2.2.2.2.2.1, aI G r.2.2.2.2.2.2.1 r.2.2.2.2.2.2.2.1 r.2.2.2.2.2.2.2.2] ++ LW G (S ++ T)) hP hD hS hFc [26, 29, 27, 30] rfl rfl rfl (va_runV (As := [.int (nI k), .int y2, .int y3, .int y4]) (rest := [.int z]) ⟨hx, hb, hml, hown, hts⟩ hM (cwV 4 hts gT_X12_worth rfl rfl rfl (by decide +kernel) ⟨Nat.le_of_ble_eq_true rfl, Nat.le_of_ble_eq_true rfl⟩) (cp_V hK hE hS hPc hDc hFc (va_recv hK hP (ci := 12) (q0 := 26) rfl rfl)) rfl rfl hl.1 rfl (lv_room (Nat.le_of_ble_eq_true rfl)) dL_law_948 hf0) (fun H locs hP hD hS => ?_)
    refine lv_icmp_eq (tgt := 1190) hx hb dL_law_951 (by decide) (fun _ => ?_) (fun c9 => absurd rfl c9)
    have hP : va_P G.1 vwCl ([o11 (ad 0) (ad 1) (ad 2) ik (ad 3) (ad 4) (ad 5), o6 (ad 1) (nI nc) (nI nh) (nI nl) (nI nb) (nI ns) (ad 6) (ad 7) (ad 8) (ad 9) (ad 10) (ad 11) (ad 12) (ad 13) (ad 14), o6 (ad 2) kc kh kl kb ks (ad 15) (ad 16) (ad 17) (ad 18) (ad 19) (ad 20) (ad 21) (ad 22) (ad 23), o3 (ad 3) tx (ad 24) r1 r2 r3 r4 r5, o2 (ad 4) q1 q2 q3 q4 q5 q6 q7 q8, o8 (ad 5) (ad 25) (nI ra), aI G (ad 6) 6 ed, aI G (ad 7) 6 be, aI G (ad 8) 6 ri, aI G (ad 9) 6 wa, aI G (ad 10) 36 th, aI G (ad 11) 36 al, aT G (ad 12) 8 lw, aI G (ad 13) 120 ta, aI G (ad 14) 16 sd, aI G (ad 15) 6 ked, aI G (ad 16) 6 kbe, aI G (ad 17) 6 kri, aI G (ad 18) 6 kwa, aI G (ad 19) 36 kth, aI G (ad 20) 36 kal, aT G (ad 21) 8 klw, aI G (ad 22) 120 kta, aI G (ad 23) 16 ksd, aI G (ad 24) 120 rst, aI G (ad 25) 20 bo, o12 (ad 26) m0 (ad 27) (ad 28) ik m1 m2 m3 m4 m5 (ad 29) (ad 30) t1 t2 t3 t4 t5 t6 (ad 31) (nI ra) m6 m7 m8, aI G (ad 27) 1394 f, aI G (ad 28) 1394 fi, aI G (ad 29) 5 fb2, aZ G (ad 30) 64 tr2, aI G (ad 31) 20 bo] ++ (lawCells G r ++ LW G (S ++ T))) H := hP
    have hD : va_D (fun q : Nat => s.heap.size ≤ q) ([o11 (ad 0) (ad 1) (ad 2) ik (ad 3) (ad 4) (ad 5), o6 (ad 1) (nI nc) (nI nh) (nI nl) (nI nb) (nI ns) (ad 6) (ad 7) (ad 8) (ad 9) (ad 10) (ad 11) (ad 12) (ad 13) (ad 14), o6 (ad 2) kc kh kl kb ks (ad 15) (ad 16) (ad 17) (ad 18) (ad 19) (ad 20) (ad 21) (ad 22) (ad 23), o3 (ad 3) tx (ad 24) r1 r2 r3 r4 r5, o2 (ad 4) q1 q2 q3 q4 q5 q6 q7 q8, o8 (ad 5) (ad 25) (nI ra), aI G (ad 6) 6 ed, aI G (ad 7) 6 be, aI G (ad 8) 6 ri, aI G (ad 9) 6 wa, aI G (ad 10) 36 th, aI G (ad 11) 36 al, aT G (ad 12) 8 lw, aI G (ad 13) 120 ta, aI G (ad 14) 16 sd, aI G (ad 15) 6 ked, aI G (ad 16) 6 kbe, aI G (ad 17) 6 kri, aI G (ad 18) 6 kwa, aI G (ad 19) 36 kth, aI G (ad 20) 36 kal, aT G (ad 21) 8 klw, aI G (ad 22) 120 kta, aI G (ad 23) 16 ksd, aI G (ad 24) 120 rst, aI G (ad 25) 20 bo, o12 (ad 26) m0 (ad 27) (ad 28) ik m1 m2 m3 m4 m5 (ad 29) (ad 30) t1 t2 t3 t4 t5 t6 (ad 31) (nI ra) m6 m7 m8, aI G (ad 27) 1394 f, aI G (ad 28) 1394 fi, aI G (ad 29) 5 fb2, aZ G (ad 30) 64 tr2, aI G (ad 31) 20 bo] ++ (lawCells G r ++ LW G (S ++ T))) := hD
    have hP := wP_perm (LW_out G [o11 (ad 0) (ad 1) (ad 2) ik (ad 3) (ad 4) (ad 5), o6 (ad 1) (nI nc) (nI nh) (nI nl) (nI nb) (nI ns) (ad 6) (ad 7) (ad 8) (ad 9) (ad 10) (ad 11) (ad 12) (ad 13) (ad 14), o6 (ad 2) kc kh kl kb ks (ad 15) (ad 16) (ad 17) (ad 18) (ad 19) (ad 20) (ad 21) (ad 22) (ad 23), o3 (ad 3) tx (ad 24) r1 r2 r3 r4 r5, o2 (ad 4) q1 q2 q3 q4 q5 q6 q7 q8, o8 (ad 5) (ad 25) (nI ra), aI G (ad 6) 6 ed, aI G (ad 7) 6 be, aI G (ad 8) 6 ri, aI G (ad 9) 6 wa, aI G (ad 10) 36 th, aI G (ad 11) 36 al, aT G (ad 12) 8 lw, aI G (ad 13) 120 ta, aI G (ad 14) 16 sd, aI G (ad 15) 6 ked, aI G (ad 16) 6 kbe, aI G (ad 17) 6 kri, aI G (ad 18) 6 kwa, aI G (ad 19) 36 kth, aI G (ad 20) 36 kal, aT G (ad 21) 8 klw, aI G (ad 22) 120 kta, aI G (ad 23) 16 ksd, aI G (ad 24) 120 rst, aI G (ad 25) 20 bo, o12 (ad 26) m0 (ad 27) (ad 28) ik m1 m2 m3 m4 m5 (ad 29) (ad 30) t1 t2 t3 t4 t5 t6 (ad 31) (nI ra) m6 m7 m8, aI G (ad 27) 1394 f, aI G (ad 28) 1394 fi, aI G (ad 29) 5 fb2, aZ G (ad 30) 64 tr2, aI G (ad 31) 20 bo] S T r).symm hP
    have hD := wD_perm (LW_out G [o11 (ad 0) (ad 1) (ad 2) ik (ad 3) (ad 4) (ad 5), o6 (ad 1) (nI nc) (nI nh) (nI nl) (nI nb) (nI ns) (ad 6) (ad 7) (ad 8) (ad 9) (ad 10) (ad 11) (ad 12) (ad 13) (ad 14), o6 (ad 2) kc kh kl kb ks (ad 15) (ad 16) (ad 17) (ad 18) (ad 19) (ad 20) (ad 21) (ad 22) (ad 23), o3 (ad 3) tx (ad 24) r1 r2 r3 r4 r5, o2 (ad 4) q1 q2 q3 q4 q5 q6 q7 q8, o8 (ad 5) (ad 25) (nI ra), aI G (ad 6) 6 ed, aI G (ad 7) 6 be, aI G (ad 8) 6 ri, aI G (ad 9) 6 wa, aI G (ad 10) 36 th, aI G (ad 11) 36 al, aT G (ad 12) 8 lw, aI G (ad 13) 120 ta, aI G (ad 14) 16 sd, aI G (ad 15) 6 ked, aI G (ad 16) 6 kbe, aI G (ad 17) 6 kri, aI G (ad 18) 6 kwa, aI G (ad 19) 36 kth, aI G (ad 20) 36 kal, aT G (ad 21) 8 klw, aI G (ad 22) 120 kta, aI G (ad 23) 16 ksd, aI G (ad 24) 120 rst, aI G (ad 25) 20 bo, o12 (ad 26) m0 (ad 27) (ad 28) ik m1 m2 m3 m4 m5 (ad 29) (ad 30) t1 t2 t3 t4 t5 t6 (ad 31) (nI ra) m6 m7 m8, aI G (ad 27) 1394 f, aI G (ad 28) 1394 fi, aI G (ad 29) 5 fb2, aZ G (ad 30) 64 tr2, aI G (ad 31) 20 bo] S T r).symm hD
    refine W.widen (k := cells + 2) (n := slots + 125) (by omega) (by omega) ?_
    exact kk _ _ ⟨S ++ r :: T, nc, nh, nl, nb, ns, al, be, ed, lw, ri, sd, ta, th, wa, f, ik, kc, kh, kl, kb, ks, kal, kbe, ked, klw, kri, ksd, kta, kth, kwa, fi, tx, r1, r2, r3, r4, r5, rst, q1, q2, q3, q4, q5, q6, q7, q8, ra, bo, m0, m1, m2, m3, m4, m5, m6, m7, m8, t1, t2, t3, t4, t5, t6, fb2, tr2, hP, hD, hS, hSS, hKP, hra, hTs⟩
