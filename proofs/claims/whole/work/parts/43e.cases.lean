/-! the law's cases: toss, up, same -/
set_option maxHeartbeats 4000000 in
set_option maxRecDepth 100000 in
theorem k_toss {p : Program} {l : Launch} {e : Env} {s : State} {m : MethodId} {below : List Frame} {meth : Method} {c : Code} {G : GG} {b L : Nat} {xs : Nat → Int32} {ad : Nat → Nat} {Q : State → Prop} {cells slots : Nat} {H : Heap} {locs : List Loc} {ls : Array Slot} {i : Int32} (C0 : lw_At p s m meth c b L xs) (hK : va_K G.1 vwCl (TY G) s) (hE : EV G (fun q : Nat => s.heap.size ≤ q) s s.heap) (hce : cells + 2 ≤ 600000) (hsl : slots + 125 ≤ 7302250) (hl : lv_has ls 4 [(0, .ref b), (1, .ref (ad 0)), (2, .ref (ad 26)), (3, .int i)]) (in1 : vp_in (i + 1) L) (in2 : vp_in (i + 2) L) (in3 : vp_in (i + 3) L) (in4 : vp_in (i + 4) L) (in5 : vp_in (i + 5) L) (y1 y2 y3 y4 y5 : Int32) (e1 : xs (i + 1).toNatClampNeg = y1) (e2 : xs (i + 2).toNatClampNeg = y2) (e3 : xs (i + 3).toNatClampNeg = y3) (e4 : xs (i + 4).toNatClampNeg = y4) (e5 : xs (i + 5).toNatClampNeg = y5) (Ls : List LR) (nc nh nl nb ns : Nat) (al be ed : Nat → Int32) (lw : Nat → Option Nat) (ri sd ta th wa f : Nat → Int32) (ik kc kh kl kb ks : Int32) (kal kbe ked : Nat → Int32) (klw : Nat → Option Nat) (kri ksd kta kth kwa fi : Nat → Int32) (tx : Nat) (r1 r2 r3 r4 r5 : Int32) (rst : Nat → Int32) (g1 g2 g3 g4 g5 g6 g7 g8 : Int32) (ra : Nat) (bo : Nat → Int32) (m0 m1 m2 m3 m4 m5 m6 m7 m8 s1 s2 s3 s4 s5 s6 : Int32) (fb tr : Nat → Int32) (hP : va_P G.1 vwCl ([o11 (ad 0) (ad 1) (ad 2) ik (ad 3) (ad 4) (ad 5), o6 (ad 1) (nI nc) (nI nh) (nI nl) (nI nb) (nI ns) (ad 6) (ad 7) (ad 8) (ad 9) (ad 10) (ad 11) (ad 12) (ad 13) (ad 14), o6 (ad 2) kc kh kl kb ks (ad 15) (ad 16) (ad 17) (ad 18) (ad 19) (ad 20) (ad 21) (ad 22) (ad 23), o3 (ad 3) tx (ad 24) r1 r2 r3 r4 r5, o2 (ad 4) g1 g2 g3 g4 g5 g6 g7 g8, o8 (ad 5) (ad 25) (nI ra), aI G (ad 6) 6 ed, aI G (ad 7) 6 be, aI G (ad 8) 6 ri, aI G (ad 9) 6 wa, aI G (ad 10) 36 th, aI G (ad 11) 36 al, aT G (ad 12) 8 lw, aI G (ad 13) 120 ta, aI G (ad 14) 16 sd, aI G (ad 15) 6 ked, aI G (ad 16) 6 kbe, aI G (ad 17) 6 kri, aI G (ad 18) 6 kwa, aI G (ad 19) 36 kth, aI G (ad 20) 36 kal, aT G (ad 21) 8 klw, aI G (ad 22) 120 kta, aI G (ad 23) 16 ksd, aI G (ad 24) 120 rst, aI G (ad 25) 20 bo, o12 (ad 26) m0 (ad 27) (ad 28) ik m1 m2 m3 m4 m5 (ad 29) (ad 30) s1 s2 s3 s4 s5 s6 (ad 31) (nI ra) m6 m7 m8, aI G (ad 27) 1394 f, aI G (ad 28) 1394 fi, aI G (ad 29) 5 fb, aZ G (ad 30) 64 tr, aI G (ad 31) 20 bo] ++ LW G Ls) H) (hD : va_D (fun q : Nat => s.heap.size ≤ q) ([o11 (ad 0) (ad 1) (ad 2) ik (ad 3) (ad 4) (ad 5), o6 (ad 1) (nI nc) (nI nh) (nI nl) (nI nb) (nI ns) (ad 6) (ad 7) (ad 8) (ad 9) (ad 10) (ad 11) (ad 12) (ad 13) (ad 14), o6 (ad 2) kc kh kl kb ks (ad 15) (ad 16) (ad 17) (ad 18) (ad 19) (ad 20) (ad 21) (ad 22) (ad 23), o3 (ad 3) tx (ad 24) r1 r2 r3 r4 r5, o2 (ad 4) g1 g2 g3 g4 g5 g6 g7 g8, o8 (ad 5) (ad 25) (nI ra), aI G (ad 6) 6 ed, aI G (ad 7) 6 be, aI G (ad 8) 6 ri, aI G (ad 9) 6 wa, aI G (ad 10) 36 th, aI G (ad 11) 36 al, aT G (ad 12) 8 lw, aI G (ad 13) 120 ta, aI G (ad 14) 16 sd, aI G (ad 15) 6 ked, aI G (ad 16) 6 kbe, aI G (ad 17) 6 kri, aI G (ad 18) 6 kwa, aI G (ad 19) 36 kth, aI G (ad 20) 36 kal, aT G (ad 21) 8 klw, aI G (ad 22) 120 kta, aI G (ad 23) 16 ksd, aI G (ad 24) 120 rst, aI G (ad 25) 20 bo, o12 (ad 26) m0 (ad 27) (ad 28) ik m1 m2 m3 m4 m5 (ad 29) (ad 30) s1 s2 s3 s4 s5 s6 (ad 31) (nI ra) m6 m7 m8, aI G (ad 27) 1394 f, aI G (ad 28) 1394 fi, aI G (ad 29) 5 fb, aZ G (ad 30) 64 tr, aI G (ad 31) 20 bo] ++ LW G Ls)) (hS : va_S (fun q : Nat => s.heap.size ≤ q) s.heap H locs) (hSS : SS Ls nc nh nl nb ns al be ed lw ri sd ta th wa f) (hKP : KP Ls ik kc kh kl kb ks kal kbe ked klw kri ksd kta kth kwa fi) (hra : ra ≤ 1000) (hTs : ∀ r ∈ Ls, isT r.1) (kk : ∀ (H : Heap) (locs : List Loc), INV G (fun q : Nat => s.heap.size ≤ q) s ad H locs → W p l e room_1 s m #[Value.ref b] below meth c H locs (cells + 2) (slots + 125) Q (F0 m 1190 ls [])) : W p l e room_1 s m #[Value.ref b] below meth c H locs cells slots Q (F0 m 437 ls []) := by
  obtain ⟨hx, hb, hr, hml, hown, hts, hX, hbl, hlocks, hgv⟩ := C0
  have hown : s.vm.findClass RL = some m.cls := hown
  have hb : c.code = cL_law := hb
  have hA : ∀ q : Nat, s.heap.size ≤ q → (fun q : Nat => s.heap.size ≤ q) q := fun _ h => h
  have hbA : ¬ (fun q : Nat => s.heap.size ≤ q) b := Nat.not_le.mpr hbl
  have hf0 : cells + 0 ≤ room_1.cells ∧ slots + 0 ≤ room_1.slots := ⟨show cells + 0 ≤ 600000 by omega, show slots + 0 ≤ 7302250 by omega⟩
  rcases p_lawOf hSS y1 with ⟨hw, hlaw⟩ | ⟨hw, k, r, hk, hk8, ek, hrm, hr, hlaw⟩
  · obtain ⟨z, ⟨t1, t2, t3, t4, t5, t6, fb2, tr2⟩, h1, h2⟩ := p_toss_n hSS hw y2 y3 y4 y5 s1 s2 s3 s4 s5 s6 fb tr
    refine lv_aload_n hx hb dL_law_437 rfl (lv_at hl 1 rfl) ?_
    refine lv_aload_n hx hb dL_law_438 rfl (lv_at hl 0 rfl) ?_
    refine lv_iload_n hx hb dL_law_439 rfl (lv_at hl 3 rfl) ?_
    refine lv_iconst (v := 1) hx hb dL_law_440 (by decide) ?_
    refine lv_iadd hx hb dL_law_441 ?_
    refine va_sld hx hb hX hbl hbA hS in1 dL_law_442 ?_
    refine lv_eqi e1 ?_
    refine lv_aload_n hx hb dL_law_443 rfl (lv_at hl 0 rfl) ?_
    refine lv_iload_n hx hb dL_law_444 rfl (lv_at hl 3 rfl) ?_
    refine lv_iconst (v := 2) hx hb dL_law_445 (by decide) ?_
    refine lv_iadd hx hb dL_law_446 ?_
    refine va_sld hx hb hX hbl hbA hS in2 dL_law_447 ?_
    refine lv_eqi e2 ?_
    refine lv_aload_n hx hb dL_law_448 rfl (lv_at hl 0 rfl) ?_
    refine lv_iload_n hx hb dL_law_449 rfl (lv_at hl 3 rfl) ?_
    refine lv_iconst (v := 3) hx hb dL_law_450 (by decide) ?_
    refine lv_iadd hx hb dL_law_451 ?_
    refine va_sld hx hb hX hbl hbA hS in3 dL_law_452 ?_
    refine lv_eqi e3 ?_
    refine lv_aload_n hx hb dL_law_453 rfl (lv_at hl 0 rfl) ?_
    refine lv_iload_n hx hb dL_law_454 rfl (lv_at hl 3 rfl) ?_
    refine lv_iconst (v := 4) hx hb dL_law_455 (by decide) ?_
    refine lv_iadd hx hb dL_law_456 ?_
    refine va_sld hx hb hX hbl hbA hS in4 dL_law_457 ?_
    refine lv_eqi e4 ?_
    refine lv_aload_n hx hb dL_law_458 rfl (lv_at hl 0 rfl) ?_
    refine lv_iload_n hx hb dL_law_459 rfl (lv_at hl 3 rfl) ?_
    refine lv_iconst (v := 5) hx hb dL_law_460 (by decide) ?_
    refine lv_iadd hx hb dL_law_461 ?_
    refine va_sld hx hb hX hbl hbA hS in5 dL_law_462 ?_
    refine lv_eqi e5 ?_
    have hPc := hP.sub (ws' := [o11 (ad 0) (ad 1) (ad 2) ik (ad 3) (ad 4) (ad 5), o6 (ad 1) (nI nc) (nI nh) (nI nl) (nI nb) (nI ns) (ad 6) (ad 7) (ad 8) (ad 9) (ad 10) (ad 11) (ad 12) (ad 13) (ad 14), aT G (ad 12) 8 lw]) [0, 1, 12] rfl
    have hDc := hD.sub (ws' := [o11 (ad 0) (ad 1) (ad 2) ik (ad 3) (ad 4) (ad 5), o6 (ad 1) (nI nc) (nI nh) (nI nl) (nI nb) (nI ns) (ad 6) (ad 7) (ad 8) (ad 9) (ad 10) (ad 11) (ad 12) (ad 13) (ad 14), aT G (ad 12) 8 lw]) [0, 1, 12] (by decide) rfl
    have hFc := va_free (wc := [o11 (ad 0) (ad 1) (ad 2) ik (ad 3) (ad 4) (ad 5), o6 (ad 1) (nI nc) (nI nh) (nI nl) (nI nb) (nI ns) (ad 6) (ad 7) (ad 8) (ad 9) (ad 10) (ad 11) (ad 12) (ad 13) (ad 14), aT G (ad 12) 8 lw]) hD hS hA [0, 1, 12] rfl
    have hM := c_X11_toss_n l G (ad 0) (ad 1) (ad 2) (ad 3) (ad 4) (ad 5) (ad 6) (ad 7) (ad 8) (ad 9) (ad 10) (ad 11) (ad 12) (ad 13) (ad 14) ik (nI nc) (nI nh) (nI nl) (nI nb) (nI ns) lw y1 y2 y3 y4 y5 z hlaw h1 H.size
    refine cl_i (w1 := [o11 (ad 0) (ad 1) (ad 2) ik (ad 3) (ad 4) (ad 5), o6 (ad 1) (nI nc) (nI nh) (nI nl) (nI nb) (nI ns) (ad 6) (ad 7) (ad 8) (ad 9) (ad 10) (ad 11) (ad 12) (ad 13) (ad 14), aT G (ad 12) 8 lw]) (ws' := [o11 (ad 0) (ad 1) (ad 2) ik (ad 3) (ad 4) (ad 5), o6 (ad 1) (nI nc) (nI nh) (nI nl) (nI nb) (nI ns) (ad 6) (ad 7) (ad 8) (ad 9) (ad 10) (ad 11) (ad 12) (ad 13) (ad 14), o6 (ad 2) kc kh kl kb ks (ad 15) (ad 16) (ad 17) (ad 18) (ad 19) (ad 20) (ad 21) (ad 22) (ad 23), o3 (ad 3) tx (ad 24) r1 r2 r3 r4 r5, o2 (ad 4) g1 g2 g3 g4 g5 g6 g7 g8, o8 (ad 5) (ad 25) (nI ra), aI G (ad 6) 6 ed, aI G (ad 7) 6 be, aI G (ad 8) 6 ri, aI G (ad 9) 6 wa, aI G (ad 10) 36 th, aI G (ad 11) 36 al, aT G (ad 12) 8 lw, aI G (ad 13) 120 ta, aI G (ad 14) 16 sd, aI G (ad 15) 6 ked, aI G (ad 16) 6 kbe, aI G (ad 17) 6 kri, aI G (ad 18) 6 kwa, aI G (ad 19) 36 kth, aI G (ad 20) 36 kal, aT G (ad 21) 8 klw, aI G (ad 22) 120 kta, aI G (ad 23) 16 ksd, aI G (ad 24) 120 rst, aI G (ad 25) 20 bo, o12 (ad 26) m0 (ad 27) (ad 28) ik m1 m2 m3 m4 m5 (ad 29) (ad 30) s1 s2 s3 s4 s5 s6 (ad 31) (nI ra) m6 m7 m8, aI G (ad 27) 1394 f, aI G (ad 28) 1394 fi, aI G (ad 29) 5 fb, aZ G (ad 30) 64 tr, aI G (ad 31) 20 bo] ++ LW G Ls) hP hD hS hFc [0, 1, 12] rfl rfl rfl (va_runV (As := [.int y1, .int y2, .int y3, .int y4, .int y5]) (rest := []) ⟨hx, hb, hml, hown, hts⟩ hM (cwV 5 hts gT_X11_toss rfl rfl rfl (by decide +kernel) ⟨Nat.le_of_ble_eq_true rfl, Nat.le_of_ble_eq_true rfl⟩) (cp_V hK hE hS hPc hDc hFc (va_recv hK hP (ci := 11) (q0 := 0) rfl rfl)) rfl rfl hl.1 rfl (lv_room (Nat.le_of_ble_eq_true rfl)) dL_law_463 hf0) (fun H locs hP hD hS => ?_)
    refine lv_aload_n hx hb dL_law_466 rfl (lv_at hl 2 rfl) ?_
    refine lv_aload_n hx hb dL_law_467 rfl (lv_at hl 0 rfl) ?_
    refine lv_iload_n hx hb dL_law_468 rfl (lv_at hl 3 rfl) ?_
    refine lv_iconst (v := 1) hx hb dL_law_469 (by decide) ?_
    refine lv_iadd hx hb dL_law_470 ?_
    refine va_sld hx hb hX hbl hbA hS in1 dL_law_471 ?_
    refine lv_eqi e1 ?_
    refine lv_aload_n hx hb dL_law_472 rfl (lv_at hl 0 rfl) ?_
    refine lv_iload_n hx hb dL_law_473 rfl (lv_at hl 3 rfl) ?_
    refine lv_iconst (v := 2) hx hb dL_law_474 (by decide) ?_
    refine lv_iadd hx hb dL_law_475 ?_
    refine va_sld hx hb hX hbl hbA hS in2 dL_law_476 ?_
    refine lv_eqi e2 ?_
    refine lv_aload_n hx hb dL_law_477 rfl (lv_at hl 0 rfl) ?_
    refine lv_iload_n hx hb dL_law_478 rfl (lv_at hl 3 rfl) ?_
    refine lv_iconst (v := 3) hx hb dL_law_479 (by decide) ?_
    refine lv_iadd hx hb dL_law_480 ?_
    refine va_sld hx hb hX hbl hbA hS in3 dL_law_481 ?_
    refine lv_eqi e3 ?_
    refine lv_aload_n hx hb dL_law_482 rfl (lv_at hl 0 rfl) ?_
    refine lv_iload_n hx hb dL_law_483 rfl (lv_at hl 3 rfl) ?_
    refine lv_iconst (v := 4) hx hb dL_law_484 (by decide) ?_
    refine lv_iadd hx hb dL_law_485 ?_
    refine va_sld hx hb hX hbl hbA hS in4 dL_law_486 ?_
    refine lv_eqi e4 ?_
    refine lv_aload_n hx hb dL_law_487 rfl (lv_at hl 0 rfl) ?_
    refine lv_iload_n hx hb dL_law_488 rfl (lv_at hl 3 rfl) ?_
    refine lv_iconst (v := 5) hx hb dL_law_489 (by decide) ?_
    refine lv_iadd hx hb dL_law_490 ?_
    refine va_sld hx hb hX hbl hbA hS in5 dL_law_491 ?_
    refine lv_eqi e5 ?_
    have hPc := hP.sub (ws' := [o12 (ad 26) m0 (ad 27) (ad 28) ik m1 m2 m3 m4 m5 (ad 29) (ad 30) s1 s2 s3 s4 s5 s6 (ad 31) (nI ra) m6 m7 m8, aI G (ad 29) 5 fb, aI G (ad 27) 1394 f, aZ G (ad 30) 64 tr]) [26, 29, 27, 30] rfl
    have hDc := hD.sub (ws' := [o12 (ad 26) m0 (ad 27) (ad 28) ik m1 m2 m3 m4 m5 (ad 29) (ad 30) s1 s2 s3 s4 s5 s6 (ad 31) (nI ra) m6 m7 m8, aI G (ad 29) 5 fb, aI G (ad 27) 1394 f, aZ G (ad 30) 64 tr]) [26, 29, 27, 30] (by decide) rfl
    have hFc := va_free (wc := [o12 (ad 26) m0 (ad 27) (ad 28) ik m1 m2 m3 m4 m5 (ad 29) (ad 30) s1 s2 s3 s4 s5 s6 (ad 31) (nI ra) m6 m7 m8, aI G (ad 29) 5 fb, aI G (ad 27) 1394 f, aZ G (ad 30) 64 tr]) hD hS hA [26, 29, 27, 30] rfl
    have hM := c_X12_toss l G (ad 26) (ad 27) (ad 28) (ad 29) (ad 30) (ad 31) m0 ik m1 m2 m3 m4 m5 s1 s2 s3 s4 s5 s6 (nI ra) m6 m7 m8 fb f tr y1 y2 y3 y4 y5 z t1 t2 t3 t4 t5 t6 fb2 tr2 h2 H.size
    refine cl_i (w1 := [o12 (ad 26) m0 (ad 27) (ad 28) ik m1 m2 m3 m4 m5 (ad 29) (ad 30) t1 t2 t3 t4 t5 t6 (ad 31) (nI ra) m6 m7 m8, aI G (ad 29) 5 fb2, aI G (ad 27) 1394 f, aZ G (ad 30) 64 tr2]) (ws' := [o11 (ad 0) (ad 1) (ad 2) ik (ad 3) (ad 4) (ad 5), o6 (ad 1) (nI nc) (nI nh) (nI nl) (nI nb) (nI ns) (ad 6) (ad 7) (ad 8) (ad 9) (ad 10) (ad 11) (ad 12) (ad 13) (ad 14), o6 (ad 2) kc kh kl kb ks (ad 15) (ad 16) (ad 17) (ad 18) (ad 19) (ad 20) (ad 21) (ad 22) (ad 23), o3 (ad 3) tx (ad 24) r1 r2 r3 r4 r5, o2 (ad 4) g1 g2 g3 g4 g5 g6 g7 g8, o8 (ad 5) (ad 25) (nI ra), aI G (ad 6) 6 ed, aI G (ad 7) 6 be, aI G (ad 8) 6 ri, aI G (ad 9) 6 wa, aI G (ad 10) 36 th, aI G (ad 11) 36 al, aT G (ad 12) 8 lw, aI G (ad 13) 120 ta, aI G (ad 14) 16 sd, aI G (ad 15) 6 ked, aI G (ad 16) 6 kbe, aI G (ad 17) 6 kri, aI G (ad 18) 6 kwa, aI G (ad 19) 36 kth, aI G (ad 20) 36 kal, aT G (ad 21) 8 klw, aI G (ad 22) 120 kta, aI G (ad 23) 16 ksd, aI G (ad 24) 120 rst, aI G (ad 25) 20 bo, o12 (ad 26) m0 (ad 27) (ad 28) ik m1 m2 m3 m4 m5 (ad 29) (ad 30) t1 t2 t3 t4 t5 t6 (ad 31) (nI ra) m6 m7 m8, aI G (ad 27) 1394 f, aI G (ad 28) 1394 fi, aI G (ad 29) 5 fb2, aZ G (ad 30) 64 tr2, aI G (ad 31) 20 bo] ++ LW G Ls) hP hD hS hFc [26, 29, 27, 30] rfl rfl rfl (va_runV (As := [.int y1, .int y2, .int y3, .int y4, .int y5]) (rest := [.int z]) ⟨hx, hb, hml, hown, hts⟩ hM (cwV 5 hts gT_X12_toss rfl rfl rfl (by decide +kernel) ⟨Nat.le_of_ble_eq_true rfl, Nat.le_of_ble_eq_true rfl⟩) (cp_V hK hE hS hPc hDc hFc (va_recv hK hP (ci := 12) (q0 := 26) rfl rfl)) rfl rfl hl.1 rfl (lv_room (Nat.le_of_ble_eq_true rfl)) dL_law_492 hf0) (fun H locs hP hD hS => ?_)
    refine lv_icmp_eq (tgt := 1190) hx hb dL_law_495 (by decide) (fun _ => ?_) (fun c9 => absurd rfl c9)
    refine W.widen (k := cells + 2) (n := slots + 125) (by omega) (by omega) ?_
    exact kk _ _ ⟨Ls, nc, nh, nl, nb, ns, al, be, ed, lw, ri, sd, ta, th, wa, f, ik, kc, kh, kl, kb, ks, kal, kbe, ked, klw, kri, ksd, kta, kth, kwa, fi, tx, r1, r2, r3, r4, r5, rst, g1, g2, g3, g4, g5, g6, g7, g8, ra, bo, m0, m1, m2, m3, m4, m5, m6, m7, m8, t1, t2, t3, t4, t5, t6, fb2, tr2, hP, hD, hS, hSS, hKP, hra, hTs⟩
  · subst ek
    have hcq : r.1 = 0 ∨ r.1 = 1 ∨ r.1 = 4 ∨ r.1 = 5 ∨ r.1 = 7 ∨ r.1 = 9 ∨ r.1 = 10 := hTs r hrm
    obtain ⟨z, ⟨q1, q2, q3, q4, q5, q6, q7, q8⟩, ⟨t1, t2, t3, t4, t5, t6, fb2, tr2⟩, h1, h2⟩ := p_toss_s hSS hk hk8 hr hw y2 y3 y4 y5 g1 g2 g3 g4 g5 g6 g7 g8 s1 s2 s3 s4 s5 s6 fb tr
    obtain ⟨S, T, eL⟩ := List.append_of_mem hrm
    subst eL
    have hP := wP_perm (LW_out G [o11 (ad 0) (ad 1) (ad 2) ik (ad 3) (ad 4) (ad 5), o6 (ad 1) (nI nc) (nI nh) (nI nl) (nI nb) (nI ns) (ad 6) (ad 7) (ad 8) (ad 9) (ad 10) (ad 11) (ad 12) (ad 13) (ad 14), o6 (ad 2) kc kh kl kb ks (ad 15) (ad 16) (ad 17) (ad 18) (ad 19) (ad 20) (ad 21) (ad 22) (ad 23), o3 (ad 3) tx (ad 24) r1 r2 r3 r4 r5, o2 (ad 4) g1 g2 g3 g4 g5 g6 g7 g8, o8 (ad 5) (ad 25) (nI ra), aI G (ad 6) 6 ed, aI G (ad 7) 6 be, aI G (ad 8) 6 ri, aI G (ad 9) 6 wa, aI G (ad 10) 36 th, aI G (ad 11) 36 al, aT G (ad 12) 8 lw, aI G (ad 13) 120 ta, aI G (ad 14) 16 sd, aI G (ad 15) 6 ked, aI G (ad 16) 6 kbe, aI G (ad 17) 6 kri, aI G (ad 18) 6 kwa, aI G (ad 19) 36 kth, aI G (ad 20) 36 kal, aT G (ad 21) 8 klw, aI G (ad 22) 120 kta, aI G (ad 23) 16 ksd, aI G (ad 24) 120 rst, aI G (ad 25) 20 bo, o12 (ad 26) m0 (ad 27) (ad 28) ik m1 m2 m3 m4 m5 (ad 29) (ad 30) s1 s2 s3 s4 s5 s6 (ad 31) (nI ra) m6 m7 m8, aI G (ad 27) 1394 f, aI G (ad 28) 1394 fi, aI G (ad 29) 5 fb, aZ G (ad 30) 64 tr, aI G (ad 31) 20 bo] S T r) hP
    have hD := wD_perm (LW_out G [o11 (ad 0) (ad 1) (ad 2) ik (ad 3) (ad 4) (ad 5), o6 (ad 1) (nI nc) (nI nh) (nI nl) (nI nb) (nI ns) (ad 6) (ad 7) (ad 8) (ad 9) (ad 10) (ad 11) (ad 12) (ad 13) (ad 14), o6 (ad 2) kc kh kl kb ks (ad 15) (ad 16) (ad 17) (ad 18) (ad 19) (ad 20) (ad 21) (ad 22) (ad 23), o3 (ad 3) tx (ad 24) r1 r2 r3 r4 r5, o2 (ad 4) g1 g2 g3 g4 g5 g6 g7 g8, o8 (ad 5) (ad 25) (nI ra), aI G (ad 6) 6 ed, aI G (ad 7) 6 be, aI G (ad 8) 6 ri, aI G (ad 9) 6 wa, aI G (ad 10) 36 th, aI G (ad 11) 36 al, aT G (ad 12) 8 lw, aI G (ad 13) 120 ta, aI G (ad 14) 16 sd, aI G (ad 15) 6 ked, aI G (ad 16) 6 kbe, aI G (ad 17) 6 kri, aI G (ad 18) 6 kwa, aI G (ad 19) 36 kth, aI G (ad 20) 36 kal, aT G (ad 21) 8 klw, aI G (ad 22) 120 kta, aI G (ad 23) 16 ksd, aI G (ad 24) 120 rst, aI G (ad 25) 20 bo, o12 (ad 26) m0 (ad 27) (ad 28) ik m1 m2 m3 m4 m5 (ad 29) (ad 30) s1 s2 s3 s4 s5 s6 (ad 31) (nI ra) m6 m7 m8, aI G (ad 27) 1394 f, aI G (ad 28) 1394 fi, aI G (ad 29) 5 fb, aZ G (ad 30) 64 tr, aI G (ad 31) 20 bo] S T r) hD
    have hP : va_P G.1 vwCl ([o11 (ad 0) (ad 1) (ad 2) ik (ad 3) (ad 4) (ad 5), o6 (ad 1) (nI nc) (nI nh) (nI nl) (nI nb) (nI ns) (ad 6) (ad 7) (ad 8) (ad 9) (ad 10) (ad 11) (ad 12) (ad 13) (ad 14), o6 (ad 2) kc kh kl kb ks (ad 15) (ad 16) (ad 17) (ad 18) (ad 19) (ad 20) (ad 21) (ad 22) (ad 23), o3 (ad 3) tx (ad 24) r1 r2 r3 r4 r5, o2 (ad 4) g1 g2 g3 g4 g5 g6 g7 g8, o8 (ad 5) (ad 25) (nI ra), aI G (ad 6) 6 ed, aI G (ad 7) 6 be, aI G (ad 8) 6 ri, aI G (ad 9) 6 wa, aI G (ad 10) 36 th, aI G (ad 11) 36 al, aT G (ad 12) 8 lw, aI G (ad 13) 120 ta, aI G (ad 14) 16 sd, aI G (ad 15) 6 ked, aI G (ad 16) 6 kbe, aI G (ad 17) 6 kri, aI G (ad 18) 6 kwa, aI G (ad 19) 36 kth, aI G (ad 20) 36 kal, aT G (ad 21) 8 klw, aI G (ad 22) 120 kta, aI G (ad 23) 16 ksd, aI G (ad 24) 120 rst, aI G (ad 25) 20 bo, o12 (ad 26) m0 (ad 27) (ad 28) ik m1 m2 m3 m4 m5 (ad 29) (ad 30) s1 s2 s3 s4 s5 s6 (ad 31) (nI ra) m6 m7 m8, aI G (ad 27) 1394 f, aI G (ad 28) 1394 fi, aI G (ad 29) 5 fb, aZ G (ad 30) 64 tr, aI G (ad 31) 20 bo, oT r.1 r.2.1 r.2.2.1 r.2.2.2.1 r.2.2.2.2.1 r.2.2.2.2.2.1 r.2.2.2.2.2.2.1, aI G r.2.2.2.2.2.2.1 r.2.2.2.2.2.2.2.1 r.2.2.2.2.2.2.2.2] ++ LW G (S ++ T)) H := hP
    have hD : va_D (fun q : Nat => s.heap.size ≤ q) ([o11 (ad 0) (ad 1) (ad 2) ik (ad 3) (ad 4) (ad 5), o6 (ad 1) (nI nc) (nI nh) (nI nl) (nI nb) (nI ns) (ad 6) (ad 7) (ad 8) (ad 9) (ad 10) (ad 11) (ad 12) (ad 13) (ad 14), o6 (ad 2) kc kh kl kb ks (ad 15) (ad 16) (ad 17) (ad 18) (ad 19) (ad 20) (ad 21) (ad 22) (ad 23), o3 (ad 3) tx (ad 24) r1 r2 r3 r4 r5, o2 (ad 4) g1 g2 g3 g4 g5 g6 g7 g8, o8 (ad 5) (ad 25) (nI ra), aI G (ad 6) 6 ed, aI G (ad 7) 6 be, aI G (ad 8) 6 ri, aI G (ad 9) 6 wa, aI G (ad 10) 36 th, aI G (ad 11) 36 al, aT G (ad 12) 8 lw, aI G (ad 13) 120 ta, aI G (ad 14) 16 sd, aI G (ad 15) 6 ked, aI G (ad 16) 6 kbe, aI G (ad 17) 6 kri, aI G (ad 18) 6 kwa, aI G (ad 19) 36 kth, aI G (ad 20) 36 kal, aT G (ad 21) 8 klw, aI G (ad 22) 120 kta, aI G (ad 23) 16 ksd, aI G (ad 24) 120 rst, aI G (ad 25) 20 bo, o12 (ad 26) m0 (ad 27) (ad 28) ik m1 m2 m3 m4 m5 (ad 29) (ad 30) s1 s2 s3 s4 s5 s6 (ad 31) (nI ra) m6 m7 m8, aI G (ad 27) 1394 f, aI G (ad 28) 1394 fi, aI G (ad 29) 5 fb, aZ G (ad 30) 64 tr, aI G (ad 31) 20 bo, oT r.1 r.2.1 r.2.2.1 r.2.2.2.1 r.2.2.2.2.1 r.2.2.2.2.2.1 r.2.2.2.2.2.2.1, aI G r.2.2.2.2.2.2.1 r.2.2.2.2.2.2.2.1 r.2.2.2.2.2.2.2.2] ++ LW G (S ++ T)) := hD
    refine lv_aload_n hx hb dL_law_437 rfl (lv_at hl 1 rfl) ?_
    refine lv_aload_n hx hb dL_law_438 rfl (lv_at hl 0 rfl) ?_
    refine lv_iload_n hx hb dL_law_439 rfl (lv_at hl 3 rfl) ?_
    refine lv_iconst (v := 1) hx hb dL_law_440 (by decide) ?_
    refine lv_iadd hx hb dL_law_441 ?_
    refine va_sld hx hb hX hbl hbA hS in1 dL_law_442 ?_
    refine lv_eqi e1 ?_
    refine lv_aload_n hx hb dL_law_443 rfl (lv_at hl 0 rfl) ?_
    refine lv_iload_n hx hb dL_law_444 rfl (lv_at hl 3 rfl) ?_
    refine lv_iconst (v := 2) hx hb dL_law_445 (by decide) ?_
    refine lv_iadd hx hb dL_law_446 ?_
    refine va_sld hx hb hX hbl hbA hS in2 dL_law_447 ?_
    refine lv_eqi e2 ?_
    refine lv_aload_n hx hb dL_law_448 rfl (lv_at hl 0 rfl) ?_
    refine lv_iload_n hx hb dL_law_449 rfl (lv_at hl 3 rfl) ?_
    refine lv_iconst (v := 3) hx hb dL_law_450 (by decide) ?_
    refine lv_iadd hx hb dL_law_451 ?_
    refine va_sld hx hb hX hbl hbA hS in3 dL_law_452 ?_
    refine lv_eqi e3 ?_
    refine lv_aload_n hx hb dL_law_453 rfl (lv_at hl 0 rfl) ?_
    refine lv_iload_n hx hb dL_law_454 rfl (lv_at hl 3 rfl) ?_
    refine lv_iconst (v := 4) hx hb dL_law_455 (by decide) ?_
    refine lv_iadd hx hb dL_law_456 ?_
    refine va_sld hx hb hX hbl hbA hS in4 dL_law_457 ?_
    refine lv_eqi e4 ?_
    refine lv_aload_n hx hb dL_law_458 rfl (lv_at hl 0 rfl) ?_
    refine lv_iload_n hx hb dL_law_459 rfl (lv_at hl 3 rfl) ?_
    refine lv_iconst (v := 5) hx hb dL_law_460 (by decide) ?_
    refine lv_iadd hx hb dL_law_461 ?_
    refine va_sld hx hb hX hbl hbA hS in5 dL_law_462 ?_
    refine lv_eqi e5 ?_
    have hPc := hP.sub (ws' := [oT r.1 r.2.1 r.2.2.1 r.2.2.2.1 r.2.2.2.2.1 r.2.2.2.2.2.1 r.2.2.2.2.2.2.1, o11 (ad 0) (ad 1) (ad 2) ik (ad 3) (ad 4) (ad 5), o2 (ad 4) g1 g2 g3 g4 g5 g6 g7 g8, o6 (ad 1) (nI nc) (nI nh) (nI nl) (nI nb) (nI ns) (ad 6) (ad 7) (ad 8) (ad 9) (ad 10) (ad 11) (ad 12) (ad 13) (ad 14), aI G r.2.2.2.2.2.2.1 r.2.2.2.2.2.2.2.1 r.2.2.2.2.2.2.2.2, aI G (ad 7) 6 be, aI G (ad 6) 6 ed, aT G (ad 12) 8 lw]) [32, 0, 4, 1, 33, 7, 6, 12] rfl
    have hDc := hD.sub (ws' := [oT r.1 r.2.1 r.2.2.1 r.2.2.2.1 r.2.2.2.2.1 r.2.2.2.2.2.1 r.2.2.2.2.2.2.1, o11 (ad 0) (ad 1) (ad 2) ik (ad 3) (ad 4) (ad 5), o2 (ad 4) g1 g2 g3 g4 g5 g6 g7 g8, o6 (ad 1) (nI nc) (nI nh) (nI nl) (nI nb) (nI ns) (ad 6) (ad 7) (ad 8) (ad 9) (ad 10) (ad 11) (ad 12) (ad 13) (ad 14), aI G r.2.2.2.2.2.2.1 r.2.2.2.2.2.2.2.1 r.2.2.2.2.2.2.2.2, aI G (ad 7) 6 be, aI G (ad 6) 6 ed, aT G (ad 12) 8 lw]) [32, 0, 4, 1, 33, 7, 6, 12] (by decide) rfl
    have hFc := va_free (wc := [oT r.1 r.2.1 r.2.2.1 r.2.2.2.1 r.2.2.2.2.1 r.2.2.2.2.2.1 r.2.2.2.2.2.2.1, o11 (ad 0) (ad 1) (ad 2) ik (ad 3) (ad 4) (ad 5), o2 (ad 4) g1 g2 g3 g4 g5 g6 g7 g8, o6 (ad 1) (nI nc) (nI nh) (nI nl) (nI nb) (nI ns) (ad 6) (ad 7) (ad 8) (ad 9) (ad 10) (ad 11) (ad 12) (ad 13) (ad 14), aI G r.2.2.2.2.2.2.1 r.2.2.2.2.2.2.2.1 r.2.2.2.2.2.2.2.2, aI G (ad 7) 6 be, aI G (ad 6) 6 ed, aT G (ad 12) 8 lw]) hD hS hA [32, 0, 4, 1, 33, 7, 6, 12] rfl
    have hM := c_X11_toss_s l G r.1 hcq r.2.1 r.2.2.2.2.2.2.1 (ad 0) (ad 1) (ad 2) (ad 3) (ad 4) (ad 5) (ad 6) (ad 7) (ad 8) (ad 9) (ad 10) (ad 11) (ad 12) (ad 13) (ad 14) r.2.2.1 r.2.2.2.1 r.2.2.2.2.1 r.2.2.2.2.2.1 ik g1 g2 g3 g4 g5 g6 g7 g8 (nI nc) (nI nh) (nI nl) (nI nb) (nI ns) r.2.2.2.2.2.2.2.2 be ed lw r.2.2.2.2.2.2.2.1 (nI k) y2 y3 y4 y5 z q1 q2 q3 q4 q5 q6 q7 q8 hlaw h1 H.size
    refine cl_i (w1 := [oT r.1 r.2.1 r.2.2.1 r.2.2.2.1 r.2.2.2.2.1 r.2.2.2.2.2.1 r.2.2.2.2.2.2.1, o11 (ad 0) (ad 1) (ad 2) ik (ad 3) (ad 4) (ad 5), o2 (ad 4) q1 q2 q3 q4 q5 q6 q7 q8, o6 (ad 1) (nI nc) (nI nh) (nI nl) (nI nb) (nI ns) (ad 6) (ad 7) (ad 8) (ad 9) (ad 10) (ad 11) (ad 12) (ad 13) (ad 14), aI G r.2.2.2.2.2.2.1 r.2.2.2.2.2.2.2.1 r.2.2.2.2.2.2.2.2, aI G (ad 7) 6 be, aI G (ad 6) 6 ed, aT G (ad 12) 8 lw]) (ws' := [o11 (ad 0) (ad 1) (ad 2) ik (ad 3) (ad 4) (ad 5), o6 (ad 1) (nI nc) (nI nh) (nI nl) (nI nb) (nI ns) (ad 6) (ad 7) (ad 8) (ad 9) (ad 10) (ad 11) (ad 12) (ad 13) (ad 14), o6 (ad 2) kc kh kl kb ks (ad 15) (ad 16) (ad 17) (ad 18) (ad 19) (ad 20) (ad 21) (ad 22) (ad 23), o3 (ad 3) tx (ad 24) r1 r2 r3 r4 r5, o2 (ad 4) q1 q2 q3 q4 q5 q6 q7 q8, o8 (ad 5) (ad 25) (nI ra), aI G (ad 6) 6 ed, aI G (ad 7) 6 be, aI G (ad 8) 6 ri, aI G (ad 9) 6 wa, aI G (ad 10) 36 th, aI G (ad 11) 36 al, aT G (ad 12) 8 lw, aI G (ad 13) 120 ta, aI G (ad 14) 16 sd, aI G (ad 15) 6 ked, aI G (ad 16) 6 kbe, aI G (ad 17) 6 kri, aI G (ad 18) 6 kwa, aI G (ad 19) 36 kth, aI G (ad 20) 36 kal, aT G (ad 21) 8 klw, aI G (ad 22) 120 kta, aI G (ad 23) 16 ksd, aI G (ad 24) 120 rst, aI G (ad 25) 20 bo, o12 (ad 26) m0 (ad 27) (ad 28) ik m1 m2 m3 m4 m5 (ad 29) (ad 30) s1 s2 s3 s4 s5 s6 (ad 31) (nI ra) m6 m7 m8, aI G (ad 27) 1394 f, aI G (ad 28) 1394 fi, aI G (ad 29) 5 fb, aZ G (ad 30) 64 tr, aI G (ad 31) 20 bo, oT r.1 r.2.1 r.2.2.1 r.2.2.2.1 r.2.2.2.2.1 r.2.2.2.2.2.1 r.2.2.2.2.2.2.1, aI G r.2.2.2.2.2.2.1 r.2.2.2.2.2.2.2.1 r.2.2.2.2.2.2.2.2] ++ LW G (S ++ T)) hP hD hS hFc [32, 0, 4, 1, 33, 7, 6, 12] rfl rfl rfl (va_runV (As := [.int (nI k), .int y2, .int y3, .int y4, .int y5]) (rest := []) ⟨hx, hb, hml, hown, hts⟩ hM (cwV 5 hts gT_X11_toss rfl rfl rfl (by decide +kernel) ⟨Nat.le_of_ble_eq_true rfl, Nat.le_of_ble_eq_true rfl⟩) (cp_V hK hE hS hPc hDc hFc (va_recv hK hP (ci := 11) (q0 := 0) rfl rfl)) rfl rfl hl.1 rfl (lv_room (Nat.le_of_ble_eq_true rfl)) dL_law_463 hf0) (fun H locs hP hD hS => ?_)
    refine lv_aload_n hx hb dL_law_466 rfl (lv_at hl 2 rfl) ?_
    refine lv_aload_n hx hb dL_law_467 rfl (lv_at hl 0 rfl) ?_
    refine lv_iload_n hx hb dL_law_468 rfl (lv_at hl 3 rfl) ?_
    refine lv_iconst (v := 1) hx hb dL_law_469 (by decide) ?_
    refine lv_iadd hx hb dL_law_470 ?_
    refine va_sld hx hb hX hbl hbA hS in1 dL_law_471 ?_
    refine lv_eqi e1 ?_
    refine lv_aload_n hx hb dL_law_472 rfl (lv_at hl 0 rfl) ?_
    refine lv_iload_n hx hb dL_law_473 rfl (lv_at hl 3 rfl) ?_
    refine lv_iconst (v := 2) hx hb dL_law_474 (by decide) ?_
    refine lv_iadd hx hb dL_law_475 ?_
    refine va_sld hx hb hX hbl hbA hS in2 dL_law_476 ?_
    refine lv_eqi e2 ?_
    refine lv_aload_n hx hb dL_law_477 rfl (lv_at hl 0 rfl) ?_
    refine lv_iload_n hx hb dL_law_478 rfl (lv_at hl 3 rfl) ?_
    refine lv_iconst (v := 3) hx hb dL_law_479 (by decide) ?_
    refine lv_iadd hx hb dL_law_480 ?_
    refine va_sld hx hb hX hbl hbA hS in3 dL_law_481 ?_
    refine lv_eqi e3 ?_
    refine lv_aload_n hx hb dL_law_482 rfl (lv_at hl 0 rfl) ?_
    refine lv_iload_n hx hb dL_law_483 rfl (lv_at hl 3 rfl) ?_
    refine lv_iconst (v := 4) hx hb dL_law_484 (by decide) ?_
    refine lv_iadd hx hb dL_law_485 ?_
    refine va_sld hx hb hX hbl hbA hS in4 dL_law_486 ?_
    refine lv_eqi e4 ?_
    refine lv_aload_n hx hb dL_law_487 rfl (lv_at hl 0 rfl) ?_
    refine lv_iload_n hx hb dL_law_488 rfl (lv_at hl 3 rfl) ?_
    refine lv_iconst (v := 5) hx hb dL_law_489 (by decide) ?_
    refine lv_iadd hx hb dL_law_490 ?_
    refine va_sld hx hb hX hbl hbA hS in5 dL_law_491 ?_
    refine lv_eqi e5 ?_
    have hPc := hP.sub (ws' := [o12 (ad 26) m0 (ad 27) (ad 28) ik m1 m2 m3 m4 m5 (ad 29) (ad 30) s1 s2 s3 s4 s5 s6 (ad 31) (nI ra) m6 m7 m8, aI G (ad 29) 5 fb, aI G (ad 27) 1394 f, aZ G (ad 30) 64 tr]) [26, 29, 27, 30] rfl
    have hDc := hD.sub (ws' := [o12 (ad 26) m0 (ad 27) (ad 28) ik m1 m2 m3 m4 m5 (ad 29) (ad 30) s1 s2 s3 s4 s5 s6 (ad 31) (nI ra) m6 m7 m8, aI G (ad 29) 5 fb, aI G (ad 27) 1394 f, aZ G (ad 30) 64 tr]) [26, 29, 27, 30] (by decide) rfl
    have hFc := va_free (wc := [o12 (ad 26) m0 (ad 27) (ad 28) ik m1 m2 m3 m4 m5 (ad 29) (ad 30) s1 s2 s3 s4 s5 s6 (ad 31) (nI ra) m6 m7 m8, aI G (ad 29) 5 fb, aI G (ad 27) 1394 f, aZ G (ad 30) 64 tr]) hD hS hA [26, 29, 27, 30] rfl
    have hM := c_X12_toss l G (ad 26) (ad 27) (ad 28) (ad 29) (ad 30) (ad 31) m0 ik m1 m2 m3 m4 m5 s1 s2 s3 s4 s5 s6 (nI ra) m6 m7 m8 fb f tr (nI k) y2 y3 y4 y5 z t1 t2 t3 t4 t5 t6 fb2 tr2 h2 H.size
    refine cl_i (w1 := [o12 (ad 26) m0 (ad 27) (ad 28) ik m1 m2 m3 m4 m5 (ad 29) (ad 30) t1 t2 t3 t4 t5 t6 (ad 31) (nI ra) m6 m7 m8, aI G (ad 29) 5 fb2, aI G (ad 27) 1394 f, aZ G (ad 30) 64 tr2]) (ws' := [o11 (ad 0) (ad 1) (ad 2) ik (ad 3) (ad 4) (ad 5), o6 (ad 1) (nI nc) (nI nh) (nI nl) (nI nb) (nI ns) (ad 6) (ad 7) (ad 8) (ad 9) (ad 10) (ad 11) (ad 12) (ad 13) (ad 14), o6 (ad 2) kc kh kl kb ks (ad 15) (ad 16) (ad 17) (ad 18) (ad 19) (ad 20) (ad 21) (ad 22) (ad 23), o3 (ad 3) tx (ad 24) r1 r2 r3 r4 r5, o2 (ad 4) q1 q2 q3 q4 q5 q6 q7 q8, o8 (ad 5) (ad 25) (nI ra), aI G (ad 6) 6 ed, aI G (ad 7) 6 be, aI G (ad 8) 6 ri, aI G (ad 9) 6 wa, aI G (ad 10) 36 th, aI G (ad 11) 36 al, aT G (ad 12) 8 lw, aI G (ad 13) 120 ta, aI G (ad 14) 16 sd, aI G (ad 15) 6 ked, aI G (ad 16) 6 kbe, aI G (ad 17) 6 kri, aI G (ad 18) 6 kwa, aI G (ad 19) 36 kth, aI G (ad 20) 36 kal, aT G (ad 21) 8 klw, aI G (ad 22) 120 kta, aI G (ad 23) 16 ksd, aI G (ad 24) 120 rst, aI G (ad 25) 20 bo, o12 (ad 26) m0 (ad 27) (ad 28) ik m1 m2 m3 m4 m5 (ad 29) (ad 30) t1 t2 t3 t4 t5 t6 (ad 31) (nI ra) m6 m7 m8, aI G (ad 27) 1394 f, aI G (ad 28) 1394 fi, aI G (ad 29) 5 fb2, aZ G (ad 30) 64 tr2, aI G (ad 31) 20 bo, oT r.1 r.2.1 r.2.2.1 r.2.2.2.1 r.2.2.2.2.1 r.2.2.2.2.2.1 r.2.2.2.2.2.2.1, aI G r.2.2.2.2.2.2.1 r.2.2.2.2.2.2.2.1 r.2.2.2.2.2.2.2.2] ++ LW G (S ++ T)) hP hD hS hFc [26, 29, 27, 30] rfl rfl rfl (va_runV (As := [.int (nI k), .int y2, .int y3, .int y4, .int y5]) (rest := [.int z]) ⟨hx, hb, hml, hown, hts⟩ hM (cwV 5 hts gT_X12_toss rfl rfl rfl (by decide +kernel) ⟨Nat.le_of_ble_eq_true rfl, Nat.le_of_ble_eq_true rfl⟩) (cp_V hK hE hS hPc hDc hFc (va_recv hK hP (ci := 12) (q0 := 26) rfl rfl)) rfl rfl hl.1 rfl (lv_room (Nat.le_of_ble_eq_true rfl)) dL_law_492 hf0) (fun H locs hP hD hS => ?_)
    refine lv_icmp_eq (tgt := 1190) hx hb dL_law_495 (by decide) (fun _ => ?_) (fun c9 => absurd rfl c9)
    have hP : va_P G.1 vwCl ([o11 (ad 0) (ad 1) (ad 2) ik (ad 3) (ad 4) (ad 5), o6 (ad 1) (nI nc) (nI nh) (nI nl) (nI nb) (nI ns) (ad 6) (ad 7) (ad 8) (ad 9) (ad 10) (ad 11) (ad 12) (ad 13) (ad 14), o6 (ad 2) kc kh kl kb ks (ad 15) (ad 16) (ad 17) (ad 18) (ad 19) (ad 20) (ad 21) (ad 22) (ad 23), o3 (ad 3) tx (ad 24) r1 r2 r3 r4 r5, o2 (ad 4) q1 q2 q3 q4 q5 q6 q7 q8, o8 (ad 5) (ad 25) (nI ra), aI G (ad 6) 6 ed, aI G (ad 7) 6 be, aI G (ad 8) 6 ri, aI G (ad 9) 6 wa, aI G (ad 10) 36 th, aI G (ad 11) 36 al, aT G (ad 12) 8 lw, aI G (ad 13) 120 ta, aI G (ad 14) 16 sd, aI G (ad 15) 6 ked, aI G (ad 16) 6 kbe, aI G (ad 17) 6 kri, aI G (ad 18) 6 kwa, aI G (ad 19) 36 kth, aI G (ad 20) 36 kal, aT G (ad 21) 8 klw, aI G (ad 22) 120 kta, aI G (ad 23) 16 ksd, aI G (ad 24) 120 rst, aI G (ad 25) 20 bo, o12 (ad 26) m0 (ad 27) (ad 28) ik m1 m2 m3 m4 m5 (ad 29) (ad 30) t1 t2 t3 t4 t5 t6 (ad 31) (nI ra) m6 m7 m8, aI G (ad 27) 1394 f, aI G (ad 28) 1394 fi, aI G (ad 29) 5 fb2, aZ G (ad 30) 64 tr2, aI G (ad 31) 20 bo] ++ (lawCells G r ++ LW G (S ++ T))) H := hP
    have hD : va_D (fun q : Nat => s.heap.size ≤ q) ([o11 (ad 0) (ad 1) (ad 2) ik (ad 3) (ad 4) (ad 5), o6 (ad 1) (nI nc) (nI nh) (nI nl) (nI nb) (nI ns) (ad 6) (ad 7) (ad 8) (ad 9) (ad 10) (ad 11) (ad 12) (ad 13) (ad 14), o6 (ad 2) kc kh kl kb ks (ad 15) (ad 16) (ad 17) (ad 18) (ad 19) (ad 20) (ad 21) (ad 22) (ad 23), o3 (ad 3) tx (ad 24) r1 r2 r3 r4 r5, o2 (ad 4) q1 q2 q3 q4 q5 q6 q7 q8, o8 (ad 5) (ad 25) (nI ra), aI G (ad 6) 6 ed, aI G (ad 7) 6 be, aI G (ad 8) 6 ri, aI G (ad 9) 6 wa, aI G (ad 10) 36 th, aI G (ad 11) 36 al, aT G (ad 12) 8 lw, aI G (ad 13) 120 ta, aI G (ad 14) 16 sd, aI G (ad 15) 6 ked, aI G (ad 16) 6 kbe, aI G (ad 17) 6 kri, aI G (ad 18) 6 kwa, aI G (ad 19) 36 kth, aI G (ad 20) 36 kal, aT G (ad 21) 8 klw, aI G (ad 22) 120 kta, aI G (ad 23) 16 ksd, aI G (ad 24) 120 rst, aI G (ad 25) 20 bo, o12 (ad 26) m0 (ad 27) (ad 28) ik m1 m2 m3 m4 m5 (ad 29) (ad 30) t1 t2 t3 t4 t5 t6 (ad 31) (nI ra) m6 m7 m8, aI G (ad 27) 1394 f, aI G (ad 28) 1394 fi, aI G (ad 29) 5 fb2, aZ G (ad 30) 64 tr2, aI G (ad 31) 20 bo] ++ (lawCells G r ++ LW G (S ++ T))) := hD
    have hP := wP_perm (LW_out G [o11 (ad 0) (ad 1) (ad 2) ik (ad 3) (ad 4) (ad 5), o6 (ad 1) (nI nc) (nI nh) (nI nl) (nI nb) (nI ns) (ad 6) (ad 7) (ad 8) (ad 9) (ad 10) (ad 11) (ad 12) (ad 13) (ad 14), o6 (ad 2) kc kh kl kb ks (ad 15) (ad 16) (ad 17) (ad 18) (ad 19) (ad 20) (ad 21) (ad 22) (ad 23), o3 (ad 3) tx (ad 24) r1 r2 r3 r4 r5, o2 (ad 4) q1 q2 q3 q4 q5 q6 q7 q8, o8 (ad 5) (ad 25) (nI ra), aI G (ad 6) 6 ed, aI G (ad 7) 6 be, aI G (ad 8) 6 ri, aI G (ad 9) 6 wa, aI G (ad 10) 36 th, aI G (ad 11) 36 al, aT G (ad 12) 8 lw, aI G (ad 13) 120 ta, aI G (ad 14) 16 sd, aI G (ad 15) 6 ked, aI G (ad 16) 6 kbe, aI G (ad 17) 6 kri, aI G (ad 18) 6 kwa, aI G (ad 19) 36 kth, aI G (ad 20) 36 kal, aT G (ad 21) 8 klw, aI G (ad 22) 120 kta, aI G (ad 23) 16 ksd, aI G (ad 24) 120 rst, aI G (ad 25) 20 bo, o12 (ad 26) m0 (ad 27) (ad 28) ik m1 m2 m3 m4 m5 (ad 29) (ad 30) t1 t2 t3 t4 t5 t6 (ad 31) (nI ra) m6 m7 m8, aI G (ad 27) 1394 f, aI G (ad 28) 1394 fi, aI G (ad 29) 5 fb2, aZ G (ad 30) 64 tr2, aI G (ad 31) 20 bo] S T r).symm hP
    have hD := wD_perm (LW_out G [o11 (ad 0) (ad 1) (ad 2) ik (ad 3) (ad 4) (ad 5), o6 (ad 1) (nI nc) (nI nh) (nI nl) (nI nb) (nI ns) (ad 6) (ad 7) (ad 8) (ad 9) (ad 10) (ad 11) (ad 12) (ad 13) (ad 14), o6 (ad 2) kc kh kl kb ks (ad 15) (ad 16) (ad 17) (ad 18) (ad 19) (ad 20) (ad 21) (ad 22) (ad 23), o3 (ad 3) tx (ad 24) r1 r2 r3 r4 r5, o2 (ad 4) q1 q2 q3 q4 q5 q6 q7 q8, o8 (ad 5) (ad 25) (nI ra), aI G (ad 6) 6 ed, aI G (ad 7) 6 be, aI G (ad 8) 6 ri, aI G (ad 9) 6 wa, aI G (ad 10) 36 th, aI G (ad 11) 36 al, aT G (ad 12) 8 lw, aI G (ad 13) 120 ta, aI G (ad 14) 16 sd, aI G (ad 15) 6 ked, aI G (ad 16) 6 kbe, aI G (ad 17) 6 kri, aI G (ad 18) 6 kwa, aI G (ad 19) 36 kth, aI G (ad 20) 36 kal, aT G (ad 21) 8 klw, aI G (ad 22) 120 kta, aI G (ad 23) 16 ksd, aI G (ad 24) 120 rst, aI G (ad 25) 20 bo, o12 (ad 26) m0 (ad 27) (ad 28) ik m1 m2 m3 m4 m5 (ad 29) (ad 30) t1 t2 t3 t4 t5 t6 (ad 31) (nI ra) m6 m7 m8, aI G (ad 27) 1394 f, aI G (ad 28) 1394 fi, aI G (ad 29) 5 fb2, aZ G (ad 30) 64 tr2, aI G (ad 31) 20 bo] S T r).symm hD
    refine W.widen (k := cells + 2) (n := slots + 125) (by omega) (by omega) ?_
    exact kk _ _ ⟨S ++ r :: T, nc, nh, nl, nb, ns, al, be, ed, lw, ri, sd, ta, th, wa, f, ik, kc, kh, kl, kb, ks, kal, kbe, ked, klw, kri, ksd, kta, kth, kwa, fi, tx, r1, r2, r3, r4, r5, rst, q1, q2, q3, q4, q5, q6, q7, q8, ra, bo, m0, m1, m2, m3, m4, m5, m6, m7, m8, t1, t2, t3, t4, t5, t6, fb2, tr2, hP, hD, hS, hSS, hKP, hra, hTs⟩
set_option maxHeartbeats 4000000 in
set_option maxRecDepth 100000 in
theorem k_up {p : Program} {l : Launch} {e : Env} {s : State} {m : MethodId} {below : List Frame} {meth : Method} {c : Code} {G : GG} {b L : Nat} {xs : Nat → Int32} {ad : Nat → Nat} {Q : State → Prop} {cells slots : Nat} {H : Heap} {locs : List Loc} {ls : Array Slot} {i : Int32} (C0 : lw_At p s m meth c b L xs) (hK : va_K G.1 vwCl (TY G) s) (hE : EV G (fun q : Nat => s.heap.size ≤ q) s s.heap) (hce : cells + 2 ≤ 600000) (hsl : slots + 125 ≤ 7302250) (hl : lv_has ls 4 [(0, .ref b), (1, .ref (ad 0)), (2, .ref (ad 26)), (3, .int i)]) (in1 : vp_in (i + 1) L) (in2 : vp_in (i + 2) L) (in3 : vp_in (i + 3) L) (in4 : vp_in (i + 4) L) (in5 : vp_in (i + 5) L) (y1 y2 y3 y4 y5 : Int32) (e1 : xs (i + 1).toNatClampNeg = y1) (e2 : xs (i + 2).toNatClampNeg = y2) (e3 : xs (i + 3).toNatClampNeg = y3) (e4 : xs (i + 4).toNatClampNeg = y4) (e5 : xs (i + 5).toNatClampNeg = y5) (Ls : List LR) (nc nh nl nb ns : Nat) (al be ed : Nat → Int32) (lw : Nat → Option Nat) (ri sd ta th wa f : Nat → Int32) (ik kc kh kl kb ks : Int32) (kal kbe ked : Nat → Int32) (klw : Nat → Option Nat) (kri ksd kta kth kwa fi : Nat → Int32) (tx : Nat) (r1 r2 r3 r4 r5 : Int32) (rst : Nat → Int32) (g1 g2 g3 g4 g5 g6 g7 g8 : Int32) (ra : Nat) (bo : Nat → Int32) (m0 m1 m2 m3 m4 m5 m6 m7 m8 s1 s2 s3 s4 s5 s6 : Int32) (fb tr : Nat → Int32) (hP : va_P G.1 vwCl ([o11 (ad 0) (ad 1) (ad 2) ik (ad 3) (ad 4) (ad 5), o6 (ad 1) (nI nc) (nI nh) (nI nl) (nI nb) (nI ns) (ad 6) (ad 7) (ad 8) (ad 9) (ad 10) (ad 11) (ad 12) (ad 13) (ad 14), o6 (ad 2) kc kh kl kb ks (ad 15) (ad 16) (ad 17) (ad 18) (ad 19) (ad 20) (ad 21) (ad 22) (ad 23), o3 (ad 3) tx (ad 24) r1 r2 r3 r4 r5, o2 (ad 4) g1 g2 g3 g4 g5 g6 g7 g8, o8 (ad 5) (ad 25) (nI ra), aI G (ad 6) 6 ed, aI G (ad 7) 6 be, aI G (ad 8) 6 ri, aI G (ad 9) 6 wa, aI G (ad 10) 36 th, aI G (ad 11) 36 al, aT G (ad 12) 8 lw, aI G (ad 13) 120 ta, aI G (ad 14) 16 sd, aI G (ad 15) 6 ked, aI G (ad 16) 6 kbe, aI G (ad 17) 6 kri, aI G (ad 18) 6 kwa, aI G (ad 19) 36 kth, aI G (ad 20) 36 kal, aT G (ad 21) 8 klw, aI G (ad 22) 120 kta, aI G (ad 23) 16 ksd, aI G (ad 24) 120 rst, aI G (ad 25) 20 bo, o12 (ad 26) m0 (ad 27) (ad 28) ik m1 m2 m3 m4 m5 (ad 29) (ad 30) s1 s2 s3 s4 s5 s6 (ad 31) (nI ra) m6 m7 m8, aI G (ad 27) 1394 f, aI G (ad 28) 1394 fi, aI G (ad 29) 5 fb, aZ G (ad 30) 64 tr, aI G (ad 31) 20 bo] ++ LW G Ls) H) (hD : va_D (fun q : Nat => s.heap.size ≤ q) ([o11 (ad 0) (ad 1) (ad 2) ik (ad 3) (ad 4) (ad 5), o6 (ad 1) (nI nc) (nI nh) (nI nl) (nI nb) (nI ns) (ad 6) (ad 7) (ad 8) (ad 9) (ad 10) (ad 11) (ad 12) (ad 13) (ad 14), o6 (ad 2) kc kh kl kb ks (ad 15) (ad 16) (ad 17) (ad 18) (ad 19) (ad 20) (ad 21) (ad 22) (ad 23), o3 (ad 3) tx (ad 24) r1 r2 r3 r4 r5, o2 (ad 4) g1 g2 g3 g4 g5 g6 g7 g8, o8 (ad 5) (ad 25) (nI ra), aI G (ad 6) 6 ed, aI G (ad 7) 6 be, aI G (ad 8) 6 ri, aI G (ad 9) 6 wa, aI G (ad 10) 36 th, aI G (ad 11) 36 al, aT G (ad 12) 8 lw, aI G (ad 13) 120 ta, aI G (ad 14) 16 sd, aI G (ad 15) 6 ked, aI G (ad 16) 6 kbe, aI G (ad 17) 6 kri, aI G (ad 18) 6 kwa, aI G (ad 19) 36 kth, aI G (ad 20) 36 kal, aT G (ad 21) 8 klw, aI G (ad 22) 120 kta, aI G (ad 23) 16 ksd, aI G (ad 24) 120 rst, aI G (ad 25) 20 bo, o12 (ad 26) m0 (ad 27) (ad 28) ik m1 m2 m3 m4 m5 (ad 29) (ad 30) s1 s2 s3 s4 s5 s6 (ad 31) (nI ra) m6 m7 m8, aI G (ad 27) 1394 f, aI G (ad 28) 1394 fi, aI G (ad 29) 5 fb, aZ G (ad 30) 64 tr, aI G (ad 31) 20 bo] ++ LW G Ls)) (hS : va_S (fun q : Nat => s.heap.size ≤ q) s.heap H locs) (hSS : SS Ls nc nh nl nb ns al be ed lw ri sd ta th wa f) (hKP : KP Ls ik kc kh kl kb ks kal kbe ked klw kri ksd kta kth kwa fi) (hra : ra ≤ 1000) (hTs : ∀ r ∈ Ls, isT r.1) (kk : ∀ (H : Heap) (locs : List Loc), INV G (fun q : Nat => s.heap.size ≤ q) s ad H locs → W p l e room_1 s m #[Value.ref b] below meth c H locs (cells + 2) (slots + 125) Q (F0 m 1190 ls [])) : W p l e room_1 s m #[Value.ref b] below meth c H locs cells slots Q (F0 m 500 ls []) := by
  obtain ⟨hx, hb, hr, hml, hown, hts, hX, hbl, hlocks, hgv⟩ := C0
  have hown : s.vm.findClass RL = some m.cls := hown
  have hb : c.code = cL_law := hb
  have hA : ∀ q : Nat, s.heap.size ≤ q → (fun q : Nat => s.heap.size ≤ q) q := fun _ h => h
  have hbA : ¬ (fun q : Nat => s.heap.size ≤ q) b := Nat.not_le.mpr hbl
  have hf0 : cells + 0 ≤ room_1.cells ∧ slots + 0 ≤ room_1.slots := ⟨show cells + 0 ≤ 600000 by omega, show slots + 0 ≤ 7302250 by omega⟩
  rcases p_lawOf hSS y1 with ⟨hw, hlaw⟩ | ⟨hw, k, r, hk, hk8, ek, hrm, hr, hlaw⟩
  · obtain ⟨z, ⟨t1, t2, t3, t4, t5, t6, fb2, tr2⟩, h1, h2⟩ := p_up_n hSS hw y2 y3 y4 y5 s1 s2 s3 s4 s5 s6 fb tr
    refine lv_aload_n hx hb dL_law_500 rfl (lv_at hl 1 rfl) ?_
    refine lv_aload_n hx hb dL_law_501 rfl (lv_at hl 0 rfl) ?_
    refine lv_iload_n hx hb dL_law_502 rfl (lv_at hl 3 rfl) ?_
    refine lv_iconst (v := 1) hx hb dL_law_503 (by decide) ?_
    refine lv_iadd hx hb dL_law_504 ?_
    refine va_sld hx hb hX hbl hbA hS in1 dL_law_505 ?_
    refine lv_eqi e1 ?_
    refine lv_aload_n hx hb dL_law_506 rfl (lv_at hl 0 rfl) ?_
    refine lv_iload_n hx hb dL_law_507 rfl (lv_at hl 3 rfl) ?_
    refine lv_iconst (v := 2) hx hb dL_law_508 (by decide) ?_
    refine lv_iadd hx hb dL_law_509 ?_
    refine va_sld hx hb hX hbl hbA hS in2 dL_law_510 ?_
    refine lv_eqi e2 ?_
    refine lv_aload_n hx hb dL_law_511 rfl (lv_at hl 0 rfl) ?_
    refine lv_iload_n hx hb dL_law_512 rfl (lv_at hl 3 rfl) ?_
    refine lv_iconst (v := 3) hx hb dL_law_513 (by decide) ?_
    refine lv_iadd hx hb dL_law_514 ?_
    refine va_sld hx hb hX hbl hbA hS in3 dL_law_515 ?_
    refine lv_eqi e3 ?_
    refine lv_aload_n hx hb dL_law_516 rfl (lv_at hl 0 rfl) ?_
    refine lv_iload_n hx hb dL_law_517 rfl (lv_at hl 3 rfl) ?_
    refine lv_iconst (v := 4) hx hb dL_law_518 (by decide) ?_
    refine lv_iadd hx hb dL_law_519 ?_
    refine va_sld hx hb hX hbl hbA hS in4 dL_law_520 ?_
    refine lv_eqi e4 ?_
    refine lv_aload_n hx hb dL_law_521 rfl (lv_at hl 0 rfl) ?_
    refine lv_iload_n hx hb dL_law_522 rfl (lv_at hl 3 rfl) ?_
    refine lv_iconst (v := 5) hx hb dL_law_523 (by decide) ?_
    refine lv_iadd hx hb dL_law_524 ?_
    refine va_sld hx hb hX hbl hbA hS in5 dL_law_525 ?_
    refine lv_eqi e5 ?_
    have hPc := hP.sub (ws' := [o11 (ad 0) (ad 1) (ad 2) ik (ad 3) (ad 4) (ad 5), o6 (ad 1) (nI nc) (nI nh) (nI nl) (nI nb) (nI ns) (ad 6) (ad 7) (ad 8) (ad 9) (ad 10) (ad 11) (ad 12) (ad 13) (ad 14), aT G (ad 12) 8 lw]) [0, 1, 12] rfl
    have hDc := hD.sub (ws' := [o11 (ad 0) (ad 1) (ad 2) ik (ad 3) (ad 4) (ad 5), o6 (ad 1) (nI nc) (nI nh) (nI nl) (nI nb) (nI ns) (ad 6) (ad 7) (ad 8) (ad 9) (ad 10) (ad 11) (ad 12) (ad 13) (ad 14), aT G (ad 12) 8 lw]) [0, 1, 12] (by decide) rfl
    have hFc := va_free (wc := [o11 (ad 0) (ad 1) (ad 2) ik (ad 3) (ad 4) (ad 5), o6 (ad 1) (nI nc) (nI nh) (nI nl) (nI nb) (nI ns) (ad 6) (ad 7) (ad 8) (ad 9) (ad 10) (ad 11) (ad 12) (ad 13) (ad 14), aT G (ad 12) 8 lw]) hD hS hA [0, 1, 12] rfl
    have hM := c_X11_up_n l G (ad 0) (ad 1) (ad 2) (ad 3) (ad 4) (ad 5) (ad 6) (ad 7) (ad 8) (ad 9) (ad 10) (ad 11) (ad 12) (ad 13) (ad 14) ik (nI nc) (nI nh) (nI nl) (nI nb) (nI ns) lw y1 y2 y3 y4 y5 z hlaw h1 H.size
    refine cl_i (w1 := [o11 (ad 0) (ad 1) (ad 2) ik (ad 3) (ad 4) (ad 5), o6 (ad 1) (nI nc) (nI nh) (nI nl) (nI nb) (nI ns) (ad 6) (ad 7) (ad 8) (ad 9) (ad 10) (ad 11) (ad 12) (ad 13) (ad 14), aT G (ad 12) 8 lw]) (ws' := [o11 (ad 0) (ad 1) (ad 2) ik (ad 3) (ad 4) (ad 5), o6 (ad 1) (nI nc) (nI nh) (nI nl) (nI nb) (nI ns) (ad 6) (ad 7) (ad 8) (ad 9) (ad 10) (ad 11) (ad 12) (ad 13) (ad 14), o6 (ad 2) kc kh kl kb ks (ad 15) (ad 16) (ad 17) (ad 18) (ad 19) (ad 20) (ad 21) (ad 22) (ad 23), o3 (ad 3) tx (ad 24) r1 r2 r3 r4 r5, o2 (ad 4) g1 g2 g3 g4 g5 g6 g7 g8, o8 (ad 5) (ad 25) (nI ra), aI G (ad 6) 6 ed, aI G (ad 7) 6 be, aI G (ad 8) 6 ri, aI G (ad 9) 6 wa, aI G (ad 10) 36 th, aI G (ad 11) 36 al, aT G (ad 12) 8 lw, aI G (ad 13) 120 ta, aI G (ad 14) 16 sd, aI G (ad 15) 6 ked, aI G (ad 16) 6 kbe, aI G (ad 17) 6 kri, aI G (ad 18) 6 kwa, aI G (ad 19) 36 kth, aI G (ad 20) 36 kal, aT G (ad 21) 8 klw, aI G (ad 22) 120 kta, aI G (ad 23) 16 ksd, aI G (ad 24) 120 rst, aI G (ad 25) 20 bo, o12 (ad 26) m0 (ad 27) (ad 28) ik m1 m2 m3 m4 m5 (ad 29) (ad 30) s1 s2 s3 s4 s5 s6 (ad 31) (nI ra) m6 m7 m8, aI G (ad 27) 1394 f, aI G (ad 28) 1394 fi, aI G (ad 29) 5 fb, aZ G (ad 30) 64 tr, aI G (ad 31) 20 bo] ++ LW G Ls) hP hD hS hFc [0, 1, 12] rfl rfl rfl (va_runV (As := [.int y1, .int y2, .int y3, .int y4, .int y5]) (rest := []) ⟨hx, hb, hml, hown, hts⟩ hM (cwV 5 hts gT_X11_up rfl rfl rfl (by decide +kernel) ⟨Nat.le_of_ble_eq_true rfl, Nat.le_of_ble_eq_true rfl⟩) (cp_V hK hE hS hPc hDc hFc (va_recv hK hP (ci := 11) (q0 := 0) rfl rfl)) rfl rfl hl.1 rfl (lv_room (Nat.le_of_ble_eq_true rfl)) dL_law_526 hf0) (fun H locs hP hD hS => ?_)
    refine lv_aload_n hx hb dL_law_529 rfl (lv_at hl 2 rfl) ?_
    refine lv_aload_n hx hb dL_law_530 rfl (lv_at hl 0 rfl) ?_
    refine lv_iload_n hx hb dL_law_531 rfl (lv_at hl 3 rfl) ?_
    refine lv_iconst (v := 1) hx hb dL_law_532 (by decide) ?_
    refine lv_iadd hx hb dL_law_533 ?_
    refine va_sld hx hb hX hbl hbA hS in1 dL_law_534 ?_
    refine lv_eqi e1 ?_
    refine lv_aload_n hx hb dL_law_535 rfl (lv_at hl 0 rfl) ?_
    refine lv_iload_n hx hb dL_law_536 rfl (lv_at hl 3 rfl) ?_
    refine lv_iconst (v := 2) hx hb dL_law_537 (by decide) ?_
    refine lv_iadd hx hb dL_law_538 ?_
    refine va_sld hx hb hX hbl hbA hS in2 dL_law_539 ?_
    refine lv_eqi e2 ?_
    refine lv_aload_n hx hb dL_law_540 rfl (lv_at hl 0 rfl) ?_
    refine lv_iload_n hx hb dL_law_541 rfl (lv_at hl 3 rfl) ?_
    refine lv_iconst (v := 3) hx hb dL_law_542 (by decide) ?_
    refine lv_iadd hx hb dL_law_543 ?_
    refine va_sld hx hb hX hbl hbA hS in3 dL_law_544 ?_
    refine lv_eqi e3 ?_
    refine lv_aload_n hx hb dL_law_545 rfl (lv_at hl 0 rfl) ?_
    refine lv_iload_n hx hb dL_law_546 rfl (lv_at hl 3 rfl) ?_
    refine lv_iconst (v := 4) hx hb dL_law_547 (by decide) ?_
    refine lv_iadd hx hb dL_law_548 ?_
    refine va_sld hx hb hX hbl hbA hS in4 dL_law_549 ?_
    refine lv_eqi e4 ?_
    refine lv_aload_n hx hb dL_law_550 rfl (lv_at hl 0 rfl) ?_
    refine lv_iload_n hx hb dL_law_551 rfl (lv_at hl 3 rfl) ?_
    refine lv_iconst (v := 5) hx hb dL_law_552 (by decide) ?_
    refine lv_iadd hx hb dL_law_553 ?_
    refine va_sld hx hb hX hbl hbA hS in5 dL_law_554 ?_
    refine lv_eqi e5 ?_
    have hPc := hP.sub (ws' := [o12 (ad 26) m0 (ad 27) (ad 28) ik m1 m2 m3 m4 m5 (ad 29) (ad 30) s1 s2 s3 s4 s5 s6 (ad 31) (nI ra) m6 m7 m8, aI G (ad 29) 5 fb, aI G (ad 27) 1394 f, aZ G (ad 30) 64 tr]) [26, 29, 27, 30] rfl
    have hDc := hD.sub (ws' := [o12 (ad 26) m0 (ad 27) (ad 28) ik m1 m2 m3 m4 m5 (ad 29) (ad 30) s1 s2 s3 s4 s5 s6 (ad 31) (nI ra) m6 m7 m8, aI G (ad 29) 5 fb, aI G (ad 27) 1394 f, aZ G (ad 30) 64 tr]) [26, 29, 27, 30] (by decide) rfl
    have hFc := va_free (wc := [o12 (ad 26) m0 (ad 27) (ad 28) ik m1 m2 m3 m4 m5 (ad 29) (ad 30) s1 s2 s3 s4 s5 s6 (ad 31) (nI ra) m6 m7 m8, aI G (ad 29) 5 fb, aI G (ad 27) 1394 f, aZ G (ad 30) 64 tr]) hD hS hA [26, 29, 27, 30] rfl
    have hM := c_X12_up l G (ad 26) (ad 27) (ad 28) (ad 29) (ad 30) (ad 31) m0 ik m1 m2 m3 m4 m5 s1 s2 s3 s4 s5 s6 (nI ra) m6 m7 m8 fb f tr y1 y2 y3 y4 y5 z t1 t2 t3 t4 t5 t6 fb2 tr2 h2 H.size
    refine cl_i (w1 := [o12 (ad 26) m0 (ad 27) (ad 28) ik m1 m2 m3 m4 m5 (ad 29) (ad 30) t1 t2 t3 t4 t5 t6 (ad 31) (nI ra) m6 m7 m8, aI G (ad 29) 5 fb2, aI G (ad 27) 1394 f, aZ G (ad 30) 64 tr2]) (ws' := [o11 (ad 0) (ad 1) (ad 2) ik (ad 3) (ad 4) (ad 5), o6 (ad 1) (nI nc) (nI nh) (nI nl) (nI nb) (nI ns) (ad 6) (ad 7) (ad 8) (ad 9) (ad 10) (ad 11) (ad 12) (ad 13) (ad 14), o6 (ad 2) kc kh kl kb ks (ad 15) (ad 16) (ad 17) (ad 18) (ad 19) (ad 20) (ad 21) (ad 22) (ad 23), o3 (ad 3) tx (ad 24) r1 r2 r3 r4 r5, o2 (ad 4) g1 g2 g3 g4 g5 g6 g7 g8, o8 (ad 5) (ad 25) (nI ra), aI G (ad 6) 6 ed, aI G (ad 7) 6 be, aI G (ad 8) 6 ri, aI G (ad 9) 6 wa, aI G (ad 10) 36 th, aI G (ad 11) 36 al, aT G (ad 12) 8 lw, aI G (ad 13) 120 ta, aI G (ad 14) 16 sd, aI G (ad 15) 6 ked, aI G (ad 16) 6 kbe, aI G (ad 17) 6 kri, aI G (ad 18) 6 kwa, aI G (ad 19) 36 kth, aI G (ad 20) 36 kal, aT G (ad 21) 8 klw, aI G (ad 22) 120 kta, aI G (ad 23) 16 ksd, aI G (ad 24) 120 rst, aI G (ad 25) 20 bo, o12 (ad 26) m0 (ad 27) (ad 28) ik m1 m2 m3 m4 m5 (ad 29) (ad 30) t1 t2 t3 t4 t5 t6 (ad 31) (nI ra) m6 m7 m8, aI G (ad 27) 1394 f, aI G (ad 28) 1394 fi, aI G (ad 29) 5 fb2, aZ G (ad 30) 64 tr2, aI G (ad 31) 20 bo] ++ LW G Ls) hP hD hS hFc [26, 29, 27, 30] rfl rfl rfl (va_runV (As := [.int y1, .int y2, .int y3, .int y4, .int y5]) (rest := [.int z]) ⟨hx, hb, hml, hown, hts⟩ hM (cwV 5 hts gT_X12_up rfl rfl rfl (by decide +kernel) ⟨Nat.le_of_ble_eq_true rfl, Nat.le_of_ble_eq_true rfl⟩) (cp_V hK hE hS hPc hDc hFc (va_recv hK hP (ci := 12) (q0 := 26) rfl rfl)) rfl rfl hl.1 rfl (lv_room (Nat.le_of_ble_eq_true rfl)) dL_law_555 hf0) (fun H locs hP hD hS => ?_)
    refine lv_icmp_eq (tgt := 1190) hx hb dL_law_558 (by decide) (fun _ => ?_) (fun c9 => absurd rfl c9)
    refine W.widen (k := cells + 2) (n := slots + 125) (by omega) (by omega) ?_
    exact kk _ _ ⟨Ls, nc, nh, nl, nb, ns, al, be, ed, lw, ri, sd, ta, th, wa, f, ik, kc, kh, kl, kb, ks, kal, kbe, ked, klw, kri, ksd, kta, kth, kwa, fi, tx, r1, r2, r3, r4, r5, rst, g1, g2, g3, g4, g5, g6, g7, g8, ra, bo, m0, m1, m2, m3, m4, m5, m6, m7, m8, t1, t2, t3, t4, t5, t6, fb2, tr2, hP, hD, hS, hSS, hKP, hra, hTs⟩
  · subst ek
    have hcq : r.1 = 0 ∨ r.1 = 1 ∨ r.1 = 4 ∨ r.1 = 5 ∨ r.1 = 7 ∨ r.1 = 9 ∨ r.1 = 10 := hTs r hrm
    obtain ⟨z, ⟨q1, q2, q3, q4, q5, q6, q7, q8⟩, ⟨t1, t2, t3, t4, t5, t6, fb2, tr2⟩, h1, h2⟩ := p_up_s hSS hk hk8 hr hw y2 y3 y4 y5 g1 g2 g3 g4 g5 g6 g7 g8 s1 s2 s3 s4 s5 s6 fb tr
    obtain ⟨S, T, eL⟩ := List.append_of_mem hrm
    subst eL
    have hP := wP_perm (LW_out G [o11 (ad 0) (ad 1) (ad 2) ik (ad 3) (ad 4) (ad 5), o6 (ad 1) (nI nc) (nI nh) (nI nl) (nI nb) (nI ns) (ad 6) (ad 7) (ad 8) (ad 9) (ad 10) (ad 11) (ad 12) (ad 13) (ad 14), o6 (ad 2) kc kh kl kb ks (ad 15) (ad 16) (ad 17) (ad 18) (ad 19) (ad 20) (ad 21) (ad 22) (ad 23), o3 (ad 3) tx (ad 24) r1 r2 r3 r4 r5, o2 (ad 4) g1 g2 g3 g4 g5 g6 g7 g8, o8 (ad 5) (ad 25) (nI ra), aI G (ad 6) 6 ed, aI G (ad 7) 6 be, aI G (ad 8) 6 ri, aI G (ad 9) 6 wa, aI G (ad 10) 36 th, aI G (ad 11) 36 al, aT G (ad 12) 8 lw, aI G (ad 13) 120 ta, aI G (ad 14) 16 sd, aI G (ad 15) 6 ked, aI G (ad 16) 6 kbe, aI G (ad 17) 6 kri, aI G (ad 18) 6 kwa, aI G (ad 19) 36 kth, aI G (ad 20) 36 kal, aT G (ad 21) 8 klw, aI G (ad 22) 120 kta, aI G (ad 23) 16 ksd, aI G (ad 24) 120 rst, aI G (ad 25) 20 bo, o12 (ad 26) m0 (ad 27) (ad 28) ik m1 m2 m3 m4 m5 (ad 29) (ad 30) s1 s2 s3 s4 s5 s6 (ad 31) (nI ra) m6 m7 m8, aI G (ad 27) 1394 f, aI G (ad 28) 1394 fi, aI G (ad 29) 5 fb, aZ G (ad 30) 64 tr, aI G (ad 31) 20 bo] S T r) hP
    have hD := wD_perm (LW_out G [o11 (ad 0) (ad 1) (ad 2) ik (ad 3) (ad 4) (ad 5), o6 (ad 1) (nI nc) (nI nh) (nI nl) (nI nb) (nI ns) (ad 6) (ad 7) (ad 8) (ad 9) (ad 10) (ad 11) (ad 12) (ad 13) (ad 14), o6 (ad 2) kc kh kl kb ks (ad 15) (ad 16) (ad 17) (ad 18) (ad 19) (ad 20) (ad 21) (ad 22) (ad 23), o3 (ad 3) tx (ad 24) r1 r2 r3 r4 r5, o2 (ad 4) g1 g2 g3 g4 g5 g6 g7 g8, o8 (ad 5) (ad 25) (nI ra), aI G (ad 6) 6 ed, aI G (ad 7) 6 be, aI G (ad 8) 6 ri, aI G (ad 9) 6 wa, aI G (ad 10) 36 th, aI G (ad 11) 36 al, aT G (ad 12) 8 lw, aI G (ad 13) 120 ta, aI G (ad 14) 16 sd, aI G (ad 15) 6 ked, aI G (ad 16) 6 kbe, aI G (ad 17) 6 kri, aI G (ad 18) 6 kwa, aI G (ad 19) 36 kth, aI G (ad 20) 36 kal, aT G (ad 21) 8 klw, aI G (ad 22) 120 kta, aI G (ad 23) 16 ksd, aI G (ad 24) 120 rst, aI G (ad 25) 20 bo, o12 (ad 26) m0 (ad 27) (ad 28) ik m1 m2 m3 m4 m5 (ad 29) (ad 30) s1 s2 s3 s4 s5 s6 (ad 31) (nI ra) m6 m7 m8, aI G (ad 27) 1394 f, aI G (ad 28) 1394 fi, aI G (ad 29) 5 fb, aZ G (ad 30) 64 tr, aI G (ad 31) 20 bo] S T r) hD
    have hP : va_P G.1 vwCl ([o11 (ad 0) (ad 1) (ad 2) ik (ad 3) (ad 4) (ad 5), o6 (ad 1) (nI nc) (nI nh) (nI nl) (nI nb) (nI ns) (ad 6) (ad 7) (ad 8) (ad 9) (ad 10) (ad 11) (ad 12) (ad 13) (ad 14), o6 (ad 2) kc kh kl kb ks (ad 15) (ad 16) (ad 17) (ad 18) (ad 19) (ad 20) (ad 21) (ad 22) (ad 23), o3 (ad 3) tx (ad 24) r1 r2 r3 r4 r5, o2 (ad 4) g1 g2 g3 g4 g5 g6 g7 g8, o8 (ad 5) (ad 25) (nI ra), aI G (ad 6) 6 ed, aI G (ad 7) 6 be, aI G (ad 8) 6 ri, aI G (ad 9) 6 wa, aI G (ad 10) 36 th, aI G (ad 11) 36 al, aT G (ad 12) 8 lw, aI G (ad 13) 120 ta, aI G (ad 14) 16 sd, aI G (ad 15) 6 ked, aI G (ad 16) 6 kbe, aI G (ad 17) 6 kri, aI G (ad 18) 6 kwa, aI G (ad 19) 36 kth, aI G (ad 20) 36 kal, aT G (ad 21) 8 klw, aI G (ad 22) 120 kta, aI G (ad 23) 16 ksd, aI G (ad 24) 120 rst, aI G (ad 25) 20 bo, o12 (ad 26) m0 (ad 27) (ad 28) ik m1 m2 m3 m4 m5 (ad 29) (ad 30) s1 s2 s3 s4 s5 s6 (ad 31) (nI ra) m6 m7 m8, aI G (ad 27) 1394 f, aI G (ad 28) 1394 fi, aI G (ad 29) 5 fb, aZ G (ad 30) 64 tr, aI G (ad 31) 20 bo, oT r.1 r.2.1 r.2.2.1 r.2.2.2.1 r.2.2.2.2.1 r.2.2.2.2.2.1 r.2.2.2.2.2.2.1, aI G r.2.2.2.2.2.2.1 r.2.2.2.2.2.2.2.1 r.2.2.2.2.2.2.2.2] ++ LW G (S ++ T)) H := hP
    have hD : va_D (fun q : Nat => s.heap.size ≤ q) ([o11 (ad 0) (ad 1) (ad 2) ik (ad 3) (ad 4) (ad 5), o6 (ad 1) (nI nc) (nI nh) (nI nl) (nI nb) (nI ns) (ad 6) (ad 7) (ad 8) (ad 9) (ad 10) (ad 11) (ad 12) (ad 13) (ad 14), o6 (ad 2) kc kh kl kb ks (ad 15) (ad 16) (ad 17) (ad 18) (ad 19) (ad 20) (ad 21) (ad 22) (ad 23), o3 (ad 3) tx (ad 24) r1 r2 r3 r4 r5, o2 (ad 4) g1 g2 g3 g4 g5 g6 g7 g8, o8 (ad 5) (ad 25) (nI ra), aI G (ad 6) 6 ed, aI G (ad 7) 6 be, aI G (ad 8) 6 ri, aI G (ad 9) 6 wa, aI G (ad 10) 36 th, aI G (ad 11) 36 al, aT G (ad 12) 8 lw, aI G (ad 13) 120 ta, aI G (ad 14) 16 sd, aI G (ad 15) 6 ked, aI G (ad 16) 6 kbe, aI G (ad 17) 6 kri, aI G (ad 18) 6 kwa, aI G (ad 19) 36 kth, aI G (ad 20) 36 kal, aT G (ad 21) 8 klw, aI G (ad 22) 120 kta, aI G (ad 23) 16 ksd, aI G (ad 24) 120 rst, aI G (ad 25) 20 bo, o12 (ad 26) m0 (ad 27) (ad 28) ik m1 m2 m3 m4 m5 (ad 29) (ad 30) s1 s2 s3 s4 s5 s6 (ad 31) (nI ra) m6 m7 m8, aI G (ad 27) 1394 f, aI G (ad 28) 1394 fi, aI G (ad 29) 5 fb, aZ G (ad 30) 64 tr, aI G (ad 31) 20 bo, oT r.1 r.2.1 r.2.2.1 r.2.2.2.1 r.2.2.2.2.1 r.2.2.2.2.2.1 r.2.2.2.2.2.2.1, aI G r.2.2.2.2.2.2.1 r.2.2.2.2.2.2.2.1 r.2.2.2.2.2.2.2.2] ++ LW G (S ++ T)) := hD
    refine lv_aload_n hx hb dL_law_500 rfl (lv_at hl 1 rfl) ?_
    refine lv_aload_n hx hb dL_law_501 rfl (lv_at hl 0 rfl) ?_
    refine lv_iload_n hx hb dL_law_502 rfl (lv_at hl 3 rfl) ?_
    refine lv_iconst (v := 1) hx hb dL_law_503 (by decide) ?_
    refine lv_iadd hx hb dL_law_504 ?_
    refine va_sld hx hb hX hbl hbA hS in1 dL_law_505 ?_
    refine lv_eqi e1 ?_
    refine lv_aload_n hx hb dL_law_506 rfl (lv_at hl 0 rfl) ?_
    refine lv_iload_n hx hb dL_law_507 rfl (lv_at hl 3 rfl) ?_
    refine lv_iconst (v := 2) hx hb dL_law_508 (by decide) ?_
    refine lv_iadd hx hb dL_law_509 ?_
    refine va_sld hx hb hX hbl hbA hS in2 dL_law_510 ?_
    refine lv_eqi e2 ?_
    refine lv_aload_n hx hb dL_law_511 rfl (lv_at hl 0 rfl) ?_
    refine lv_iload_n hx hb dL_law_512 rfl (lv_at hl 3 rfl) ?_
    refine lv_iconst (v := 3) hx hb dL_law_513 (by decide) ?_
    refine lv_iadd hx hb dL_law_514 ?_
    refine va_sld hx hb hX hbl hbA hS in3 dL_law_515 ?_
    refine lv_eqi e3 ?_
    refine lv_aload_n hx hb dL_law_516 rfl (lv_at hl 0 rfl) ?_
    refine lv_iload_n hx hb dL_law_517 rfl (lv_at hl 3 rfl) ?_
    refine lv_iconst (v := 4) hx hb dL_law_518 (by decide) ?_
    refine lv_iadd hx hb dL_law_519 ?_
    refine va_sld hx hb hX hbl hbA hS in4 dL_law_520 ?_
    refine lv_eqi e4 ?_
    refine lv_aload_n hx hb dL_law_521 rfl (lv_at hl 0 rfl) ?_
    refine lv_iload_n hx hb dL_law_522 rfl (lv_at hl 3 rfl) ?_
    refine lv_iconst (v := 5) hx hb dL_law_523 (by decide) ?_
    refine lv_iadd hx hb dL_law_524 ?_
    refine va_sld hx hb hX hbl hbA hS in5 dL_law_525 ?_
    refine lv_eqi e5 ?_
    have hPc := hP.sub (ws' := [oT r.1 r.2.1 r.2.2.1 r.2.2.2.1 r.2.2.2.2.1 r.2.2.2.2.2.1 r.2.2.2.2.2.2.1, o11 (ad 0) (ad 1) (ad 2) ik (ad 3) (ad 4) (ad 5), o2 (ad 4) g1 g2 g3 g4 g5 g6 g7 g8, o6 (ad 1) (nI nc) (nI nh) (nI nl) (nI nb) (nI ns) (ad 6) (ad 7) (ad 8) (ad 9) (ad 10) (ad 11) (ad 12) (ad 13) (ad 14), aI G r.2.2.2.2.2.2.1 r.2.2.2.2.2.2.2.1 r.2.2.2.2.2.2.2.2, aI G (ad 7) 6 be, aI G (ad 6) 6 ed, aT G (ad 12) 8 lw]) [32, 0, 4, 1, 33, 7, 6, 12] rfl
    have hDc := hD.sub (ws' := [oT r.1 r.2.1 r.2.2.1 r.2.2.2.1 r.2.2.2.2.1 r.2.2.2.2.2.1 r.2.2.2.2.2.2.1, o11 (ad 0) (ad 1) (ad 2) ik (ad 3) (ad 4) (ad 5), o2 (ad 4) g1 g2 g3 g4 g5 g6 g7 g8, o6 (ad 1) (nI nc) (nI nh) (nI nl) (nI nb) (nI ns) (ad 6) (ad 7) (ad 8) (ad 9) (ad 10) (ad 11) (ad 12) (ad 13) (ad 14), aI G r.2.2.2.2.2.2.1 r.2.2.2.2.2.2.2.1 r.2.2.2.2.2.2.2.2, aI G (ad 7) 6 be, aI G (ad 6) 6 ed, aT G (ad 12) 8 lw]) [32, 0, 4, 1, 33, 7, 6, 12] (by decide) rfl
    have hFc := va_free (wc := [oT r.1 r.2.1 r.2.2.1 r.2.2.2.1 r.2.2.2.2.1 r.2.2.2.2.2.1 r.2.2.2.2.2.2.1, o11 (ad 0) (ad 1) (ad 2) ik (ad 3) (ad 4) (ad 5), o2 (ad 4) g1 g2 g3 g4 g5 g6 g7 g8, o6 (ad 1) (nI nc) (nI nh) (nI nl) (nI nb) (nI ns) (ad 6) (ad 7) (ad 8) (ad 9) (ad 10) (ad 11) (ad 12) (ad 13) (ad 14), aI G r.2.2.2.2.2.2.1 r.2.2.2.2.2.2.2.1 r.2.2.2.2.2.2.2.2, aI G (ad 7) 6 be, aI G (ad 6) 6 ed, aT G (ad 12) 8 lw]) hD hS hA [32, 0, 4, 1, 33, 7, 6, 12] rfl
    have hM := c_X11_up_s l G r.1 hcq r.2.1 r.2.2.2.2.2.2.1 (ad 0) (ad 1) (ad 2) (ad 3) (ad 4) (ad 5) (ad 6) (ad 7) (ad 8) (ad 9) (ad 10) (ad 11) (ad 12) (ad 13) (ad 14) r.2.2.1 r.2.2.2.1 r.2.2.2.2.1 r.2.2.2.2.2.1 ik g1 g2 g3 g4 g5 g6 g7 g8 (nI nc) (nI nh) (nI nl) (nI nb) (nI ns) r.2.2.2.2.2.2.2.2 be ed lw r.2.2.2.2.2.2.2.1 (nI k) y2 y3 y4 y5 z q1 q2 q3 q4 q5 q6 q7 q8 hlaw h1 H.size
    refine cl_i (w1 := [oT r.1 r.2.1 r.2.2.1 r.2.2.2.1 r.2.2.2.2.1 r.2.2.2.2.2.1 r.2.2.2.2.2.2.1, o11 (ad 0) (ad 1) (ad 2) ik (ad 3) (ad 4) (ad 5), o2 (ad 4) q1 q2 q3 q4 q5 q6 q7 q8, o6 (ad 1) (nI nc) (nI nh) (nI nl) (nI nb) (nI ns) (ad 6) (ad 7) (ad 8) (ad 9) (ad 10) (ad 11) (ad 12) (ad 13) (ad 14), aI G r.2.2.2.2.2.2.1 r.2.2.2.2.2.2.2.1 r.2.2.2.2.2.2.2.2, aI G (ad 7) 6 be, aI G (ad 6) 6 ed, aT G (ad 12) 8 lw]) (ws' := [o11 (ad 0) (ad 1) (ad 2) ik (ad 3) (ad 4) (ad 5), o6 (ad 1) (nI nc) (nI nh) (nI nl) (nI nb) (nI ns) (ad 6) (ad 7) (ad 8) (ad 9) (ad 10) (ad 11) (ad 12) (ad 13) (ad 14), o6 (ad 2) kc kh kl kb ks (ad 15) (ad 16) (ad 17) (ad 18) (ad 19) (ad 20) (ad 21) (ad 22) (ad 23), o3 (ad 3) tx (ad 24) r1 r2 r3 r4 r5, o2 (ad 4) q1 q2 q3 q4 q5 q6 q7 q8, o8 (ad 5) (ad 25) (nI ra), aI G (ad 6) 6 ed, aI G (ad 7) 6 be, aI G (ad 8) 6 ri, aI G (ad 9) 6 wa, aI G (ad 10) 36 th, aI G (ad 11) 36 al, aT G (ad 12) 8 lw, aI G (ad 13) 120 ta, aI G (ad 14) 16 sd, aI G (ad 15) 6 ked, aI G (ad 16) 6 kbe, aI G (ad 17) 6 kri, aI G (ad 18) 6 kwa, aI G (ad 19) 36 kth, aI G (ad 20) 36 kal, aT G (ad 21) 8 klw, aI G (ad 22) 120 kta, aI G (ad 23) 16 ksd, aI G (ad 24) 120 rst, aI G (ad 25) 20 bo, o12 (ad 26) m0 (ad 27) (ad 28) ik m1 m2 m3 m4 m5 (ad 29) (ad 30) s1 s2 s3 s4 s5 s6 (ad 31) (nI ra) m6 m7 m8, aI G (ad 27) 1394 f, aI G (ad 28) 1394 fi, aI G (ad 29) 5 fb, aZ G (ad 30) 64 tr, aI G (ad 31) 20 bo, oT r.1 r.2.1 r.2.2.1 r.2.2.2.1 r.2.2.2.2.1 r.2.2.2.2.2.1 r.2.2.2.2.2.2.1, aI G r.2.2.2.2.2.2.1 r.2.2.2.2.2.2.2.1 r.2.2.2.2.2.2.2.2] ++ LW G (S ++ T)) hP hD hS hFc [32, 0, 4, 1, 33, 7, 6, 12] rfl rfl rfl (va_runV (As := [.int (nI k), .int y2, .int y3, .int y4, .int y5]) (rest := []) ⟨hx, hb, hml, hown, hts⟩ hM (cwV 5 hts gT_X11_up rfl rfl rfl (by decide +kernel) ⟨Nat.le_of_ble_eq_true rfl, Nat.le_of_ble_eq_true rfl⟩) (cp_V hK hE hS hPc hDc hFc (va_recv hK hP (ci := 11) (q0 := 0) rfl rfl)) rfl rfl hl.1 rfl (lv_room (Nat.le_of_ble_eq_true rfl)) dL_law_526 hf0) (fun H locs hP hD hS => ?_)
    refine lv_aload_n hx hb dL_law_529 rfl (lv_at hl 2 rfl) ?_
    refine lv_aload_n hx hb dL_law_530 rfl (lv_at hl 0 rfl) ?_
    refine lv_iload_n hx hb dL_law_531 rfl (lv_at hl 3 rfl) ?_
    refine lv_iconst (v := 1) hx hb dL_law_532 (by decide) ?_
    refine lv_iadd hx hb dL_law_533 ?_
    refine va_sld hx hb hX hbl hbA hS in1 dL_law_534 ?_
    refine lv_eqi e1 ?_
    refine lv_aload_n hx hb dL_law_535 rfl (lv_at hl 0 rfl) ?_
    refine lv_iload_n hx hb dL_law_536 rfl (lv_at hl 3 rfl) ?_
    refine lv_iconst (v := 2) hx hb dL_law_537 (by decide) ?_
    refine lv_iadd hx hb dL_law_538 ?_
    refine va_sld hx hb hX hbl hbA hS in2 dL_law_539 ?_
    refine lv_eqi e2 ?_
    refine lv_aload_n hx hb dL_law_540 rfl (lv_at hl 0 rfl) ?_
    refine lv_iload_n hx hb dL_law_541 rfl (lv_at hl 3 rfl) ?_
    refine lv_iconst (v := 3) hx hb dL_law_542 (by decide) ?_
    refine lv_iadd hx hb dL_law_543 ?_
    refine va_sld hx hb hX hbl hbA hS in3 dL_law_544 ?_
    refine lv_eqi e3 ?_
    refine lv_aload_n hx hb dL_law_545 rfl (lv_at hl 0 rfl) ?_
    refine lv_iload_n hx hb dL_law_546 rfl (lv_at hl 3 rfl) ?_
    refine lv_iconst (v := 4) hx hb dL_law_547 (by decide) ?_
    refine lv_iadd hx hb dL_law_548 ?_
    refine va_sld hx hb hX hbl hbA hS in4 dL_law_549 ?_
    refine lv_eqi e4 ?_
    refine lv_aload_n hx hb dL_law_550 rfl (lv_at hl 0 rfl) ?_
    refine lv_iload_n hx hb dL_law_551 rfl (lv_at hl 3 rfl) ?_
    refine lv_iconst (v := 5) hx hb dL_law_552 (by decide) ?_
    refine lv_iadd hx hb dL_law_553 ?_
    refine va_sld hx hb hX hbl hbA hS in5 dL_law_554 ?_
    refine lv_eqi e5 ?_
    have hPc := hP.sub (ws' := [o12 (ad 26) m0 (ad 27) (ad 28) ik m1 m2 m3 m4 m5 (ad 29) (ad 30) s1 s2 s3 s4 s5 s6 (ad 31) (nI ra) m6 m7 m8, aI G (ad 29) 5 fb, aI G (ad 27) 1394 f, aZ G (ad 30) 64 tr]) [26, 29, 27, 30] rfl
    have hDc := hD.sub (ws' := [o12 (ad 26) m0 (ad 27) (ad 28) ik m1 m2 m3 m4 m5 (ad 29) (ad 30) s1 s2 s3 s4 s5 s6 (ad 31) (nI ra) m6 m7 m8, aI G (ad 29) 5 fb, aI G (ad 27) 1394 f, aZ G (ad 30) 64 tr]) [26, 29, 27, 30] (by decide) rfl
    have hFc := va_free (wc := [o12 (ad 26) m0 (ad 27) (ad 28) ik m1 m2 m3 m4 m5 (ad 29) (ad 30) s1 s2 s3 s4 s5 s6 (ad 31) (nI ra) m6 m7 m8, aI G (ad 29) 5 fb, aI G (ad 27) 1394 f, aZ G (ad 30) 64 tr]) hD hS hA [26, 29, 27, 30] rfl
    have hM := c_X12_up l G (ad 26) (ad 27) (ad 28) (ad 29) (ad 30) (ad 31) m0 ik m1 m2 m3 m4 m5 s1 s2 s3 s4 s5 s6 (nI ra) m6 m7 m8 fb f tr (nI k) y2 y3 y4 y5 z t1 t2 t3 t4 t5 t6 fb2 tr2 h2 H.size
    refine cl_i (w1 := [o12 (ad 26) m0 (ad 27) (ad 28) ik m1 m2 m3 m4 m5 (ad 29) (ad 30) t1 t2 t3 t4 t5 t6 (ad 31) (nI ra) m6 m7 m8, aI G (ad 29) 5 fb2, aI G (ad 27) 1394 f, aZ G (ad 30) 64 tr2]) (ws' := [o11 (ad 0) (ad 1) (ad 2) ik (ad 3) (ad 4) (ad 5), o6 (ad 1) (nI nc) (nI nh) (nI nl) (nI nb) (nI ns) (ad 6) (ad 7) (ad 8) (ad 9) (ad 10) (ad 11) (ad 12) (ad 13) (ad 14), o6 (ad 2) kc kh kl kb ks (ad 15) (ad 16) (ad 17) (ad 18) (ad 19) (ad 20) (ad 21) (ad 22) (ad 23), o3 (ad 3) tx (ad 24) r1 r2 r3 r4 r5, o2 (ad 4) q1 q2 q3 q4 q5 q6 q7 q8, o8 (ad 5) (ad 25) (nI ra), aI G (ad 6) 6 ed, aI G (ad 7) 6 be, aI G (ad 8) 6 ri, aI G (ad 9) 6 wa, aI G (ad 10) 36 th, aI G (ad 11) 36 al, aT G (ad 12) 8 lw, aI G (ad 13) 120 ta, aI G (ad 14) 16 sd, aI G (ad 15) 6 ked, aI G (ad 16) 6 kbe, aI G (ad 17) 6 kri, aI G (ad 18) 6 kwa, aI G (ad 19) 36 kth, aI G (ad 20) 36 kal, aT G (ad 21) 8 klw, aI G (ad 22) 120 kta, aI G (ad 23) 16 ksd, aI G (ad 24) 120 rst, aI G (ad 25) 20 bo, o12 (ad 26) m0 (ad 27) (ad 28) ik m1 m2 m3 m4 m5 (ad 29) (ad 30) t1 t2 t3 t4 t5 t6 (ad 31) (nI ra) m6 m7 m8, aI G (ad 27) 1394 f, aI G (ad 28) 1394 fi, aI G (ad 29) 5 fb2, aZ G (ad 30) 64 tr2, aI G (ad 31) 20 bo, oT r.1 r.2.1 r.2.2.1 r.2.2.2.1 r.2.2.2.2.1 r.2.2.2.2.2.1 r.2.2.2.2.2.2.1, aI G r.2.2.2.2.2.2.1 r.2.2.2.2.2.2.2.1 r.2.2.2.2.2.2.2.2] ++ LW G (S ++ T)) hP hD hS hFc [26, 29, 27, 30] rfl rfl rfl (va_runV (As := [.int (nI k), .int y2, .int y3, .int y4, .int y5]) (rest := [.int z]) ⟨hx, hb, hml, hown, hts⟩ hM (cwV 5 hts gT_X12_up rfl rfl rfl (by decide +kernel) ⟨Nat.le_of_ble_eq_true rfl, Nat.le_of_ble_eq_true rfl⟩) (cp_V hK hE hS hPc hDc hFc (va_recv hK hP (ci := 12) (q0 := 26) rfl rfl)) rfl rfl hl.1 rfl (lv_room (Nat.le_of_ble_eq_true rfl)) dL_law_555 hf0) (fun H locs hP hD hS => ?_)
    refine lv_icmp_eq (tgt := 1190) hx hb dL_law_558 (by decide) (fun _ => ?_) (fun c9 => absurd rfl c9)
    have hP : va_P G.1 vwCl ([o11 (ad 0) (ad 1) (ad 2) ik (ad 3) (ad 4) (ad 5), o6 (ad 1) (nI nc) (nI nh) (nI nl) (nI nb) (nI ns) (ad 6) (ad 7) (ad 8) (ad 9) (ad 10) (ad 11) (ad 12) (ad 13) (ad 14), o6 (ad 2) kc kh kl kb ks (ad 15) (ad 16) (ad 17) (ad 18) (ad 19) (ad 20) (ad 21) (ad 22) (ad 23), o3 (ad 3) tx (ad 24) r1 r2 r3 r4 r5, o2 (ad 4) q1 q2 q3 q4 q5 q6 q7 q8, o8 (ad 5) (ad 25) (nI ra), aI G (ad 6) 6 ed, aI G (ad 7) 6 be, aI G (ad 8) 6 ri, aI G (ad 9) 6 wa, aI G (ad 10) 36 th, aI G (ad 11) 36 al, aT G (ad 12) 8 lw, aI G (ad 13) 120 ta, aI G (ad 14) 16 sd, aI G (ad 15) 6 ked, aI G (ad 16) 6 kbe, aI G (ad 17) 6 kri, aI G (ad 18) 6 kwa, aI G (ad 19) 36 kth, aI G (ad 20) 36 kal, aT G (ad 21) 8 klw, aI G (ad 22) 120 kta, aI G (ad 23) 16 ksd, aI G (ad 24) 120 rst, aI G (ad 25) 20 bo, o12 (ad 26) m0 (ad 27) (ad 28) ik m1 m2 m3 m4 m5 (ad 29) (ad 30) t1 t2 t3 t4 t5 t6 (ad 31) (nI ra) m6 m7 m8, aI G (ad 27) 1394 f, aI G (ad 28) 1394 fi, aI G (ad 29) 5 fb2, aZ G (ad 30) 64 tr2, aI G (ad 31) 20 bo] ++ (lawCells G r ++ LW G (S ++ T))) H := hP
    have hD : va_D (fun q : Nat => s.heap.size ≤ q) ([o11 (ad 0) (ad 1) (ad 2) ik (ad 3) (ad 4) (ad 5), o6 (ad 1) (nI nc) (nI nh) (nI nl) (nI nb) (nI ns) (ad 6) (ad 7) (ad 8) (ad 9) (ad 10) (ad 11) (ad 12) (ad 13) (ad 14), o6 (ad 2) kc kh kl kb ks (ad 15) (ad 16) (ad 17) (ad 18) (ad 19) (ad 20) (ad 21) (ad 22) (ad 23), o3 (ad 3) tx (ad 24) r1 r2 r3 r4 r5, o2 (ad 4) q1 q2 q3 q4 q5 q6 q7 q8, o8 (ad 5) (ad 25) (nI ra), aI G (ad 6) 6 ed, aI G (ad 7) 6 be, aI G (ad 8) 6 ri, aI G (ad 9) 6 wa, aI G (ad 10) 36 th, aI G (ad 11) 36 al, aT G (ad 12) 8 lw, aI G (ad 13) 120 ta, aI G (ad 14) 16 sd, aI G (ad 15) 6 ked, aI G (ad 16) 6 kbe, aI G (ad 17) 6 kri, aI G (ad 18) 6 kwa, aI G (ad 19) 36 kth, aI G (ad 20) 36 kal, aT G (ad 21) 8 klw, aI G (ad 22) 120 kta, aI G (ad 23) 16 ksd, aI G (ad 24) 120 rst, aI G (ad 25) 20 bo, o12 (ad 26) m0 (ad 27) (ad 28) ik m1 m2 m3 m4 m5 (ad 29) (ad 30) t1 t2 t3 t4 t5 t6 (ad 31) (nI ra) m6 m7 m8, aI G (ad 27) 1394 f, aI G (ad 28) 1394 fi, aI G (ad 29) 5 fb2, aZ G (ad 30) 64 tr2, aI G (ad 31) 20 bo] ++ (lawCells G r ++ LW G (S ++ T))) := hD
    have hP := wP_perm (LW_out G [o11 (ad 0) (ad 1) (ad 2) ik (ad 3) (ad 4) (ad 5), o6 (ad 1) (nI nc) (nI nh) (nI nl) (nI nb) (nI ns) (ad 6) (ad 7) (ad 8) (ad 9) (ad 10) (ad 11) (ad 12) (ad 13) (ad 14), o6 (ad 2) kc kh kl kb ks (ad 15) (ad 16) (ad 17) (ad 18) (ad 19) (ad 20) (ad 21) (ad 22) (ad 23), o3 (ad 3) tx (ad 24) r1 r2 r3 r4 r5, o2 (ad 4) q1 q2 q3 q4 q5 q6 q7 q8, o8 (ad 5) (ad 25) (nI ra), aI G (ad 6) 6 ed, aI G (ad 7) 6 be, aI G (ad 8) 6 ri, aI G (ad 9) 6 wa, aI G (ad 10) 36 th, aI G (ad 11) 36 al, aT G (ad 12) 8 lw, aI G (ad 13) 120 ta, aI G (ad 14) 16 sd, aI G (ad 15) 6 ked, aI G (ad 16) 6 kbe, aI G (ad 17) 6 kri, aI G (ad 18) 6 kwa, aI G (ad 19) 36 kth, aI G (ad 20) 36 kal, aT G (ad 21) 8 klw, aI G (ad 22) 120 kta, aI G (ad 23) 16 ksd, aI G (ad 24) 120 rst, aI G (ad 25) 20 bo, o12 (ad 26) m0 (ad 27) (ad 28) ik m1 m2 m3 m4 m5 (ad 29) (ad 30) t1 t2 t3 t4 t5 t6 (ad 31) (nI ra) m6 m7 m8, aI G (ad 27) 1394 f, aI G (ad 28) 1394 fi, aI G (ad 29) 5 fb2, aZ G (ad 30) 64 tr2, aI G (ad 31) 20 bo] S T r).symm hP
    have hD := wD_perm (LW_out G [o11 (ad 0) (ad 1) (ad 2) ik (ad 3) (ad 4) (ad 5), o6 (ad 1) (nI nc) (nI nh) (nI nl) (nI nb) (nI ns) (ad 6) (ad 7) (ad 8) (ad 9) (ad 10) (ad 11) (ad 12) (ad 13) (ad 14), o6 (ad 2) kc kh kl kb ks (ad 15) (ad 16) (ad 17) (ad 18) (ad 19) (ad 20) (ad 21) (ad 22) (ad 23), o3 (ad 3) tx (ad 24) r1 r2 r3 r4 r5, o2 (ad 4) q1 q2 q3 q4 q5 q6 q7 q8, o8 (ad 5) (ad 25) (nI ra), aI G (ad 6) 6 ed, aI G (ad 7) 6 be, aI G (ad 8) 6 ri, aI G (ad 9) 6 wa, aI G (ad 10) 36 th, aI G (ad 11) 36 al, aT G (ad 12) 8 lw, aI G (ad 13) 120 ta, aI G (ad 14) 16 sd, aI G (ad 15) 6 ked, aI G (ad 16) 6 kbe, aI G (ad 17) 6 kri, aI G (ad 18) 6 kwa, aI G (ad 19) 36 kth, aI G (ad 20) 36 kal, aT G (ad 21) 8 klw, aI G (ad 22) 120 kta, aI G (ad 23) 16 ksd, aI G (ad 24) 120 rst, aI G (ad 25) 20 bo, o12 (ad 26) m0 (ad 27) (ad 28) ik m1 m2 m3 m4 m5 (ad 29) (ad 30) t1 t2 t3 t4 t5 t6 (ad 31) (nI ra) m6 m7 m8, aI G (ad 27) 1394 f, aI G (ad 28) 1394 fi, aI G (ad 29) 5 fb2, aZ G (ad 30) 64 tr2, aI G (ad 31) 20 bo] S T r).symm hD
    refine W.widen (k := cells + 2) (n := slots + 125) (by omega) (by omega) ?_
    exact kk _ _ ⟨S ++ r :: T, nc, nh, nl, nb, ns, al, be, ed, lw, ri, sd, ta, th, wa, f, ik, kc, kh, kl, kb, ks, kal, kbe, ked, klw, kri, ksd, kta, kth, kwa, fi, tx, r1, r2, r3, r4, r5, rst, q1, q2, q3, q4, q5, q6, q7, q8, ra, bo, m0, m1, m2, m3, m4, m5, m6, m7, m8, t1, t2, t3, t4, t5, t6, fb2, tr2, hP, hD, hS, hSS, hKP, hra, hTs⟩
set_option maxHeartbeats 4000000 in
set_option maxRecDepth 100000 in
theorem k_same {p : Program} {l : Launch} {e : Env} {s : State} {m : MethodId} {below : List Frame} {meth : Method} {c : Code} {G : GG} {b L : Nat} {xs : Nat → Int32} {ad : Nat → Nat} {Q : State → Prop} {cells slots : Nat} {H : Heap} {locs : List Loc} {ls : Array Slot} {i : Int32} (C0 : lw_At p s m meth c b L xs) (hK : va_K G.1 vwCl (TY G) s) (hE : EV G (fun q : Nat => s.heap.size ≤ q) s s.heap) (hce : cells + 2 ≤ 600000) (hsl : slots + 125 ≤ 7302250) (hl : lv_has ls 4 [(0, .ref b), (1, .ref (ad 0)), (2, .ref (ad 26)), (3, .int i)]) (in1 : vp_in (i + 1) L) (in2 : vp_in (i + 2) L) (in3 : vp_in (i + 3) L) (in4 : vp_in (i + 4) L) (in5 : vp_in (i + 5) L) (y1 y2 y3 y4 y5 : Int32) (e1 : xs (i + 1).toNatClampNeg = y1) (e2 : xs (i + 2).toNatClampNeg = y2) (e3 : xs (i + 3).toNatClampNeg = y3) (e4 : xs (i + 4).toNatClampNeg = y4) (e5 : xs (i + 5).toNatClampNeg = y5) (Ls : List LR) (nc nh nl nb ns : Nat) (al be ed : Nat → Int32) (lw : Nat → Option Nat) (ri sd ta th wa f : Nat → Int32) (ik kc kh kl kb ks : Int32) (kal kbe ked : Nat → Int32) (klw : Nat → Option Nat) (kri ksd kta kth kwa fi : Nat → Int32) (tx : Nat) (r1 r2 r3 r4 r5 : Int32) (rst : Nat → Int32) (g1 g2 g3 g4 g5 g6 g7 g8 : Int32) (ra : Nat) (bo : Nat → Int32) (m0 m1 m2 m3 m4 m5 m6 m7 m8 s1 s2 s3 s4 s5 s6 : Int32) (fb tr : Nat → Int32) (hP : va_P G.1 vwCl ([o11 (ad 0) (ad 1) (ad 2) ik (ad 3) (ad 4) (ad 5), o6 (ad 1) (nI nc) (nI nh) (nI nl) (nI nb) (nI ns) (ad 6) (ad 7) (ad 8) (ad 9) (ad 10) (ad 11) (ad 12) (ad 13) (ad 14), o6 (ad 2) kc kh kl kb ks (ad 15) (ad 16) (ad 17) (ad 18) (ad 19) (ad 20) (ad 21) (ad 22) (ad 23), o3 (ad 3) tx (ad 24) r1 r2 r3 r4 r5, o2 (ad 4) g1 g2 g3 g4 g5 g6 g7 g8, o8 (ad 5) (ad 25) (nI ra), aI G (ad 6) 6 ed, aI G (ad 7) 6 be, aI G (ad 8) 6 ri, aI G (ad 9) 6 wa, aI G (ad 10) 36 th, aI G (ad 11) 36 al, aT G (ad 12) 8 lw, aI G (ad 13) 120 ta, aI G (ad 14) 16 sd, aI G (ad 15) 6 ked, aI G (ad 16) 6 kbe, aI G (ad 17) 6 kri, aI G (ad 18) 6 kwa, aI G (ad 19) 36 kth, aI G (ad 20) 36 kal, aT G (ad 21) 8 klw, aI G (ad 22) 120 kta, aI G (ad 23) 16 ksd, aI G (ad 24) 120 rst, aI G (ad 25) 20 bo, o12 (ad 26) m0 (ad 27) (ad 28) ik m1 m2 m3 m4 m5 (ad 29) (ad 30) s1 s2 s3 s4 s5 s6 (ad 31) (nI ra) m6 m7 m8, aI G (ad 27) 1394 f, aI G (ad 28) 1394 fi, aI G (ad 29) 5 fb, aZ G (ad 30) 64 tr, aI G (ad 31) 20 bo] ++ LW G Ls) H) (hD : va_D (fun q : Nat => s.heap.size ≤ q) ([o11 (ad 0) (ad 1) (ad 2) ik (ad 3) (ad 4) (ad 5), o6 (ad 1) (nI nc) (nI nh) (nI nl) (nI nb) (nI ns) (ad 6) (ad 7) (ad 8) (ad 9) (ad 10) (ad 11) (ad 12) (ad 13) (ad 14), o6 (ad 2) kc kh kl kb ks (ad 15) (ad 16) (ad 17) (ad 18) (ad 19) (ad 20) (ad 21) (ad 22) (ad 23), o3 (ad 3) tx (ad 24) r1 r2 r3 r4 r5, o2 (ad 4) g1 g2 g3 g4 g5 g6 g7 g8, o8 (ad 5) (ad 25) (nI ra), aI G (ad 6) 6 ed, aI G (ad 7) 6 be, aI G (ad 8) 6 ri, aI G (ad 9) 6 wa, aI G (ad 10) 36 th, aI G (ad 11) 36 al, aT G (ad 12) 8 lw, aI G (ad 13) 120 ta, aI G (ad 14) 16 sd, aI G (ad 15) 6 ked, aI G (ad 16) 6 kbe, aI G (ad 17) 6 kri, aI G (ad 18) 6 kwa, aI G (ad 19) 36 kth, aI G (ad 20) 36 kal, aT G (ad 21) 8 klw, aI G (ad 22) 120 kta, aI G (ad 23) 16 ksd, aI G (ad 24) 120 rst, aI G (ad 25) 20 bo, o12 (ad 26) m0 (ad 27) (ad 28) ik m1 m2 m3 m4 m5 (ad 29) (ad 30) s1 s2 s3 s4 s5 s6 (ad 31) (nI ra) m6 m7 m8, aI G (ad 27) 1394 f, aI G (ad 28) 1394 fi, aI G (ad 29) 5 fb, aZ G (ad 30) 64 tr, aI G (ad 31) 20 bo] ++ LW G Ls)) (hS : va_S (fun q : Nat => s.heap.size ≤ q) s.heap H locs) (hSS : SS Ls nc nh nl nb ns al be ed lw ri sd ta th wa f) (hKP : KP Ls ik kc kh kl kb ks kal kbe ked klw kri ksd kta kth kwa fi) (hra : ra ≤ 1000) (hTs : ∀ r ∈ Ls, isT r.1) (kk : ∀ (H : Heap) (locs : List Loc), INV G (fun q : Nat => s.heap.size ≤ q) s ad H locs → W p l e room_1 s m #[Value.ref b] below meth c H locs (cells + 2) (slots + 125) Q (F0 m 1190 ls [])) : W p l e room_1 s m #[Value.ref b] below meth c H locs cells slots Q (F0 m 563 ls []) := by
  obtain ⟨hx, hb, hr, hml, hown, hts, hX, hbl, hlocks, hgv⟩ := C0
  have hown : s.vm.findClass RL = some m.cls := hown
  have hb : c.code = cL_law := hb
  have hA : ∀ q : Nat, s.heap.size ≤ q → (fun q : Nat => s.heap.size ≤ q) q := fun _ h => h
  have hbA : ¬ (fun q : Nat => s.heap.size ≤ q) b := Nat.not_le.mpr hbl
  have hf0 : cells + 0 ≤ room_1.cells ∧ slots + 0 ≤ room_1.slots := ⟨show cells + 0 ≤ 600000 by omega, show slots + 0 ≤ 7302250 by omega⟩
  rcases p_lawOf hSS y1 with ⟨hw, hlaw⟩ | ⟨hw, k, r, hk, hk8, ek, hrm, hr, hlaw⟩
  · obtain ⟨z, ⟨t1, t2, t3, t4, t5, t6, fb2, tr2⟩, h1, h2⟩ := p_same_n hSS hw y2 y3 y4 s1 s2 s3 s4 s5 s6 fb tr
    refine lv_aload_n hx hb dL_law_563 rfl (lv_at hl 1 rfl) ?_
    refine lv_aload_n hx hb dL_law_564 rfl (lv_at hl 0 rfl) ?_
    refine lv_iload_n hx hb dL_law_565 rfl (lv_at hl 3 rfl) ?_
    refine lv_iconst (v := 1) hx hb dL_law_566 (by decide) ?_
    refine lv_iadd hx hb dL_law_567 ?_
    refine va_sld hx hb hX hbl hbA hS in1 dL_law_568 ?_
    refine lv_eqi e1 ?_
    refine lv_aload_n hx hb dL_law_569 rfl (lv_at hl 0 rfl) ?_
    refine lv_iload_n hx hb dL_law_570 rfl (lv_at hl 3 rfl) ?_
    refine lv_iconst (v := 2) hx hb dL_law_571 (by decide) ?_
    refine lv_iadd hx hb dL_law_572 ?_
    refine va_sld hx hb hX hbl hbA hS in2 dL_law_573 ?_
    refine lv_eqi e2 ?_
    refine lv_aload_n hx hb dL_law_574 rfl (lv_at hl 0 rfl) ?_
    refine lv_iload_n hx hb dL_law_575 rfl (lv_at hl 3 rfl) ?_
    refine lv_iconst (v := 3) hx hb dL_law_576 (by decide) ?_
    refine lv_iadd hx hb dL_law_577 ?_
    refine va_sld hx hb hX hbl hbA hS in3 dL_law_578 ?_
    refine lv_eqi e3 ?_
    refine lv_aload_n hx hb dL_law_579 rfl (lv_at hl 0 rfl) ?_
    refine lv_iload_n hx hb dL_law_580 rfl (lv_at hl 3 rfl) ?_
    refine lv_iconst (v := 4) hx hb dL_law_581 (by decide) ?_
    refine lv_iadd hx hb dL_law_582 ?_
    refine va_sld hx hb hX hbl hbA hS in4 dL_law_583 ?_
    refine lv_eqi e4 ?_
    have hPc := hP.sub (ws' := [o11 (ad 0) (ad 1) (ad 2) ik (ad 3) (ad 4) (ad 5), o6 (ad 1) (nI nc) (nI nh) (nI nl) (nI nb) (nI ns) (ad 6) (ad 7) (ad 8) (ad 9) (ad 10) (ad 11) (ad 12) (ad 13) (ad 14), aT G (ad 12) 8 lw]) [0, 1, 12] rfl
    have hDc := hD.sub (ws' := [o11 (ad 0) (ad 1) (ad 2) ik (ad 3) (ad 4) (ad 5), o6 (ad 1) (nI nc) (nI nh) (nI nl) (nI nb) (nI ns) (ad 6) (ad 7) (ad 8) (ad 9) (ad 10) (ad 11) (ad 12) (ad 13) (ad 14), aT G (ad 12) 8 lw]) [0, 1, 12] (by decide) rfl
    have hFc := va_free (wc := [o11 (ad 0) (ad 1) (ad 2) ik (ad 3) (ad 4) (ad 5), o6 (ad 1) (nI nc) (nI nh) (nI nl) (nI nb) (nI ns) (ad 6) (ad 7) (ad 8) (ad 9) (ad 10) (ad 11) (ad 12) (ad 13) (ad 14), aT G (ad 12) 8 lw]) hD hS hA [0, 1, 12] rfl
    have hM := c_X11_same_n l G (ad 0) (ad 1) (ad 2) (ad 3) (ad 4) (ad 5) (ad 6) (ad 7) (ad 8) (ad 9) (ad 10) (ad 11) (ad 12) (ad 13) (ad 14) ik (nI nc) (nI nh) (nI nl) (nI nb) (nI ns) lw y1 y2 y3 y4 z hlaw h1 H.size
    refine cl_l (w1 := [o11 (ad 0) (ad 1) (ad 2) ik (ad 3) (ad 4) (ad 5), o6 (ad 1) (nI nc) (nI nh) (nI nl) (nI nb) (nI ns) (ad 6) (ad 7) (ad 8) (ad 9) (ad 10) (ad 11) (ad 12) (ad 13) (ad 14), aT G (ad 12) 8 lw]) (ws' := [o11 (ad 0) (ad 1) (ad 2) ik (ad 3) (ad 4) (ad 5), o6 (ad 1) (nI nc) (nI nh) (nI nl) (nI nb) (nI ns) (ad 6) (ad 7) (ad 8) (ad 9) (ad 10) (ad 11) (ad 12) (ad 13) (ad 14), o6 (ad 2) kc kh kl kb ks (ad 15) (ad 16) (ad 17) (ad 18) (ad 19) (ad 20) (ad 21) (ad 22) (ad 23), o3 (ad 3) tx (ad 24) r1 r2 r3 r4 r5, o2 (ad 4) g1 g2 g3 g4 g5 g6 g7 g8, o8 (ad 5) (ad 25) (nI ra), aI G (ad 6) 6 ed, aI G (ad 7) 6 be, aI G (ad 8) 6 ri, aI G (ad 9) 6 wa, aI G (ad 10) 36 th, aI G (ad 11) 36 al, aT G (ad 12) 8 lw, aI G (ad 13) 120 ta, aI G (ad 14) 16 sd, aI G (ad 15) 6 ked, aI G (ad 16) 6 kbe, aI G (ad 17) 6 kri, aI G (ad 18) 6 kwa, aI G (ad 19) 36 kth, aI G (ad 20) 36 kal, aT G (ad 21) 8 klw, aI G (ad 22) 120 kta, aI G (ad 23) 16 ksd, aI G (ad 24) 120 rst, aI G (ad 25) 20 bo, o12 (ad 26) m0 (ad 27) (ad 28) ik m1 m2 m3 m4 m5 (ad 29) (ad 30) s1 s2 s3 s4 s5 s6 (ad 31) (nI ra) m6 m7 m8, aI G (ad 27) 1394 f, aI G (ad 28) 1394 fi, aI G (ad 29) 5 fb, aZ G (ad 30) 64 tr, aI G (ad 31) 20 bo] ++ LW G Ls) hP hD hS hFc [0, 1, 12] rfl rfl rfl (va_runV (As := [.int y1, .int y2, .int y3, .int y4]) (rest := []) ⟨hx, hb, hml, hown, hts⟩ hM (cwV 4 hts gT_X11_same rfl rfl rfl (by decide +kernel) ⟨Nat.le_of_ble_eq_true rfl, Nat.le_of_ble_eq_true rfl⟩) (cp_V hK hE hS hPc hDc hFc (va_recv hK hP (ci := 11) (q0 := 0) rfl rfl)) rfl rfl hl.1 rfl (lv_room (Nat.le_of_ble_eq_true rfl)) dL_law_584 hf0) (fun H locs hP hD hS => ?_)
    refine lv_aload_n hx hb dL_law_587 rfl (lv_at hl 2 rfl) ?_
    refine lv_aload_n hx hb dL_law_588 rfl (lv_at hl 0 rfl) ?_
    refine lv_iload_n hx hb dL_law_589 rfl (lv_at hl 3 rfl) ?_
    refine lv_iconst (v := 1) hx hb dL_law_590 (by decide) ?_
    refine lv_iadd hx hb dL_law_591 ?_
    refine va_sld hx hb hX hbl hbA hS in1 dL_law_592 ?_
    refine lv_eqi e1 ?_
    refine lv_aload_n hx hb dL_law_593 rfl (lv_at hl 0 rfl) ?_
    refine lv_iload_n hx hb dL_law_594 rfl (lv_at hl 3 rfl) ?_
    refine lv_iconst (v := 2) hx hb dL_law_595 (by decide) ?_
    refine lv_iadd hx hb dL_law_596 ?_
    refine va_sld hx hb hX hbl hbA hS in2 dL_law_597 ?_
    refine lv_eqi e2 ?_
    refine lv_aload_n hx hb dL_law_598 rfl (lv_at hl 0 rfl) ?_
    refine lv_iload_n hx hb dL_law_599 rfl (lv_at hl 3 rfl) ?_
    refine lv_iconst (v := 3) hx hb dL_law_600 (by decide) ?_
    refine lv_iadd hx hb dL_law_601 ?_
    refine va_sld hx hb hX hbl hbA hS in3 dL_law_602 ?_
    refine lv_eqi e3 ?_
    refine lv_aload_n hx hb dL_law_603 rfl (lv_at hl 0 rfl) ?_
    refine lv_iload_n hx hb dL_law_604 rfl (lv_at hl 3 rfl) ?_
    refine lv_iconst (v := 4) hx hb dL_law_605 (by decide) ?_
    refine lv_iadd hx hb dL_law_606 ?_
    refine va_sld hx hb hX hbl hbA hS in4 dL_law_607 ?_
    refine lv_eqi e4 ?_
    have hPc := hP.sub (ws' := [o12 (ad 26) m0 (ad 27) (ad 28) ik m1 m2 m3 m4 m5 (ad 29) (ad 30) s1 s2 s3 s4 s5 s6 (ad 31) (nI ra) m6 m7 m8, aI G (ad 29) 5 fb, aI G (ad 27) 1394 f, aZ G (ad 30) 64 tr]) [26, 29, 27, 30] rfl
    have hDc := hD.sub (ws' := [o12 (ad 26) m0 (ad 27) (ad 28) ik m1 m2 m3 m4 m5 (ad 29) (ad 30) s1 s2 s3 s4 s5 s6 (ad 31) (nI ra) m6 m7 m8, aI G (ad 29) 5 fb, aI G (ad 27) 1394 f, aZ G (ad 30) 64 tr]) [26, 29, 27, 30] (by decide) rfl
    have hFc := va_free (wc := [o12 (ad 26) m0 (ad 27) (ad 28) ik m1 m2 m3 m4 m5 (ad 29) (ad 30) s1 s2 s3 s4 s5 s6 (ad 31) (nI ra) m6 m7 m8, aI G (ad 29) 5 fb, aI G (ad 27) 1394 f, aZ G (ad 30) 64 tr]) hD hS hA [26, 29, 27, 30] rfl
    have hM := c_X12_same l G (ad 26) (ad 27) (ad 28) (ad 29) (ad 30) (ad 31) m0 ik m1 m2 m3 m4 m5 s1 s2 s3 s4 s5 s6 (nI ra) m6 m7 m8 fb f tr y1 y2 y3 y4 z t1 t2 t3 t4 t5 t6 fb2 tr2 h2 H.size
    refine cl_l (w1 := [o12 (ad 26) m0 (ad 27) (ad 28) ik m1 m2 m3 m4 m5 (ad 29) (ad 30) t1 t2 t3 t4 t5 t6 (ad 31) (nI ra) m6 m7 m8, aI G (ad 29) 5 fb2, aI G (ad 27) 1394 f, aZ G (ad 30) 64 tr2]) (ws' := [o11 (ad 0) (ad 1) (ad 2) ik (ad 3) (ad 4) (ad 5), o6 (ad 1) (nI nc) (nI nh) (nI nl) (nI nb) (nI ns) (ad 6) (ad 7) (ad 8) (ad 9) (ad 10) (ad 11) (ad 12) (ad 13) (ad 14), o6 (ad 2) kc kh kl kb ks (ad 15) (ad 16) (ad 17) (ad 18) (ad 19) (ad 20) (ad 21) (ad 22) (ad 23), o3 (ad 3) tx (ad 24) r1 r2 r3 r4 r5, o2 (ad 4) g1 g2 g3 g4 g5 g6 g7 g8, o8 (ad 5) (ad 25) (nI ra), aI G (ad 6) 6 ed, aI G (ad 7) 6 be, aI G (ad 8) 6 ri, aI G (ad 9) 6 wa, aI G (ad 10) 36 th, aI G (ad 11) 36 al, aT G (ad 12) 8 lw, aI G (ad 13) 120 ta, aI G (ad 14) 16 sd, aI G (ad 15) 6 ked, aI G (ad 16) 6 kbe, aI G (ad 17) 6 kri, aI G (ad 18) 6 kwa, aI G (ad 19) 36 kth, aI G (ad 20) 36 kal, aT G (ad 21) 8 klw, aI G (ad 22) 120 kta, aI G (ad 23) 16 ksd, aI G (ad 24) 120 rst, aI G (ad 25) 20 bo, o12 (ad 26) m0 (ad 27) (ad 28) ik m1 m2 m3 m4 m5 (ad 29) (ad 30) t1 t2 t3 t4 t5 t6 (ad 31) (nI ra) m6 m7 m8, aI G (ad 27) 1394 f, aI G (ad 28) 1394 fi, aI G (ad 29) 5 fb2, aZ G (ad 30) 64 tr2, aI G (ad 31) 20 bo] ++ LW G Ls) hP hD hS hFc [26, 29, 27, 30] rfl rfl rfl (va_runV (As := [.int y1, .int y2, .int y3, .int y4]) (rest := [.long z]) ⟨hx, hb, hml, hown, hts⟩ hM (cwV 4 hts gT_X12_same rfl rfl rfl (by decide +kernel) ⟨Nat.le_of_ble_eq_true rfl, Nat.le_of_ble_eq_true rfl⟩) (cp_V hK hE hS hPc hDc hFc (va_recv hK hP (ci := 12) (q0 := 26) rfl rfl)) rfl rfl hl.1 rfl (lv_room (Nat.le_of_ble_eq_true rfl)) dL_law_608 hf0) (fun H locs hP hD hS => ?_)
    refine W.lcmp hx hb dL_law_611 ?_
    refine lv_if_eq (tgt := 1190) hx hb dL_law_612 (by decide) (fun _ => ?_) (fun c9 => absurd (lcmp_self _) c9)
    refine W.widen (k := cells + 2) (n := slots + 125) (by omega) (by omega) ?_
    exact kk _ _ ⟨Ls, nc, nh, nl, nb, ns, al, be, ed, lw, ri, sd, ta, th, wa, f, ik, kc, kh, kl, kb, ks, kal, kbe, ked, klw, kri, ksd, kta, kth, kwa, fi, tx, r1, r2, r3, r4, r5, rst, g1, g2, g3, g4, g5, g6, g7, g8, ra, bo, m0, m1, m2, m3, m4, m5, m6, m7, m8, t1, t2, t3, t4, t5, t6, fb2, tr2, hP, hD, hS, hSS, hKP, hra, hTs⟩
  · subst ek
    have hcq : r.1 = 0 ∨ r.1 = 1 ∨ r.1 = 4 ∨ r.1 = 5 ∨ r.1 = 7 ∨ r.1 = 9 ∨ r.1 = 10 := hTs r hrm
    obtain ⟨z, ⟨q1, q2, q3, q4, q5, q6, q7, q8⟩, ⟨t1, t2, t3, t4, t5, t6, fb2, tr2⟩, h1, h2⟩ := p_same_s hSS hk hk8 hr hw y2 y3 y4 g1 g2 g3 g4 g5 g6 g7 g8 s1 s2 s3 s4 s5 s6 fb tr
    obtain ⟨S, T, eL⟩ := List.append_of_mem hrm
    subst eL
    have hP := wP_perm (LW_out G [o11 (ad 0) (ad 1) (ad 2) ik (ad 3) (ad 4) (ad 5), o6 (ad 1) (nI nc) (nI nh) (nI nl) (nI nb) (nI ns) (ad 6) (ad 7) (ad 8) (ad 9) (ad 10) (ad 11) (ad 12) (ad 13) (ad 14), o6 (ad 2) kc kh kl kb ks (ad 15) (ad 16) (ad 17) (ad 18) (ad 19) (ad 20) (ad 21) (ad 22) (ad 23), o3 (ad 3) tx (ad 24) r1 r2 r3 r4 r5, o2 (ad 4) g1 g2 g3 g4 g5 g6 g7 g8, o8 (ad 5) (ad 25) (nI ra), aI G (ad 6) 6 ed, aI G (ad 7) 6 be, aI G (ad 8) 6 ri, aI G (ad 9) 6 wa, aI G (ad 10) 36 th, aI G (ad 11) 36 al, aT G (ad 12) 8 lw, aI G (ad 13) 120 ta, aI G (ad 14) 16 sd, aI G (ad 15) 6 ked, aI G (ad 16) 6 kbe, aI G (ad 17) 6 kri, aI G (ad 18) 6 kwa, aI G (ad 19) 36 kth, aI G (ad 20) 36 kal, aT G (ad 21) 8 klw, aI G (ad 22) 120 kta, aI G (ad 23) 16 ksd, aI G (ad 24) 120 rst, aI G (ad 25) 20 bo, o12 (ad 26) m0 (ad 27) (ad 28) ik m1 m2 m3 m4 m5 (ad 29) (ad 30) s1 s2 s3 s4 s5 s6 (ad 31) (nI ra) m6 m7 m8, aI G (ad 27) 1394 f, aI G (ad 28) 1394 fi, aI G (ad 29) 5 fb, aZ G (ad 30) 64 tr, aI G (ad 31) 20 bo] S T r) hP
    have hD := wD_perm (LW_out G [o11 (ad 0) (ad 1) (ad 2) ik (ad 3) (ad 4) (ad 5), o6 (ad 1) (nI nc) (nI nh) (nI nl) (nI nb) (nI ns) (ad 6) (ad 7) (ad 8) (ad 9) (ad 10) (ad 11) (ad 12) (ad 13) (ad 14), o6 (ad 2) kc kh kl kb ks (ad 15) (ad 16) (ad 17) (ad 18) (ad 19) (ad 20) (ad 21) (ad 22) (ad 23), o3 (ad 3) tx (ad 24) r1 r2 r3 r4 r5, o2 (ad 4) g1 g2 g3 g4 g5 g6 g7 g8, o8 (ad 5) (ad 25) (nI ra), aI G (ad 6) 6 ed, aI G (ad 7) 6 be, aI G (ad 8) 6 ri, aI G (ad 9) 6 wa, aI G (ad 10) 36 th, aI G (ad 11) 36 al, aT G (ad 12) 8 lw, aI G (ad 13) 120 ta, aI G (ad 14) 16 sd, aI G (ad 15) 6 ked, aI G (ad 16) 6 kbe, aI G (ad 17) 6 kri, aI G (ad 18) 6 kwa, aI G (ad 19) 36 kth, aI G (ad 20) 36 kal, aT G (ad 21) 8 klw, aI G (ad 22) 120 kta, aI G (ad 23) 16 ksd, aI G (ad 24) 120 rst, aI G (ad 25) 20 bo, o12 (ad 26) m0 (ad 27) (ad 28) ik m1 m2 m3 m4 m5 (ad 29) (ad 30) s1 s2 s3 s4 s5 s6 (ad 31) (nI ra) m6 m7 m8, aI G (ad 27) 1394 f, aI G (ad 28) 1394 fi, aI G (ad 29) 5 fb, aZ G (ad 30) 64 tr, aI G (ad 31) 20 bo] S T r) hD
    have hP : va_P G.1 vwCl ([o11 (ad 0) (ad 1) (ad 2) ik (ad 3) (ad 4) (ad 5), o6 (ad 1) (nI nc) (nI nh) (nI nl) (nI nb) (nI ns) (ad 6) (ad 7) (ad 8) (ad 9) (ad 10) (ad 11) (ad 12) (ad 13) (ad 14), o6 (ad 2) kc kh kl kb ks (ad 15) (ad 16) (ad 17) (ad 18) (ad 19) (ad 20) (ad 21) (ad 22) (ad 23), o3 (ad 3) tx (ad 24) r1 r2 r3 r4 r5, o2 (ad 4) g1 g2 g3 g4 g5 g6 g7 g8, o8 (ad 5) (ad 25) (nI ra), aI G (ad 6) 6 ed, aI G (ad 7) 6 be, aI G (ad 8) 6 ri, aI G (ad 9) 6 wa, aI G (ad 10) 36 th, aI G (ad 11) 36 al, aT G (ad 12) 8 lw, aI G (ad 13) 120 ta, aI G (ad 14) 16 sd, aI G (ad 15) 6 ked, aI G (ad 16) 6 kbe, aI G (ad 17) 6 kri, aI G (ad 18) 6 kwa, aI G (ad 19) 36 kth, aI G (ad 20) 36 kal, aT G (ad 21) 8 klw, aI G (ad 22) 120 kta, aI G (ad 23) 16 ksd, aI G (ad 24) 120 rst, aI G (ad 25) 20 bo, o12 (ad 26) m0 (ad 27) (ad 28) ik m1 m2 m3 m4 m5 (ad 29) (ad 30) s1 s2 s3 s4 s5 s6 (ad 31) (nI ra) m6 m7 m8, aI G (ad 27) 1394 f, aI G (ad 28) 1394 fi, aI G (ad 29) 5 fb, aZ G (ad 30) 64 tr, aI G (ad 31) 20 bo, oT r.1 r.2.1 r.2.2.1 r.2.2.2.1 r.2.2.2.2.1 r.2.2.2.2.2.1 r.2.2.2.2.2.2.1, aI G r.2.2.2.2.2.2.1 r.2.2.2.2.2.2.2.1 r.2.2.2.2.2.2.2.2] ++ LW G (S ++ T)) H := hP
    have hD : va_D (fun q : Nat => s.heap.size ≤ q) ([o11 (ad 0) (ad 1) (ad 2) ik (ad 3) (ad 4) (ad 5), o6 (ad 1) (nI nc) (nI nh) (nI nl) (nI nb) (nI ns) (ad 6) (ad 7) (ad 8) (ad 9) (ad 10) (ad 11) (ad 12) (ad 13) (ad 14), o6 (ad 2) kc kh kl kb ks (ad 15) (ad 16) (ad 17) (ad 18) (ad 19) (ad 20) (ad 21) (ad 22) (ad 23), o3 (ad 3) tx (ad 24) r1 r2 r3 r4 r5, o2 (ad 4) g1 g2 g3 g4 g5 g6 g7 g8, o8 (ad 5) (ad 25) (nI ra), aI G (ad 6) 6 ed, aI G (ad 7) 6 be, aI G (ad 8) 6 ri, aI G (ad 9) 6 wa, aI G (ad 10) 36 th, aI G (ad 11) 36 al, aT G (ad 12) 8 lw, aI G (ad 13) 120 ta, aI G (ad 14) 16 sd, aI G (ad 15) 6 ked, aI G (ad 16) 6 kbe, aI G (ad 17) 6 kri, aI G (ad 18) 6 kwa, aI G (ad 19) 36 kth, aI G (ad 20) 36 kal, aT G (ad 21) 8 klw, aI G (ad 22) 120 kta, aI G (ad 23) 16 ksd, aI G (ad 24) 120 rst, aI G (ad 25) 20 bo, o12 (ad 26) m0 (ad 27) (ad 28) ik m1 m2 m3 m4 m5 (ad 29) (ad 30) s1 s2 s3 s4 s5 s6 (ad 31) (nI ra) m6 m7 m8, aI G (ad 27) 1394 f, aI G (ad 28) 1394 fi, aI G (ad 29) 5 fb, aZ G (ad 30) 64 tr, aI G (ad 31) 20 bo, oT r.1 r.2.1 r.2.2.1 r.2.2.2.1 r.2.2.2.2.1 r.2.2.2.2.2.1 r.2.2.2.2.2.2.1, aI G r.2.2.2.2.2.2.1 r.2.2.2.2.2.2.2.1 r.2.2.2.2.2.2.2.2] ++ LW G (S ++ T)) := hD
    refine lv_aload_n hx hb dL_law_563 rfl (lv_at hl 1 rfl) ?_
    refine lv_aload_n hx hb dL_law_564 rfl (lv_at hl 0 rfl) ?_
    refine lv_iload_n hx hb dL_law_565 rfl (lv_at hl 3 rfl) ?_
    refine lv_iconst (v := 1) hx hb dL_law_566 (by decide) ?_
    refine lv_iadd hx hb dL_law_567 ?_
    refine va_sld hx hb hX hbl hbA hS in1 dL_law_568 ?_
    refine lv_eqi e1 ?_
    refine lv_aload_n hx hb dL_law_569 rfl (lv_at hl 0 rfl) ?_
    refine lv_iload_n hx hb dL_law_570 rfl (lv_at hl 3 rfl) ?_
    refine lv_iconst (v := 2) hx hb dL_law_571 (by decide) ?_
    refine lv_iadd hx hb dL_law_572 ?_
    refine va_sld hx hb hX hbl hbA hS in2 dL_law_573 ?_
    refine lv_eqi e2 ?_
    refine lv_aload_n hx hb dL_law_574 rfl (lv_at hl 0 rfl) ?_
    refine lv_iload_n hx hb dL_law_575 rfl (lv_at hl 3 rfl) ?_
    refine lv_iconst (v := 3) hx hb dL_law_576 (by decide) ?_
    refine lv_iadd hx hb dL_law_577 ?_
    refine va_sld hx hb hX hbl hbA hS in3 dL_law_578 ?_
    refine lv_eqi e3 ?_
    refine lv_aload_n hx hb dL_law_579 rfl (lv_at hl 0 rfl) ?_
    refine lv_iload_n hx hb dL_law_580 rfl (lv_at hl 3 rfl) ?_
    refine lv_iconst (v := 4) hx hb dL_law_581 (by decide) ?_
    refine lv_iadd hx hb dL_law_582 ?_
    refine va_sld hx hb hX hbl hbA hS in4 dL_law_583 ?_
    refine lv_eqi e4 ?_
    have hPc := hP.sub (ws' := [oT r.1 r.2.1 r.2.2.1 r.2.2.2.1 r.2.2.2.2.1 r.2.2.2.2.2.1 r.2.2.2.2.2.2.1, o11 (ad 0) (ad 1) (ad 2) ik (ad 3) (ad 4) (ad 5), o2 (ad 4) g1 g2 g3 g4 g5 g6 g7 g8, o6 (ad 1) (nI nc) (nI nh) (nI nl) (nI nb) (nI ns) (ad 6) (ad 7) (ad 8) (ad 9) (ad 10) (ad 11) (ad 12) (ad 13) (ad 14), aI G r.2.2.2.2.2.2.1 r.2.2.2.2.2.2.2.1 r.2.2.2.2.2.2.2.2, aI G (ad 7) 6 be, aI G (ad 6) 6 ed, aT G (ad 12) 8 lw, aI G (ad 8) 6 ri, aI G (ad 9) 6 wa]) [32, 0, 4, 1, 33, 7, 6, 12, 8, 9] rfl
    have hDc := hD.sub (ws' := [oT r.1 r.2.1 r.2.2.1 r.2.2.2.1 r.2.2.2.2.1 r.2.2.2.2.2.1 r.2.2.2.2.2.2.1, o11 (ad 0) (ad 1) (ad 2) ik (ad 3) (ad 4) (ad 5), o2 (ad 4) g1 g2 g3 g4 g5 g6 g7 g8, o6 (ad 1) (nI nc) (nI nh) (nI nl) (nI nb) (nI ns) (ad 6) (ad 7) (ad 8) (ad 9) (ad 10) (ad 11) (ad 12) (ad 13) (ad 14), aI G r.2.2.2.2.2.2.1 r.2.2.2.2.2.2.2.1 r.2.2.2.2.2.2.2.2, aI G (ad 7) 6 be, aI G (ad 6) 6 ed, aT G (ad 12) 8 lw, aI G (ad 8) 6 ri, aI G (ad 9) 6 wa]) [32, 0, 4, 1, 33, 7, 6, 12, 8, 9] (by decide) rfl
    have hFc := va_free (wc := [oT r.1 r.2.1 r.2.2.1 r.2.2.2.1 r.2.2.2.2.1 r.2.2.2.2.2.1 r.2.2.2.2.2.2.1, o11 (ad 0) (ad 1) (ad 2) ik (ad 3) (ad 4) (ad 5), o2 (ad 4) g1 g2 g3 g4 g5 g6 g7 g8, o6 (ad 1) (nI nc) (nI nh) (nI nl) (nI nb) (nI ns) (ad 6) (ad 7) (ad 8) (ad 9) (ad 10) (ad 11) (ad 12) (ad 13) (ad 14), aI G r.2.2.2.2.2.2.1 r.2.2.2.2.2.2.2.1 r.2.2.2.2.2.2.2.2, aI G (ad 7) 6 be, aI G (ad 6) 6 ed, aT G (ad 12) 8 lw, aI G (ad 8) 6 ri, aI G (ad 9) 6 wa]) hD hS hA [32, 0, 4, 1, 33, 7, 6, 12, 8, 9] rfl
    have hM := c_X11_same_s l G r.1 hcq r.2.1 r.2.2.2.2.2.2.1 (ad 0) (ad 1) (ad 2) (ad 3) (ad 4) (ad 5) (ad 6) (ad 7) (ad 8) (ad 9) (ad 10) (ad 11) (ad 12) (ad 13) (ad 14) r.2.2.1 r.2.2.2.1 r.2.2.2.2.1 r.2.2.2.2.2.1 ik g1 g2 g3 g4 g5 g6 g7 g8 (nI nc) (nI nh) (nI nl) (nI nb) (nI ns) r.2.2.2.2.2.2.2.2 be ed lw ri wa r.2.2.2.2.2.2.2.1 (nI k) y2 y3 y4 z q1 q2 q3 q4 q5 q6 q7 q8 hlaw h1 H.size
    refine cl_l (w1 := [oT r.1 r.2.1 r.2.2.1 r.2.2.2.1 r.2.2.2.2.1 r.2.2.2.2.2.1 r.2.2.2.2.2.2.1, o11 (ad 0) (ad 1) (ad 2) ik (ad 3) (ad 4) (ad 5), o2 (ad 4) q1 q2 q3 q4 q5 q6 q7 q8, o6 (ad 1) (nI nc) (nI nh) (nI nl) (nI nb) (nI ns) (ad 6) (ad 7) (ad 8) (ad 9) (ad 10) (ad 11) (ad 12) (ad 13) (ad 14), aI G r.2.2.2.2.2.2.1 r.2.2.2.2.2.2.2.1 r.2.2.2.2.2.2.2.2, aI G (ad 7) 6 be, aI G (ad 6) 6 ed, aT G (ad 12) 8 lw, aI G (ad 8) 6 ri, aI G (ad 9) 6 wa]) (ws' := [o11 (ad 0) (ad 1) (ad 2) ik (ad 3) (ad 4) (ad 5), o6 (ad 1) (nI nc) (nI nh) (nI nl) (nI nb) (nI ns) (ad 6) (ad 7) (ad 8) (ad 9) (ad 10) (ad 11) (ad 12) (ad 13) (ad 14), o6 (ad 2) kc kh kl kb ks (ad 15) (ad 16) (ad 17) (ad 18) (ad 19) (ad 20) (ad 21) (ad 22) (ad 23), o3 (ad 3) tx (ad 24) r1 r2 r3 r4 r5, o2 (ad 4) q1 q2 q3 q4 q5 q6 q7 q8, o8 (ad 5) (ad 25) (nI ra), aI G (ad 6) 6 ed, aI G (ad 7) 6 be, aI G (ad 8) 6 ri, aI G (ad 9) 6 wa, aI G (ad 10) 36 th, aI G (ad 11) 36 al, aT G (ad 12) 8 lw, aI G (ad 13) 120 ta, aI G (ad 14) 16 sd, aI G (ad 15) 6 ked, aI G (ad 16) 6 kbe, aI G (ad 17) 6 kri, aI G (ad 18) 6 kwa, aI G (ad 19) 36 kth, aI G (ad 20) 36 kal, aT G (ad 21) 8 klw, aI G (ad 22) 120 kta, aI G (ad 23) 16 ksd, aI G (ad 24) 120 rst, aI G (ad 25) 20 bo, o12 (ad 26) m0 (ad 27) (ad 28) ik m1 m2 m3 m4 m5 (ad 29) (ad 30) s1 s2 s3 s4 s5 s6 (ad 31) (nI ra) m6 m7 m8, aI G (ad 27) 1394 f, aI G (ad 28) 1394 fi, aI G (ad 29) 5 fb, aZ G (ad 30) 64 tr, aI G (ad 31) 20 bo, oT r.1 r.2.1 r.2.2.1 r.2.2.2.1 r.2.2.2.2.1 r.2.2.2.2.2.1 r.2.2.2.2.2.2.1, aI G r.2.2.2.2.2.2.1 r.2.2.2.2.2.2.2.1 r.2.2.2.2.2.2.2.2] ++ LW G (S ++ T)) hP hD hS hFc [32, 0, 4, 1, 33, 7, 6, 12, 8, 9] rfl rfl rfl (va_runV (As := [.int (nI k), .int y2, .int y3, .int y4]) (rest := []) ⟨hx, hb, hml, hown, hts⟩ hM (cwV 4 hts gT_X11_same rfl rfl rfl (by decide +kernel) ⟨Nat.le_of_ble_eq_true rfl, Nat.le_of_ble_eq_true rfl⟩) (cp_V hK hE hS hPc hDc hFc (va_recv hK hP (ci := 11) (q0 := 0) rfl rfl)) rfl rfl hl.1 rfl (lv_room (Nat.le_of_ble_eq_true rfl)) dL_law_584 hf0) (fun H locs hP hD hS => ?_)
    refine lv_aload_n hx hb dL_law_587 rfl (lv_at hl 2 rfl) ?_
    refine lv_aload_n hx hb dL_law_588 rfl (lv_at hl 0 rfl) ?_
    refine lv_iload_n hx hb dL_law_589 rfl (lv_at hl 3 rfl) ?_
    refine lv_iconst (v := 1) hx hb dL_law_590 (by decide) ?_
    refine lv_iadd hx hb dL_law_591 ?_
    refine va_sld hx hb hX hbl hbA hS in1 dL_law_592 ?_
    refine lv_eqi e1 ?_
    refine lv_aload_n hx hb dL_law_593 rfl (lv_at hl 0 rfl) ?_
    refine lv_iload_n hx hb dL_law_594 rfl (lv_at hl 3 rfl) ?_
    refine lv_iconst (v := 2) hx hb dL_law_595 (by decide) ?_
    refine lv_iadd hx hb dL_law_596 ?_
    refine va_sld hx hb hX hbl hbA hS in2 dL_law_597 ?_
    refine lv_eqi e2 ?_
    refine lv_aload_n hx hb dL_law_598 rfl (lv_at hl 0 rfl) ?_
    refine lv_iload_n hx hb dL_law_599 rfl (lv_at hl 3 rfl) ?_
    refine lv_iconst (v := 3) hx hb dL_law_600 (by decide) ?_
    refine lv_iadd hx hb dL_law_601 ?_
    refine va_sld hx hb hX hbl hbA hS in3 dL_law_602 ?_
    refine lv_eqi e3 ?_
    refine lv_aload_n hx hb dL_law_603 rfl (lv_at hl 0 rfl) ?_
    refine lv_iload_n hx hb dL_law_604 rfl (lv_at hl 3 rfl) ?_
    refine lv_iconst (v := 4) hx hb dL_law_605 (by decide) ?_
    refine lv_iadd hx hb dL_law_606 ?_
    refine va_sld hx hb hX hbl hbA hS in4 dL_law_607 ?_
    refine lv_eqi e4 ?_
    have hPc := hP.sub (ws' := [o12 (ad 26) m0 (ad 27) (ad 28) ik m1 m2 m3 m4 m5 (ad 29) (ad 30) s1 s2 s3 s4 s5 s6 (ad 31) (nI ra) m6 m7 m8, aI G (ad 29) 5 fb, aI G (ad 27) 1394 f, aZ G (ad 30) 64 tr]) [26, 29, 27, 30] rfl
    have hDc := hD.sub (ws' := [o12 (ad 26) m0 (ad 27) (ad 28) ik m1 m2 m3 m4 m5 (ad 29) (ad 30) s1 s2 s3 s4 s5 s6 (ad 31) (nI ra) m6 m7 m8, aI G (ad 29) 5 fb, aI G (ad 27) 1394 f, aZ G (ad 30) 64 tr]) [26, 29, 27, 30] (by decide) rfl
    have hFc := va_free (wc := [o12 (ad 26) m0 (ad 27) (ad 28) ik m1 m2 m3 m4 m5 (ad 29) (ad 30) s1 s2 s3 s4 s5 s6 (ad 31) (nI ra) m6 m7 m8, aI G (ad 29) 5 fb, aI G (ad 27) 1394 f, aZ G (ad 30) 64 tr]) hD hS hA [26, 29, 27, 30] rfl
    have hM := c_X12_same l G (ad 26) (ad 27) (ad 28) (ad 29) (ad 30) (ad 31) m0 ik m1 m2 m3 m4 m5 s1 s2 s3 s4 s5 s6 (nI ra) m6 m7 m8 fb f tr (nI k) y2 y3 y4 z t1 t2 t3 t4 t5 t6 fb2 tr2 h2 H.size
    refine cl_l (w1 := [o12 (ad 26) m0 (ad 27) (ad 28) ik m1 m2 m3 m4 m5 (ad 29) (ad 30) t1 t2 t3 t4 t5 t6 (ad 31) (nI ra) m6 m7 m8, aI G (ad 29) 5 fb2, aI G (ad 27) 1394 f, aZ G (ad 30) 64 tr2]) (ws' := [o11 (ad 0) (ad 1) (ad 2) ik (ad 3) (ad 4) (ad 5), o6 (ad 1) (nI nc) (nI nh) (nI nl) (nI nb) (nI ns) (ad 6) (ad 7) (ad 8) (ad 9) (ad 10) (ad 11) (ad 12) (ad 13) (ad 14), o6 (ad 2) kc kh kl kb ks (ad 15) (ad 16) (ad 17) (ad 18) (ad 19) (ad 20) (ad 21) (ad 22) (ad 23), o3 (ad 3) tx (ad 24) r1 r2 r3 r4 r5, o2 (ad 4) q1 q2 q3 q4 q5 q6 q7 q8, o8 (ad 5) (ad 25) (nI ra), aI G (ad 6) 6 ed, aI G (ad 7) 6 be, aI G (ad 8) 6 ri, aI G (ad 9) 6 wa, aI G (ad 10) 36 th, aI G (ad 11) 36 al, aT G (ad 12) 8 lw, aI G (ad 13) 120 ta, aI G (ad 14) 16 sd, aI G (ad 15) 6 ked, aI G (ad 16) 6 kbe, aI G (ad 17) 6 kri, aI G (ad 18) 6 kwa, aI G (ad 19) 36 kth, aI G (ad 20) 36 kal, aT G (ad 21) 8 klw, aI G (ad 22) 120 kta, aI G (ad 23) 16 ksd, aI G (ad 24) 120 rst, aI G (ad 25) 20 bo, o12 (ad 26) m0 (ad 27) (ad 28) ik m1 m2 m3 m4 m5 (ad 29) (ad 30) t1 t2 t3 t4 t5 t6 (ad 31) (nI ra) m6 m7 m8, aI G (ad 27) 1394 f, aI G (ad 28) 1394 fi, aI G (ad 29) 5 fb2, aZ G (ad 30) 64 tr2, aI G (ad 31) 20 bo, oT r.1 r.2.1 r.2.2.1 r.2.2.2.1 r.2.2.2.2.1 r.2.2.2.2.2.1 r.2.2.2.2.2.2.1, aI G r.2.2.2.2.2.2.1 r.2.2.2.2.2.2.2.1 r.2.2.2.2.2.2.2.2] ++ LW G (S ++ T)) hP hD hS hFc [26, 29, 27, 30] rfl rfl rfl (va_runV (As := [.int (nI k), .int y2, .int y3, .int y4]) (rest := [.long z]) ⟨hx, hb, hml, hown, hts⟩ hM (cwV 4 hts gT_X12_same rfl rfl rfl (by decide +kernel) ⟨Nat.le_of_ble_eq_true rfl, Nat.le_of_ble_eq_true rfl⟩) (cp_V hK hE hS hPc hDc hFc (va_recv hK hP (ci := 12) (q0 := 26) rfl rfl)) rfl rfl hl.1 rfl (lv_room (Nat.le_of_ble_eq_true rfl)) dL_law_608 hf0) (fun H locs hP hD hS => ?_)
    refine W.lcmp hx hb dL_law_611 ?_
    refine lv_if_eq (tgt := 1190) hx hb dL_law_612 (by decide) (fun _ => ?_) (fun c9 => absurd (lcmp_self _) c9)
    have hP : va_P G.1 vwCl ([o11 (ad 0) (ad 1) (ad 2) ik (ad 3) (ad 4) (ad 5), o6 (ad 1) (nI nc) (nI nh) (nI nl) (nI nb) (nI ns) (ad 6) (ad 7) (ad 8) (ad 9) (ad 10) (ad 11) (ad 12) (ad 13) (ad 14), o6 (ad 2) kc kh kl kb ks (ad 15) (ad 16) (ad 17) (ad 18) (ad 19) (ad 20) (ad 21) (ad 22) (ad 23), o3 (ad 3) tx (ad 24) r1 r2 r3 r4 r5, o2 (ad 4) q1 q2 q3 q4 q5 q6 q7 q8, o8 (ad 5) (ad 25) (nI ra), aI G (ad 6) 6 ed, aI G (ad 7) 6 be, aI G (ad 8) 6 ri, aI G (ad 9) 6 wa, aI G (ad 10) 36 th, aI G (ad 11) 36 al, aT G (ad 12) 8 lw, aI G (ad 13) 120 ta, aI G (ad 14) 16 sd, aI G (ad 15) 6 ked, aI G (ad 16) 6 kbe, aI G (ad 17) 6 kri, aI G (ad 18) 6 kwa, aI G (ad 19) 36 kth, aI G (ad 20) 36 kal, aT G (ad 21) 8 klw, aI G (ad 22) 120 kta, aI G (ad 23) 16 ksd, aI G (ad 24) 120 rst, aI G (ad 25) 20 bo, o12 (ad 26) m0 (ad 27) (ad 28) ik m1 m2 m3 m4 m5 (ad 29) (ad 30) t1 t2 t3 t4 t5 t6 (ad 31) (nI ra) m6 m7 m8, aI G (ad 27) 1394 f, aI G (ad 28) 1394 fi, aI G (ad 29) 5 fb2, aZ G (ad 30) 64 tr2, aI G (ad 31) 20 bo] ++ (lawCells G r ++ LW G (S ++ T))) H := hP
    have hD : va_D (fun q : Nat => s.heap.size ≤ q) ([o11 (ad 0) (ad 1) (ad 2) ik (ad 3) (ad 4) (ad 5), o6 (ad 1) (nI nc) (nI nh) (nI nl) (nI nb) (nI ns) (ad 6) (ad 7) (ad 8) (ad 9) (ad 10) (ad 11) (ad 12) (ad 13) (ad 14), o6 (ad 2) kc kh kl kb ks (ad 15) (ad 16) (ad 17) (ad 18) (ad 19) (ad 20) (ad 21) (ad 22) (ad 23), o3 (ad 3) tx (ad 24) r1 r2 r3 r4 r5, o2 (ad 4) q1 q2 q3 q4 q5 q6 q7 q8, o8 (ad 5) (ad 25) (nI ra), aI G (ad 6) 6 ed, aI G (ad 7) 6 be, aI G (ad 8) 6 ri, aI G (ad 9) 6 wa, aI G (ad 10) 36 th, aI G (ad 11) 36 al, aT G (ad 12) 8 lw, aI G (ad 13) 120 ta, aI G (ad 14) 16 sd, aI G (ad 15) 6 ked, aI G (ad 16) 6 kbe, aI G (ad 17) 6 kri, aI G (ad 18) 6 kwa, aI G (ad 19) 36 kth, aI G (ad 20) 36 kal, aT G (ad 21) 8 klw, aI G (ad 22) 120 kta, aI G (ad 23) 16 ksd, aI G (ad 24) 120 rst, aI G (ad 25) 20 bo, o12 (ad 26) m0 (ad 27) (ad 28) ik m1 m2 m3 m4 m5 (ad 29) (ad 30) t1 t2 t3 t4 t5 t6 (ad 31) (nI ra) m6 m7 m8, aI G (ad 27) 1394 f, aI G (ad 28) 1394 fi, aI G (ad 29) 5 fb2, aZ G (ad 30) 64 tr2, aI G (ad 31) 20 bo] ++ (lawCells G r ++ LW G (S ++ T))) := hD
    have hP := wP_perm (LW_out G [o11 (ad 0) (ad 1) (ad 2) ik (ad 3) (ad 4) (ad 5), o6 (ad 1) (nI nc) (nI nh) (nI nl) (nI nb) (nI ns) (ad 6) (ad 7) (ad 8) (ad 9) (ad 10) (ad 11) (ad 12) (ad 13) (ad 14), o6 (ad 2) kc kh kl kb ks (ad 15) (ad 16) (ad 17) (ad 18) (ad 19) (ad 20) (ad 21) (ad 22) (ad 23), o3 (ad 3) tx (ad 24) r1 r2 r3 r4 r5, o2 (ad 4) q1 q2 q3 q4 q5 q6 q7 q8, o8 (ad 5) (ad 25) (nI ra), aI G (ad 6) 6 ed, aI G (ad 7) 6 be, aI G (ad 8) 6 ri, aI G (ad 9) 6 wa, aI G (ad 10) 36 th, aI G (ad 11) 36 al, aT G (ad 12) 8 lw, aI G (ad 13) 120 ta, aI G (ad 14) 16 sd, aI G (ad 15) 6 ked, aI G (ad 16) 6 kbe, aI G (ad 17) 6 kri, aI G (ad 18) 6 kwa, aI G (ad 19) 36 kth, aI G (ad 20) 36 kal, aT G (ad 21) 8 klw, aI G (ad 22) 120 kta, aI G (ad 23) 16 ksd, aI G (ad 24) 120 rst, aI G (ad 25) 20 bo, o12 (ad 26) m0 (ad 27) (ad 28) ik m1 m2 m3 m4 m5 (ad 29) (ad 30) t1 t2 t3 t4 t5 t6 (ad 31) (nI ra) m6 m7 m8, aI G (ad 27) 1394 f, aI G (ad 28) 1394 fi, aI G (ad 29) 5 fb2, aZ G (ad 30) 64 tr2, aI G (ad 31) 20 bo] S T r).symm hP
    have hD := wD_perm (LW_out G [o11 (ad 0) (ad 1) (ad 2) ik (ad 3) (ad 4) (ad 5), o6 (ad 1) (nI nc) (nI nh) (nI nl) (nI nb) (nI ns) (ad 6) (ad 7) (ad 8) (ad 9) (ad 10) (ad 11) (ad 12) (ad 13) (ad 14), o6 (ad 2) kc kh kl kb ks (ad 15) (ad 16) (ad 17) (ad 18) (ad 19) (ad 20) (ad 21) (ad 22) (ad 23), o3 (ad 3) tx (ad 24) r1 r2 r3 r4 r5, o2 (ad 4) q1 q2 q3 q4 q5 q6 q7 q8, o8 (ad 5) (ad 25) (nI ra), aI G (ad 6) 6 ed, aI G (ad 7) 6 be, aI G (ad 8) 6 ri, aI G (ad 9) 6 wa, aI G (ad 10) 36 th, aI G (ad 11) 36 al, aT G (ad 12) 8 lw, aI G (ad 13) 120 ta, aI G (ad 14) 16 sd, aI G (ad 15) 6 ked, aI G (ad 16) 6 kbe, aI G (ad 17) 6 kri, aI G (ad 18) 6 kwa, aI G (ad 19) 36 kth, aI G (ad 20) 36 kal, aT G (ad 21) 8 klw, aI G (ad 22) 120 kta, aI G (ad 23) 16 ksd, aI G (ad 24) 120 rst, aI G (ad 25) 20 bo, o12 (ad 26) m0 (ad 27) (ad 28) ik m1 m2 m3 m4 m5 (ad 29) (ad 30) t1 t2 t3 t4 t5 t6 (ad 31) (nI ra) m6 m7 m8, aI G (ad 27) 1394 f, aI G (ad 28) 1394 fi, aI G (ad 29) 5 fb2, aZ G (ad 30) 64 tr2, aI G (ad 31) 20 bo] S T r).symm hD
    refine W.widen (k := cells + 2) (n := slots + 125) (by omega) (by omega) ?_
    exact kk _ _ ⟨S ++ r :: T, nc, nh, nl, nb, ns, al, be, ed, lw, ri, sd, ta, th, wa, f, ik, kc, kh, kl, kb, ks, kal, kbe, ked, klw, kri, ksd, kta, kth, kwa, fi, tx, r1, r2, r3, r4, r5, rst, q1, q2, q3, q4, q5, q6, q7, q8, ra, bo, m0, m1, m2, m3, m4, m5, m6, m7, m8, t1, t2, t3, t4, t5, t6, fb2, tr2, hP, hD, hS, hSS, hKP, hra, hTs⟩
