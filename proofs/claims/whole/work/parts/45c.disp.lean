/-! the law's switch -/
def INVd (G : GG) (A : Nat → Prop) (s : State) (ad : Nat → Nat) (H : Heap) (locs : List Loc) : Prop := INV G A s ad H locs
set_option maxHeartbeats 40000000 in
set_option maxRecDepth 100000 in
theorem law_disp {p : Program} {l : Launch} {e : Env} {s : State} {m : MethodId} {below : List Frame} {meth : Method} {c : Code} {G : GG} {b L : Nat} {xs : Nat → Int32} {ad : Nat → Nat} {Q : State → Prop} {cells slots : Nat} {H : Heap} {locs : List Loc} {ls : Array Slot} {i : Int32} (C0 : lw_At p s m meth c b L xs) (hK : va_K G.1 vwCl (TY G) s) (hE : EV G (fun q : Nat => s.heap.size ≤ q) s s.heap) (hce : cells + 2 ≤ 600000) (hsl : slots + 125 ≤ 7302250) (hl : lv_has ls 4 [(0, .ref b), (1, .ref (ad 0)), (2, .ref (ad 26)), (3, .int i)]) (inj : ∀ j : Nat, j < 6 → vp_in (i + nI j) L) (hS : va_S (fun q : Nat => s.heap.size ≤ q) s.heap H locs) (hI : INVd G (fun q : Nat => s.heap.size ≤ q) s ad H locs) (next : ∀ (H : Heap) (locs : List Loc), INVd G (fun q : Nat => s.heap.size ≤ q) s ad H locs → W p l e room_1 s m #[Value.ref b] below meth c H locs (cells + 2) (slots + 125) Q (F0 m 1190 ls [])) {j : Nat} (hj : j < 32) : W p l e room_1 s m #[Value.ref b] below meth c H locs cells slots Q (F0 m 33 ls [.int (nI j)]) := by
  obtain ⟨hx, hb, -⟩ := id C0
  have hb : c.code = cL_law := hb
  have hc : j = 0 ∨ j = 1 ∨ j = 2 ∨ j = 3 ∨ j = 4 ∨ j = 5 ∨ j = 6 ∨ j = 7 ∨ j = 8 ∨ j = 9 ∨ j = 10 ∨ j = 11 ∨ j = 12 ∨ j = 13 ∨ j = 14 ∨ j = 15 ∨ j = 16 ∨ j = 17 ∨ j = 18 ∨ j = 19 ∨ j = 20 ∨ j = 21 ∨ j = 22 ∨ j = 23 ∨ j = 24 ∨ j = 25 ∨ j = 26 ∨ j = 27 ∨ j = 28 ∨ j = 29 ∨ j = 30 ∨ j = 31 := by omega
  rcases hc with rfl | rfl | rfl | rfl | rfl | rfl | rfl | rfl | rfl | rfl | rfl | rfl | rfl | rfl | rfl | rfl | rfl | rfl | rfl | rfl | rfl | rfl | rfl | rfl | rfl | rfl | rfl | rfl | rfl | rfl | rfl | rfl
  · refine lv_tableIn (tgt := 156) (off := 123) hx hb dL_law_33 (by decide) (by decide) (by decide) (by decide) ?_
    exact q_coin C0 hK hE hce hsl hl inj hS hI next
  · refine lv_tableIn (tgt := 189) (off := 156) hx hb dL_law_33 (by decide) (by decide) (by decide) (by decide) ?_
    exact q_hand C0 hK hE hce hsl hl inj hS hI next
  · refine lv_tableIn (tgt := 222) (off := 189) hx hb dL_law_33 (by decide) (by decide) (by decide) (by decide) ?_
    exact q_of C0 hK hE hce hsl hl inj hS hI next
  · refine lv_tableIn (tgt := 255) (off := 222) hx hb dL_law_33 (by decide) (by decide) (by decide) (by decide) ?_
    exact q_counts C0 hK hE hce hsl hl inj hS hI next
  · refine lv_tableIn (tgt := 308) (off := 275) hx hb dL_law_33 (by decide) (by decide) (by decide) (by decide) ?_
    exact q_feed C0 hK hE hce hsl hl inj hS hI next
  · refine lv_tableIn (tgt := 371) (off := 338) hx hb dL_law_33 (by decide) (by decide) (by decide) (by decide) ?_
    exact q_law C0 hK hE hce hsl hl inj hS hI next
  · refine lv_tableIn (tgt := 404) (off := 371) hx hb dL_law_33 (by decide) (by decide) (by decide) (by decide) ?_
    exact q_told C0 hK hE hce hsl hl inj hS hI next
  · refine lv_tableIn (tgt := 437) (off := 404) hx hb dL_law_33 (by decide) (by decide) (by decide) (by decide) ?_
    exact q_toss C0 hK hE hce hsl hl inj hS hI next
  · refine lv_tableIn (tgt := 500) (off := 467) hx hb dL_law_33 (by decide) (by decide) (by decide) (by decide) ?_
    exact q_up C0 hK hE hce hsl hl inj hS hI next
  · refine lv_tableIn (tgt := 563) (off := 530) hx hb dL_law_33 (by decide) (by decide) (by decide) (by decide) ?_
    exact q_same C0 hK hE hce hsl hl inj hS hI next
  · refine lv_tableIn (tgt := 617) (off := 584) hx hb dL_law_33 (by decide) (by decide) (by decide) (by decide) ?_
    exact q_heads C0 hK hE hce hsl hl inj hS hI next
  · refine lv_tableIn (tgt := 681) (off := 648) hx hb dL_law_33 (by decide) (by decide) (by decide) (by decide) ?_
    exact q_steady C0 hK hE hce hsl hl inj hS hI next
  · refine lv_tableIn (tgt := 734) (off := 701) hx hb dL_law_33 (by decide) (by decide) (by decide) (by decide) ?_
    exact q_differ C0 hK hE hce hsl hl inj hS hI next
  · refine lv_tableIn (tgt := 747) (off := 714) hx hb dL_law_33 (by decide) (by decide) (by decide) (by decide) ?_
    exact q_far C0 hK hE hce hsl hl inj hS hI next
  · refine lv_tableIn (tgt := 791) (off := 758) hx hb dL_law_33 (by decide) (by decide) (by decide) (by decide) ?_
    exact q_need C0 hK hE hce hsl hl inj hS hI next
  · refine lv_tableIn (tgt := 834) (off := 801) hx hb dL_law_33 (by decide) (by decide) (by decide) (by decide) ?_
    exact q_row C0 hK hE hce hsl hl inj hS hI next
  · refine lv_tableIn (tgt := 857) (off := 824) hx hb dL_law_33 (by decide) (by decide) (by decide) (by decide) ?_
    exact q_runs C0 hK hE hce hsl hl inj hS hI next
  · refine lv_tableIn (tgt := 880) (off := 847) hx hb dL_law_33 (by decide) (by decide) (by decide) (by decide) ?_
    exact q_made C0 hK hE hce hsl hl inj hS hI next
  · refine lv_tableIn (tgt := 903) (off := 870) hx hb dL_law_33 (by decide) (by decide) (by decide) (by decide) ?_
    exact q_worth C0 hK hE hce hsl hl inj hS hI next
  · refine lv_tableIn (tgt := 956) (off := 923) hx hb dL_law_33 (by decide) (by decide) (by decide) (by decide) ?_
    exact q_fair C0 hK hE hce hsl hl inj hS hI next
  · refine lv_tableIn (tgt := 989) (off := 956) hx hb dL_law_33 (by decide) (by decide) (by decide) (by decide) ?_
    exact q_learns C0 hK hE hce hsl hl inj hS hI next
  · refine lv_tableIn (tgt := 1042) (off := 1009) hx hb dL_law_33 (by decide) (by decide) (by decide) (by decide) ?_
    exact q_act C0 hK hE hce hsl hl inj hS hI next
  · refine lv_tableIn (tgt := 1085) (off := 1052) hx hb dL_law_33 (by decide) (by decide) (by decide) (by decide) ?_
    exact q_trace C0 hK hE hce hsl hl inj hS hI next
  · refine lv_tableIn (tgt := 1108) (off := 1075) hx hb dL_law_33 (by decide) (by decide) (by decide) (by decide) ?_
    exact q_as C0 hK hE hce hsl hl inj hS hI next
  · refine lv_tableIn (tgt := 1141) (off := 1108) hx hb dL_law_33 (by decide) (by decide) (by decide) (by decide) ?_
    exact q_image C0 hK hE hce hsl hl inj hS hI next
  · refine lv_tableIn (tgt := 1154) (off := 1121) hx hb dL_law_33 (by decide) (by decide) (by decide) (by decide) ?_
    exact q_undo C0 hK hE hce hsl hl inj hS hI next
  · refine lv_tableIn (tgt := 1167) (off := 1134) hx hb dL_law_33 (by decide) (by decide) (by decide) (by decide) ?_
    exact q_count C0 hK hE hce hsl hl inj hS hI next
  · refine lv_tableOut (tgt := 1190) hx hb dL_law_33 (by decide) (by decide) ?_
    refine W.widen (k := cells + 2) (n := slots + 125) (by omega) (by omega) ?_
    exact next _ _ hI
  · refine lv_tableOut (tgt := 1190) hx hb dL_law_33 (by decide) (by decide) ?_
    refine W.widen (k := cells + 2) (n := slots + 125) (by omega) (by omega) ?_
    exact next _ _ hI
  · refine lv_tableOut (tgt := 1190) hx hb dL_law_33 (by decide) (by decide) ?_
    refine W.widen (k := cells + 2) (n := slots + 125) (by omega) (by omega) ?_
    exact next _ _ hI
  · refine lv_tableOut (tgt := 1190) hx hb dL_law_33 (by decide) (by decide) ?_
    refine W.widen (k := cells + 2) (n := slots + 125) (by omega) (by omega) ?_
    exact next _ _ hI
  · refine lv_tableOut (tgt := 1190) hx hb dL_law_33 (by decide) (by decide) ?_
    refine W.widen (k := cells + 2) (n := slots + 125) (by omega) (by omega) ?_
    exact next _ _ hI
