/-! the law's loop -/
set_option maxHeartbeats 4000000 in
set_option maxRecDepth 100000 in
theorem law_loop {p : Program} {l : Launch} {e : Env} {s : State} {m : MethodId} {below : List Frame} {meth : Method} {c : Code} {G : GG} {b L : Nat} {xs : Nat → Int32} {ad : Nat → Nat} (hL : L ≤ 384) (C0 : lw_At p s m meth c b L xs) (hK : va_K G.1 vwCl (TY G) s) (hE : EV G (fun q : Nat => s.heap.size ≤ q) s s.heap) :
    ∀ (n k : Nat), n + k = 66 → ∀ (H : Heap) (locs : List Loc) (ls : Array Slot), lv_has ls 4 [(0, .ref b), (1, .ref (ad 0)), (2, .ref (ad 26)), (3, .int (nI (6 * k)))] → INVd G (fun q : Nat => s.heap.size ≤ q) s ad H locs → W p l e room_1 s m #[Value.ref b] below meth c H locs (60 + 2 * k) (6000 + 125 * k) (lw_Z below #[Value.ref b] s) (F0 m 18 ls []) := by
  obtain ⟨hx, hb, hr, hml, hown, hts, hX, hbl, hlocks, hgv⟩ := id C0
  have hb : c.code = cL_law := hb
  have hA : ∀ q : Nat, s.heap.size ≤ q → (fun q : Nat => s.heap.size ≤ q) q := fun _ h => h
  have hbA : ¬ (fun q : Nat => s.heap.size ≤ q) b := Nat.not_le.mpr hbl
  intro n
  induction n with
  | zero =>
    intro k hk H locs ls hl hI
    have hk66 : k = 66 := by omega
    obtain ⟨hS⟩ : Nonempty (va_S (fun q : Nat => s.heap.size ≤ q) s.heap H locs) := INV_S hI
    refine lv_iload_n hx hb dL_law_18 rfl (lv_at hl 3 rfl) ?_
    refine lv_aload_n hx hb dL_law_19 rfl (lv_at hl 0 rfl) ?_
    refine va_slen hx hb hX hbl hbA hS dL_law_20 ?_
    refine lv_bipush (v := 6) hx hb dL_law_21 (by decide) ?_
    refine lv_isub hx hb dL_law_23 ?_
    refine lv_icmp_gt (tgt := 1196) hx hb dL_law_24 (by decide) (fun c1 => ?_) (fun c1 => ?_)
    · refine lv_iconst (v := 1) hx hb dL_law_1196 (by decide) ?_
      refine va_forget (fun q hq => hS.2.2 q hq) ?_
      refine W.widen (k := 600000) (n := 7302250) (by omega) (by omega) ?_
      exact lw_ret hx hb hr hlocks dL_law_1197
    · exact absurd (idx_gt hL (by omega)) c1
  | succ n ih =>
    intro k hk H locs ls hl hI
    obtain ⟨hS⟩ : Nonempty (va_S (fun q : Nat => s.heap.size ≤ q) s.heap H locs) := INV_S hI
    refine lv_iload_n hx hb dL_law_18 rfl (lv_at hl 3 rfl) ?_
    refine lv_aload_n hx hb dL_law_19 rfl (lv_at hl 0 rfl) ?_
    refine va_slen hx hb hX hbl hbA hS dL_law_20 ?_
    refine lv_bipush (v := 6) hx hb dL_law_21 (by decide) ?_
    refine lv_isub hx hb dL_law_23 ?_
    refine lv_icmp_gt (tgt := 1196) hx hb dL_law_24 (by decide) (fun c1 => ?_) (fun c1 => ?_)
    · refine lv_iconst (v := 1) hx hb dL_law_1196 (by decide) ?_
      refine va_forget (fun q hq => hS.2.2 q hq) ?_
      refine W.widen (k := 600000) (n := 7302250) (by omega) (by omega) ?_
      exact lw_ret hx hb hr hlocks dL_law_1197
    · have h6 : 6 * k + 6 ≤ L := by
        rcases Nat.lt_or_ge L (6 * k + 6) with h | h
        · exact absurd (idx_gt hL h) c1
        · exact h
      have in0 : vp_in (nI (6 * k)) L := vp_in_nI (by omega) (by omega)
      have inj : ∀ j : Nat, j < 6 → vp_in (nI (6 * k) + nI j) L := fun j hj => by rw [nI_add]; exact vp_in_nI (by omega) (by omega)
      have next : ∀ (H : Heap) (locs : List Loc), INVd G (fun q : Nat => s.heap.size ≤ q) s ad H locs → W p l e room_1 s m #[Value.ref b] below meth c H locs (60 + 2 * k + 2) (6000 + 125 * k + 125) (lw_Z below #[Value.ref b] s) (F0 m 1190 ls []) := by
        intro H locs hI
        have e6 : nI (6 * k) + 6 = nI (6 * (k + 1)) := nI_add (6 * k) 6
        refine lv_iinc (v := nI (6 * (k + 1))) (lv' := [(3, .int (nI (6 * (k + 1)))), (0, .ref b), (1, .ref (ad 0)), (2, .ref (ad 26))]) hx hb dL_law_1190 hl (k := 3) rfl e6 (by decide) rfl (fun ls hl => ?_)
        refine lv_goto (tgt := 18) hx hb dL_law_1193 (by decide) ?_
        refine W.widen (k := 60 + 2 * (k + 1)) (n := 6000 + 125 * (k + 1)) (by omega) (by omega) ?_
        exact ih (k + 1) (by omega) H locs ls (lv_sub hl [1, 2, 3, 0] rfl) hI
      refine lv_aload_n hx hb dL_law_27 rfl (lv_at hl 0 rfl) ?_
      refine lv_iload_n hx hb dL_law_28 rfl (lv_at hl 3 rfl) ?_
      refine va_sld hx hb hX hbl hbA hS in0 dL_law_29 ?_
      refine lv_bipush (v := 31) hx hb dL_law_30 (by decide) ?_
      refine lv_iand hx hb dL_law_32 ?_
      obtain ⟨j, hj, ej⟩ := pk_andE (xs (nI (6 * k)).toNatClampNeg) (m := 31) 5 (by decide)
      refine lv_eqi ej ?_
      exact law_disp C0 hK hE (by omega) (by omega) hl inj hS hI next hj
