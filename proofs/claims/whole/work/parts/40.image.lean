/-! image, undo -/
section IM
variable {Ls : List LR} {nc nh nl nb ns : Nat} {al be ed : Nat → Int32} {lw : Nat → Option Nat} {ri sd ta th wa f : Nat → Int32}
theorem copy_eq {n : Nat} (hn : n < 2 ^ 31) (f g : Nat → Int32) : fX6_copy n n f g = some (va_cpy f g 0 0 n) := by
  unfold fX6_copy
  have e : Int32.ofNat n = nI n := rfl
  have e2 : (if nI n < nI n then nI n else nI n) = nI n := by split <;> rfl
  rw [e, e2, nI_clamp hn, if_neg]
  rintro (a | a | a)
  · exact nI_pos hn a
  · omega
  · omega
theorem becomes_L (x1 x2 x3 x4 x5 y1 y2 y3 y4 y5 : Int32) (a1 a2 a3 : Nat → Int32) (src : Nat → Option Nat) (a5 a6 a7 a8 a9 b1 b2 b3 b5 b6 b7 b8 b9 : Nat → Int32) :
    ∀ (m i u : Nat) (dst : Nat → Option Nat), i + m = 8 → m < u → ∃ lw' : Nat → Option Nat, fX6_becomes_L130 x1 x2 x3 x4 x5 y1 y2 y3 y4 y5 a1 a2 a3 src a5 a6 a7 a8 a9 b1 b2 b3 b5 b6 b7 b8 b9 u dst (nI i) = some (y1, y2, y3, y4, y5, b1, b2, b3, lw', b5, b6, b7, b8, b9) ∧ (∀ j, i ≤ j → j < 8 → lw' j = src j) ∧ (∀ j, j < i ∨ 8 ≤ j → lw' j = dst j)
  | m, i, 0, dst, _, h => absurd h (by omega)
  | 0, i, u + 1, dst, h, _ => ⟨dst, by rw [fX6_becomes_L130, if_pos (q_le (N := 8) (by omega) (by omega))], fun j h1 h2 => absurd h2 (by omega), fun _ _ => rfl⟩
  | m + 1, i, u + 1, dst, h, hu => by
    obtain ⟨lw', h1, h2, h3⟩ := becomes_L x1 x2 x3 x4 x5 y1 y2 y3 y4 y5 a1 a2 a3 src a5 a6 a7 a8 a9 b1 b2 b3 b5 b6 b7 b8 b9 m (i + 1) u (va_up dst i (src i)) (by omega) (by omega)
    refine ⟨lw', ?_, fun j j1 j2 => ?_, fun j hj => ?_⟩
    · rw [fX6_becomes_L130, if_neg (q_ge (N := 8) (by omega) (by omega)), if_neg (nI_in (c := i) (N := 8) (by omega) (by decide)), nI_clamp (by omega), nI_1, h1]
    · by_cases q : j = i
      · rw [h3 j (by omega), q, va_up_self]
      · exact h2 j (by omega) j2
    · rw [h3 j (by omega), va_up_ne _ _ (by omega)]
theorem becomes_eq (x1 x2 x3 x4 x5 y1 y2 y3 y4 y5 : Int32) (a1 a2 a3 : Nat → Int32) (src : Nat → Option Nat) (a5 a6 a7 a8 a9 b1 b2 b3 : Nat → Int32) (dst : Nat → Option Nat) (b5 b6 b7 b8 b9 : Nat → Int32) :
    ∃ lw' : Nat → Option Nat, fX6_becomes x1 x2 x3 x4 x5 y1 y2 y3 y4 y5 a1 a2 a3 src a5 a6 a7 a8 a9 b1 b2 b3 dst b5 b6 b7 b8 b9 = some (x1, x2, x3, x4, x5, va_cpy a1 b1 0 0 36, va_cpy a2 b2 0 0 6, va_cpy a3 b3 0 0 6, lw', va_cpy a5 b5 0 0 6, va_cpy a6 b6 0 0 16, va_cpy a7 b7 0 0 120, va_cpy a8 b8 0 0 36, va_cpy a9 b9 0 0 6) ∧ (∀ j, j < 8 → lw' j = src j) ∧ (∀ j, 8 ≤ j → lw' j = dst j) := by
  obtain ⟨lw', h1, h2, h3⟩ := becomes_L x1 x2 x3 x4 x5 x1 x2 x3 x4 x5 a1 a2 a3 src a5 a6 a7 a8 a9 (va_cpy a1 b1 0 0 36) (va_cpy a2 b2 0 0 6) (va_cpy a3 b3 0 0 6) (va_cpy a5 b5 0 0 6) (va_cpy a6 b6 0 0 16) (va_cpy a7 b7 0 0 120) (va_cpy a8 b8 0 0 36) (va_cpy a9 b9 0 0 6) 8 0 2000 dst (by omega) (by omega)
  refine ⟨lw', ?_, fun j hj => h2 j (by omega) hj, fun j hj => h3 j (Or.inr hj)⟩
  unfold fX6_becomes
  rw [copy_eq (by decide), ob, copy_eq (by decide), ob, copy_eq (by decide), ob, copy_eq (by decide), ob, copy_eq (by decide), ob, copy_eq (by decide), ob, copy_eq (by decide), ob, copy_eq (by decide), ob]
  exact h1
theorem cpy_in {a b : Nat → Int32} {n j : Nat} (hj : j < n) : va_cpy a b 0 0 n j = a j := by
  rw [pk_cpy_in (by omega) (by omega), show 0 + (j - 0) = j from by omega]
theorem SS_move (h : SS Ls nc nh nl nb ns al be ed lw ri sd ta th wa f) (b1 b2 b3 b5 b6 b7 b8 b9 : Nat → Int32) {lw' : Nat → Option Nat} {f' : Nat → Int32} (hf : ∀ j, j < 1394 → f' j = f j) (h1 : ∀ j, j < 8 → lw' j = lw j) (h2 : ∀ j q, lw' j = some q → ∃ r ∈ Ls, r.2.1 = q) :
    SS Ls nc nh nl nb ns (va_cpy al b1 0 0 36) (va_cpy be b2 0 0 6) (va_cpy ed b3 0 0 6) lw' (va_cpy ri b5 0 0 6) (va_cpy sd b6 0 0 16) (va_cpy ta b7 0 0 120) (va_cpy th b8 0 0 36) (va_cpy wa b9 0 0 6) f' := by
  obtain ⟨⟨hc, hh, hl, hb, hs, e0, e1, e2, e4, e3⟩, ⟨g1, g2, g3, g4, g5, g6, g7, g8⟩, ⟨v1, v2, v3, v4, v5, v6, v7⟩, hL⟩ := h
  refine ⟨⟨hc, hh, hl, hb, hs, ?_, ?_, ?_, ?_, ?_⟩, ⟨?_, ?_, ?_, ?_, ?_, ?_, ?_, ?_⟩, ⟨?_, ?_, ?_, ?_, ?_, ?_, ?_⟩, ?_, h2⟩
  · rw [hf 0 (by decide)]; exact e0
  · rw [hf 1 (by decide)]; exact e1
  · rw [hf 2 (by decide)]; exact e2
  · rw [hf 4 (by decide)]; exact e4
  · rw [hf 3 (by decide)]; exact e3
  · intro j hj; rw [cpy_in hj, hf _ (by omega)]; exact g1 j hj
  · intro j hj; rw [cpy_in hj, hf _ (by omega)]; exact g2 j hj
  · intro j hj; rw [cpy_in hj, hf _ (by omega)]; exact g3 j hj
  · intro j hj; rw [cpy_in hj, hf _ (by omega)]; exact g4 j hj
  · intro j hj; rw [cpy_in hj, hf _ (by omega)]; exact g5 j hj
  · intro j hj; rw [cpy_in hj, hf _ (by omega)]; exact g6 j hj
  · intro j hj; rw [cpy_in hj, hf _ (by omega)]; exact g7 j hj
  · intro j hj; rw [cpy_in hj, hf _ (by omega)]; exact g8 j hj
  · intro j hj; rw [cpy_in hj]; exact v1 j hj
  · intro j hj; rw [cpy_in hj]; exact v2 j hj
  · intro j hj; rw [cpy_in hj]; exact v3 j hj
  · intro j hj; rw [cpy_in hj]; exact v4 j hj
  · intro j hj; rw [cpy_in hj]; exact v5 j hj
  · intro j hj; rw [cpy_in hj, cpy_in hj]; exact v6 j hj
  · intro x c hx hc' hn
    rw [cpy_in (by omega), cpy_in (by omega)]
    exact v7 x c hx hc' hn
  · intro k hk
    obtain ⟨r, r1, r2, r3⟩ := hL.1 k hk
    exact ⟨r, r1, by rw [h1 k (by omega)]; exact r2, lawR_congr (fun j hj => hf j (by omega)) r3⟩
theorem image_L (k : (Nat → Int32) → Option (Int32 × Int32 × (Nat → Int32))) (hi : Int32) (f : Nat → Int32) : ∀ (m i u : Nat) (g : Nat → Int32), i + m = 1394 → m < u → ∃ g' : Nat → Int32, fX12_image_L2 k hi f u g (nI i) = k g' ∧ (∀ j, i ≤ j → j < 1394 → g' j = f j) ∧ (∀ j, j < i → g' j = g j)
  | m, i, 0, g, _, h => absurd h (by omega)
  | 0, i, u + 1, g, h, _ => ⟨g, by rw [fX12_image_L2, if_pos (q_le (N := 1394) (by omega) (by omega))], fun j h1 h2 => absurd h2 (by omega), fun _ _ => rfl⟩
  | m + 1, i, u + 1, g, h, hu => by
    obtain ⟨g', h1, h2, h3⟩ := image_L k hi f m (i + 1) u (upd g i (f i)) (by omega) (by omega)
    refine ⟨g', ?_, fun j j1 j2 => ?_, fun j hj => ?_⟩
    · rw [fX12_image_L2, if_neg (q_ge (N := 1394) (by omega) (by omega)), if_neg (nI_in (c := i) (N := 1394) (by omega) (by decide)), nI_clamp (by omega), nI_1, h1]
    · by_cases q : j = i
      · rw [h3 j (by omega), q, pk_us]
      · exact h2 j (by omega) j2
    · rw [h3 j (by omega), pk_un (by omega)]
theorem undo_L (hi : Int32) (g : Nat → Int32) : ∀ (m i u : Nat) (f : Nat → Int32), i + m = 1394 → m < u → ∃ f' : Nat → Int32, fX12_undo_L12 hi g u f (nI i) = some (f' 1, f') ∧ (∀ j, i ≤ j → j < 1394 → f' j = g j) ∧ (∀ j, j < i → f' j = f j)
  | m, i, 0, f, _, h => absurd h (by omega)
  | 0, i, u + 1, f, h, _ => ⟨f, by rw [fX12_undo_L12, if_pos (q_le (N := 1394) (by omega) (by omega))], fun j h1 h2 => absurd h2 (by omega), fun _ _ => rfl⟩
  | m + 1, i, u + 1, f, h, hu => by
    obtain ⟨f', h1, h2, h3⟩ := undo_L hi g m (i + 1) u (upd f i (g i)) (by omega) (by omega)
    refine ⟨f', ?_, fun j j1 j2 => ?_, fun j hj => ?_⟩
    · rw [fX12_undo_L12, if_neg (q_ge (N := 1394) (by omega) (by omega)), if_neg (nI_in (c := i) (N := 1394) (by omega) (by decide)), nI_clamp (by omega), nI_1, h1]
    · by_cases q : j = i
      · rw [h3 j (by omega), q, pk_us]
      · exact h2 j (by omega) j2
    · rw [h3 j (by omega), pk_un (by omega)]
theorem p_image (h : SS Ls nc nh nl nb ns al be ed lw ri sd ta th wa f) (ik y1 y2 y3 y4 y5 : Int32) (b1 b2 b3 : Nat → Int32) (lk : Nat → Option Nat) (b5 b6 b7 b8 b9 : Nat → Int32) (hi : Int32) (fi : Nat → Int32) (hk : ∀ j q, lk j = some q → ∃ r ∈ Ls, r.2.1 = q) :
    ∃ (al' be' ed' : Nat → Int32) (lw' : Nat → Option Nat) (ri' sd' ta' th' wa' fi' : Nat → Int32), fX11_image ik y1 y2 y3 y4 y5 (nI nc) (nI nh) (nI nl) (nI nb) (nI ns) b1 b2 b3 lk b5 b6 b7 b8 b9 al be ed lw ri sd ta th wa = some (nI nh, 1, nI nc, nI nh, nI nl, nI nb, nI ns, al', be', ed', lw', ri', sd', ta', th', wa') ∧ fX12_image hi fi f = some (nI nh, 1, fi') ∧ SS Ls nc nh nl nb ns al' be' ed' lw' ri' sd' ta' th' wa' fi' := by
  obtain ⟨lw', h1, h2, h3⟩ := becomes_eq (nI nc) (nI nh) (nI nl) (nI nb) (nI ns) y1 y2 y3 y4 y5 al be ed lw ri sd ta th wa b1 b2 b3 lk b5 b6 b7 b8 b9
  obtain ⟨fi', j1, j2, -⟩ := image_L (fun f_image_3 => some ((f 1), 1, f_image_3)) hi f 1394 0 2000 fi (by omega) (by omega)
  refine ⟨_, _, _, lw', _, _, _, _, _, fi', ?_, ?_, SS_move h b1 b2 b3 b5 b6 b7 b8 b9 (fun j hj => j2 j (by omega) hj) h2 (fun j q hq => ?_)⟩
  · unfold fX11_image
    rw [h1, ob]
  · unfold fX12_image
    refine j1.trans ?_
    show some (f 1, 1, fi') = _
    rw [h.1.2.2.2.2.2.2.1]
  · by_cases q8 : j < 8
    · rw [h2 j q8] at hq
      exact h.2.2.2.2 j q hq
    · rw [h3 j (by omega)] at hq
      exact hk j q hq
theorem p_undo_n (ik : Int32) (e : ik = 0) (y1 y2 y3 y4 y5 : Int32) (b1 b2 b3 : Nat → Int32) (lk : Nat → Option Nat) (b5 b6 b7 b8 b9 fi : Nat → Int32) : fX11_undo ik y1 y2 y3 y4 y5 (nI nc) (nI nh) (nI nl) (nI nb) (nI ns) b1 b2 b3 lk b5 b6 b7 b8 b9 al be ed lw ri sd ta th wa = some (-3, nI nc, nI nh, nI nl, nI nb, nI ns, al, be, ed, lw, ri, sd, ta, th, wa) ∧ fX12_undo ik fi f = some (-3, f) := by
  unfold fX11_undo fX12_undo
  rw [if_pos e, if_pos e]
  exact ⟨rfl, rfl⟩
theorem p_undo_y {ik : Int32} (e : ¬ ik = 0) {mc mh ml mb ms : Nat} {b1 b2 b3 : Nat → Int32} {lk : Nat → Option Nat} {b5 b6 b7 b8 b9 fi : Nat → Int32} (h : SS Ls mc mh ml mb ms b1 b2 b3 lk b5 b6 b7 b8 b9 fi) (y1 y2 y3 y4 y5 : Int32) (hk : ∀ j q, lw j = some q → ∃ r ∈ Ls, r.2.1 = q) :
    ∃ (al' be' ed' : Nat → Int32) (lw' : Nat → Option Nat) (ri' sd' ta' th' wa' f' : Nat → Int32), fX11_undo ik (nI mc) (nI mh) (nI ml) (nI mb) (nI ms) y1 y2 y3 y4 y5 b1 b2 b3 lk b5 b6 b7 b8 b9 al be ed lw ri sd ta th wa = some (nI mh, nI mc, nI mh, nI ml, nI mb, nI ms, al', be', ed', lw', ri', sd', ta', th', wa') ∧ fX12_undo ik fi f = some (nI mh, f') ∧ SS Ls mc mh ml mb ms al' be' ed' lw' ri' sd' ta' th' wa' f' := by
  obtain ⟨lw', h1, h2, h3⟩ := becomes_eq (nI mc) (nI mh) (nI ml) (nI mb) (nI ms) y1 y2 y3 y4 y5 b1 b2 b3 lk b5 b6 b7 b8 b9 al be ed lw ri sd ta th wa
  obtain ⟨f', j1, j2, -⟩ := undo_L ik fi 1394 0 2000 f (by omega) (by omega)
  refine ⟨_, _, _, lw', _, _, _, _, _, f', ?_, ?_, SS_move h al be ed ri sd ta th wa (fun j hj => j2 j (by omega) hj) h2 (fun j q hq => ?_)⟩
  · unfold fX11_undo
    rw [if_neg e, h1, ob]
  · unfold fX12_undo
    rw [if_neg e]
    refine j1.trans ?_
    rw [j2 1 (by omega) (by omega), h.1.2.2.2.2.2.2.1]
  · by_cases q8 : j < 8
    · rw [h2 j q8] at hq
      exact h.2.2.2.2 j q hq
    · rw [h3 j (by omega)] at hq
      exact hk j q hq
end IM
