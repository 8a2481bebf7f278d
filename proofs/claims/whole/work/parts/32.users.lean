/-! the laws' users: told, toss, up, same, heads, steady, worth, as, act -/
section US
variable {Ls : List LR} {nc nh nl nb ns : Nat} {al be ed : Nat → Int32} {lw : Nat → Option Nat} {ri sd ta th wa f : Nat → Int32}
abbrev FL : Type := Int32 × Int32 × Int32 × Int32 × Int32 × Int32 × Int32 × Int32
abbrev SR : Type := Int32 × Int32 × Int32 × Int32 × Int32 × Int32 × (Nat → Int32) × (Nat → Int32)
theorem p_lawOf (h : SS Ls nc nh nl nb ns al be ed lw ri sd ta th wa f) (l1 : Int32) : (wI l1 0 (nI nl - 1) = 0 ∧ fX11_lawOf (nI nl) lw l1 = some none) ∨ (¬ wI l1 0 (nI nl - 1) = 0 ∧ ∃ (k : Nat) (r : LR), k < nl ∧ k < 8 ∧ l1 = nI k ∧ r ∈ Ls ∧ lawR r f k ∧ fX11_lawOf (nI nl) lw l1 = some (some r.2.1)) := by
  obtain ⟨⟨hc, hh, hl, hb, hs, e0, e1, e2, e4, e3⟩, -, -, hL⟩ := h
  by_cases h1 : wI l1 0 (nI nl - 1) = 0
  · exact Or.inl ⟨h1, by simp only [fX11_lawOf, wI_is, ob, h1, if_true]⟩
  · refine Or.inr ⟨h1, ?_⟩
    have h1' := h1
    obtain ⟨k, hk, rfl⟩ := wI_lt (by omega) h1
    obtain ⟨r, hr, h2, h3⟩ := hL.1 k hk
    refine ⟨k, r, hk, by omega, rfl, hr, h3, ?_⟩
    have i8 := nI_in (c := k) (N := 8) (by omega) (by decide)
    unfold fX11_lawOf
    rw [wI_is, ob, if_neg h1', if_neg i8, nI_clamp (by omega), h2]
theorem m_there (h : SS Ls nc nh nl nb ns al be ed lw ri sd ta th wa f) (l1 l2 l3 : Int32) : fX12_areThere f l1 l2 l3 = some (if wI l1 0 (nI nl - 1) = 0 then 0 else if wI l2 0 (nI nh - 1) = 0 then 0 else if wI l3 0 (nI nc - 1) = 0 then 0 else 1) := by
  obtain ⟨⟨hc, hh, hl, hb, hs, e0, e1, e2, e4, e3⟩, -⟩ := h
  unfold fX12_areThere
  rw [i12_law, ob, i12_hand, ob, i12_coin, ob, e0, e1, e2]
  by_cases q1 : wI l1 0 (nI nl - 1) = 0
  · simp only [q1, if_true]
  · by_cases q2 : wI l2 0 (nI nh - 1) = 0
    · simp only [q1, q2, if_true, if_false]
    · by_cases q3 : wI l3 0 (nI nc - 1) = 0
      · simp only [q1, q2, q3, if_true, if_false]
      · simp only [q1, q2, q3, if_false]
theorem go_m {k c : Nat} (hk : k < 8) (hc : c < 6) (s1 s2 s3 s4 s5 s6 : Int32) (fb tr : Nat → Int32) (xh xr y l6 : Int32) : fX12_goes s1 s2 s3 s4 s5 s6 fb f tr (nI k) xh (nI c) xr y l6 = fX12_goes_L93 (xr + f (242 + k)) f (nI k) (nI c) y (if l6 = 0 then xr + f (242 + k) else l6) 2000 s1 s2 s3 0 0 (upd (upd (upd (upd fb 0 xr) 1 (f (130 + c))) 2 (f (136 + c))) 3 xh) tr 1 := by
  unfold fX12_goes
  rw [if_neg (ix_ (K := 242) (n := k) (N := 1394) (by omega) (by decide)), cl_ (K := 242) (n := k) (by omega), if_neg (ix_ (K := 130) (n := c) (N := 1394) (by omega) (by decide)), cl_ (K := 130) (n := c) (by omega), if_neg (ix_ (K := 136) (n := c) (N := 1394) (by omega) (by decide)), cl_ (K := 136) (n := c) (by omega)]
  unfold fX12_goes_b88
  by_cases q : l6 = 0
  · rw [if_pos q, if_pos q]
  · rw [if_neg q, if_neg q]
/-- a THROW to its end -/
theorem comes_eq (h : SS Ls nc nh nl nb ns al be ed lw ri sd ta th wa f) {r : LR} {k c ρ y : Nat} (hk : k < 8) (hr : lawR r f k) (hc : c < 6) (hρ : 1 ≤ ρ) (hρ2 : ρ ≤ 100) (hy : y < 2) (p1 p2 p3 p4 p5 p6 p7 p8 : Int32) (s1 s2 s3 s4 s5 s6 : Int32) (fb tr : Nat → Int32) (xh : Int32) :
    ∃ (z : Nat) (fl : FL) (a1 a2 a4 a5 a6 : Int32) (a7 a8 : Nat → Int32), z < 2 ∧ fX11_comes r.2.2.2.2.2.2.2.1 r.1 r.2.2.2.2.1 r.2.2.2.2.2.1 p1 p2 p3 p4 p5 p6 p7 p8 r.2.2.2.2.2.2.2.2 be ed xh (nI c) (nI ρ) (nI y) = some (nI z, fl) ∧ fX12_goes s1 s2 s3 s4 s5 s6 fb f tr (nI k) xh (nI c) (nI ρ) (nI y) 0 = some (a1, a2, nI z, a4, a5, a6, a7, a8) := by
  obtain ⟨-, ⟨g1, g2, g3, g4, g5, g6, g7, g8⟩, ⟨v1, v2, -⟩, -⟩ := h
  obtain ⟨b, hb, eb⟩ := v1 c hc
  obtain ⟨κ, vv, cc, hκ, hvv, hcc, e226, e234, e242, er1, er2, er3, er4, er5⟩ := hr.1
  have e130 : f (130 + c) = ed c := (g3 c hc).symm
  have e136 : f (136 + c) = nI b := (g2 c hc).symm.trans eb
  have hlast : nI ρ + nI cc = nI (ρ + cc) := nI_add _ _
  obtain ⟨a', L', z, T', as', fb', tr', ha', hz, j1, -, j3, j4⟩ := goes_L (xh := xh) (xr := nI ρ) (last := nI (ρ + cc)) (N := ρ + cc) (b := b) hk hr hc e130 e136 hb hy (by omega) (fun t a l => Option.bind (fV_sideUp r.1 (ed c) (nI b) (nI (ρ + cc)) t a l r.2.2.2.2.1 (nI y)) (fun r7 => some (r7, t, a, l))) (fun _ _ _ _ => none) 0 0 0 0 fb fb (fun _ => none) 0 (ρ + cc - 1) 0 2000 2000 2000 0 0 s1 s2 s3 0 (upd (upd (upd (upd fb 0 (nI ρ)) 1 (ed c)) 2 (nI b)) 3 xh) tr (by omega) (by omega) (by omega) (by omega) (by omega) (by rw [pk_un (by decide), pk_un (by decide), pk_un (by decide), pk_us]) (by rw [pk_un (by decide), pk_un (by decide), pk_us]) (by rw [pk_un (by decide), pk_us]) pk_us
  refine ⟨z, (xh, ed c, nI b, nI ρ, nI (ρ + cc), nI (ρ + cc), nI a', nI L'), T', nI L', nI a', as', nI (ρ + cc), fb', tr', hz, ?_, ?_⟩
  · have e1 : fX11_sideAt r.2.2.2.2.2.2.2.1 r.1 r.2.2.2.2.1 xh (ed c) (nI b) (nI ρ) (nI (ρ + cc)) 0 0 0 r.2.2.2.2.2.2.2.2 (nI (ρ + cc)) (nI y) = some (nI z, nI (ρ + cc), nI a', nI L') := by
      unfold fX11_sideAt
      refine Eq.trans j1 ?_
      show Option.bind (fV_sideUp r.1 (ed c) (nI b) (nI (ρ + cc)) (nI (ρ + cc)) (nI a') (nI L') r.2.2.2.2.1 (nI y)) _ = _
      rw [j4, ob]
    unfold fX11_comes fX11_begin
    rw [if_neg (nI_in (c := c) (N := 6) hc (by decide)), nI_clamp (by omega), ob, er5, hlast, eb]
    show Option.bind (fX11_sideAt r.2.2.2.2.2.2.2.1 r.1 r.2.2.2.2.1 xh (ed c) (nI b) (nI ρ) (nI (ρ + cc)) 0 0 0 r.2.2.2.2.2.2.2.2 (nI (ρ + cc)) (nI y)) _ = _
    rw [e1, ob]
  · rw [go_m hk hc, e130, e136, e242, hlast, if_pos rfl]
    exact j3
/-- with how many RISES it COMES heads -/
theorem times_L (h : SS Ls nc nh nl nb ns al be ed lw ri sd ta th wa f) {r : LR} {k c hd ρ w y : Nat} (hk : k < 8) (hr : lawR r f k) (hc : c < 6) (hh : hd < 6) (eρ : ri hd = nI ρ) (hρ : ρ ≤ 30) (ew : wa hd = nI w) (hw : w ≤ 9) (hy : y < 2) (fr fw : Nat → Int32) :
    ∀ (m i u v t : Nat) (p1 p2 p3 p4 p5 p6 p7 p8 : Int32) (s1 s2 s3 s4 s5 s6 : Int32) (fb tr : Nat → Int32), i + m = 2 * w + 1 → m < u → m < v → t ≤ i →
    ∃ (t' : Nat) (fl : FL) (sr : SR), t' ≤ 2 * w + 1 ∧ fX11_timesHeads_L30 r.2.2.2.2.2.2.2.1 r.1 r.2.2.2.2.1 r.2.2.2.2.2.1 r.2.2.2.2.2.2.2.2 be ed fr fw (nI hd) (nI c) (nI y) (nI ρ) (nI w) u p1 p2 p3 p4 p5 p6 p7 p8 (nI t) (nI i - nI w) = some (nI t', fl) ∧ fX12_headsFrom_L16 f (nI k) (nI hd) (nI c) (nI y) v s1 s2 s3 s4 s5 s6 fb tr (nI t) (nI i - nI w) = some (nI t', sr) := by
  have g4 : f (142 + hd) = nI ρ := by have := h.2.1.2.2.2.1 hd hh; rw [← this]; exact eρ
  have g8 : f (148 + hd) = nI w := by have := h.2.1.2.2.2.2.2.2.2 hd hh; rw [← this]; exact ew
  have i142 := ix_ (K := 142) (n := hd) (N := 1394) (by omega) (by decide)
  have k142 := cl_ (K := 142) (n := hd) (by omega)
  have i148 := ix_ (K := 148) (n := hd) (N := 1394) (by omega) (by decide)
  have k148 := cl_ (K := 148) (n := hd) (by omega)
  intro m
  induction m with
  | zero =>
    intro i u v t p1 p2 p3 p4 p5 p6 p7 p8 s1 s2 s3 s4 s5 s6 fb tr hi hu hv ht
    obtain ⟨u, rfl⟩ : ∃ q, u = q + 1 := ⟨u - 1, by omega⟩
    obtain ⟨v, rfl⟩ : ∃ q, v = q + 1 := ⟨v - 1, by omega⟩
    have hd1 : (nI i - nI w).toInt = (i : Int) - (w : Int) := pk_sub_toInt (by omega) (by omega)
    have hlt : nI w < nI i - nI w := by
      rw [fa_lt, hd1, nI_toInt (by omega)]
      omega
    refine ⟨t, (p1, p2, p3, p4, p5, p6, p7, p8), (s1, s2, s3, s4, s5, s6, fb, tr), by omega, ?_, ?_⟩
    · rw [fX11_timesHeads_L30, if_pos hlt]
    · rw [fX12_headsFrom_L16, if_neg i148, k148, g8, if_pos hlt]
  | succ m ih =>
    intro i u v t p1 p2 p3 p4 p5 p6 p7 p8 s1 s2 s3 s4 s5 s6 fb tr hi hu hv ht
    obtain ⟨u, rfl⟩ : ∃ q, u = q + 1 := ⟨u - 1, by omega⟩
    obtain ⟨v, rfl⟩ : ∃ q, v = q + 1 := ⟨v - 1, by omega⟩
    have hd1 : (nI i - nI w).toInt = (i : Int) - (w : Int) := pk_sub_toInt (by omega) (by omega)
    have hlt : ¬ nI w < nI i - nI w := by
      rw [fa_lt, hd1, nI_toInt (by omega)]
      omega
    have hx : (nI ρ + (nI i - nI w)).toInt = (ρ : Int) + ((i : Int) - (w : Int)) := by
      rw [fb_addI (by rw [hd1, nI_toInt (by omega)]; omega) (by rw [hd1, nI_toInt (by omega)]; omega), hd1, nI_toInt (by omega)]
    have hnx : (nI i - nI w) + 1 = nI (i + 1) - nI w := by
      have e1 : ((nI i - nI w) + nI 1).toInt = (i : Int) - (w : Int) + 1 := by
        rw [fb_addI (by rw [hd1, nI_toInt (by omega)]; omega) (by rw [hd1, nI_toInt (by omega)]; omega), hd1, nI_toInt (by omega)]
        rfl
      have e2 : (nI (i + 1) - nI w).toInt = ((i + 1 : Nat) : Int) - (w : Int) := pk_sub_toInt (by omega) (by omega)
      rw [fa_eq]
      show ((nI i - nI w) + nI 1).toInt = _
      rw [e1, e2]
      omega
    obtain ⟨R, hR1, hR2, ec, em⟩ : ∃ R : Nat, 1 ≤ R ∧ R ≤ 60 ∧ (if 1 < (nI ρ + (nI i - nI w)) then (nI ρ + (nI i - nI w)) else 1) = nI R ∧ (if 1 ≤ (nI ρ + (nI i - nI w)) then (nI ρ + (nI i - nI w)) else 1) = nI R := by
      have o1 : (1 : Int32).toInt = 1 := rfl
      by_cases q : w + 2 ≤ ρ + i
      · refine ⟨ρ + i - w, by omega, by omega, ?_, ?_⟩
        · rw [if_pos (by rw [fa_lt, hx, o1]; omega), fa_eq, hx, nI_toInt (by omega)]
          omega
        · rw [if_pos (by rw [fa_le, hx, o1]; omega), fa_eq, hx, nI_toInt (by omega)]
          omega
      · refine ⟨1, by omega, by omega, ?_, ?_⟩
        · rw [if_neg (by rw [fa_lt, hx, o1]; omega)]; rfl
        · by_cases q2 : 1 ≤ (nI ρ + (nI i - nI w))
          · rw [if_pos q2, fa_eq, hx, nI_toInt (by omega)]
            rw [fa_le, hx, o1] at q2
            omega
          · rw [if_neg q2]; rfl
    obtain ⟨z, fl, a1, a2, a4, a5, a6, a7, a8, hz, j1, j2⟩ := comes_eq h hk hr hc hR1 (by omega) hy p1 p2 p3 p4 p5 p6 p7 p8 s1 s2 s3 s4 s5 s6 fb tr (nI hd)
    obtain ⟨t', fl', sr', ht', c1, c2⟩ := ih (i + 1) u v (t + z) fl.1 fl.2.1 fl.2.2.1 fl.2.2.2.1 fl.2.2.2.2.1 fl.2.2.2.2.2.1 fl.2.2.2.2.2.2.1 fl.2.2.2.2.2.2.2 a1 a2 (nI z) a4 a5 a6 a7 a8 (by omega) (by omega) (by omega) (by omega)
    refine ⟨t', fl', sr', ht', ?_, ?_⟩
    · rw [fX11_timesHeads_L30, if_neg hlt, ec, j1, ob]
      rcases (show z = 0 ∨ z = 1 by omega) with q | q
      · rw [q] at c1 ⊢
        rw [if_neg (show ¬ (nI 0, fl).1 = 1 from (by decide : ¬ nI 0 = 1)), hnx]
        exact c1
      · rw [q] at c1 ⊢
        rw [if_pos (show (nI 1, fl).1 = 1 from rfl), hnx, nI_1]
        exact c1
    · have e5 : ∀ X : Int32, X = nI R → fX12_headsFrom_b62 (fX12_headsFrom_L16 f (nI k) (nI hd) (nI c) (nI y) v) s1 s2 s3 s4 s5 s6 fb f tr (nI k) (nI hd) (nI c) (nI y) (nI t) (nI i - nI w) (nI k) (nI hd) (nI c) X = some (nI t', sr') := by
        intro X hX
        rw [hX]
        unfold fX12_headsFrom_b62
        rw [j2, ob, hnx]
        show fX12_headsFrom_L16 f (nI k) (nI hd) (nI c) (nI y) v a1 a2 (nI z) a4 a5 a6 a7 a8 (nI t + nI z) (nI (i + 1) - nI w) = _
        rw [nI_add]
        exact c2
      rw [fX12_headsFrom_L16, if_neg i148, k148, g8, if_neg hlt, if_neg i142, k142, g4]
      by_cases q2 : 1 ≤ (nI ρ + (nI i - nI w))
      · rw [if_pos q2] at em
        rw [if_pos q2]
        exact e5 _ em
      · rw [if_neg q2] at em
        rw [if_neg q2]
        exact e5 _ em
theorem neg_sub {w : Nat} (hw : w < 2 ^ 30) : -(nI w) = nI 0 - nI w := by
  rw [fa_eq, fb_negI (by rw [nI_toInt (by omega)]; omega), pk_sub_toInt (by decide) hw, nI_toInt (by omega)]
  omega
theorem times_eq (h : SS Ls nc nh nl nb ns al be ed lw ri sd ta th wa f) {r : LR} {k c hd y : Nat} (hk : k < 8) (hr : lawR r f k) (hc : c < 6) (hh : hd < 6) (hy : y < 2) (p1 p2 p3 p4 p5 p6 p7 p8 : Int32) (s1 s2 s3 s4 s5 s6 : Int32) (fb tr : Nat → Int32) :
    ∃ (w t : Nat) (fl : FL) (sr : SR), w ≤ 9 ∧ wa hd = nI w ∧ f (148 + hd) = nI w ∧ t ≤ 2 * w + 1 ∧ fX11_timesHeads r.2.2.2.2.2.2.2.1 r.1 r.2.2.2.2.1 r.2.2.2.2.2.1 p1 p2 p3 p4 p5 p6 p7 p8 r.2.2.2.2.2.2.2.2 be ed ri wa (nI hd) (nI c) (nI y) = some (nI t, fl) ∧ fX12_headsFrom s1 s2 s3 s4 s5 s6 fb f tr (nI k) (nI hd) (nI c) (nI y) = some (nI t, sr) := by
  obtain ⟨ρ, hρ, eρ⟩ := h.2.2.1.2.2.1 hd hh
  obtain ⟨w, hw, ew⟩ := h.2.2.1.2.2.2.1 hd hh
  have g8 : f (148 + hd) = nI w := by have := h.2.1.2.2.2.2.2.2.2 hd hh; rw [← this]; exact ew
  obtain ⟨t, fl, sr, ht, c1, c2⟩ := times_L h hk hr hc hh eρ hρ ew hw hy ri wa (2 * w + 1) 0 2000 2000 0 p1 p2 p3 p4 p5 p6 p7 p8 s1 s2 s3 s4 s5 s6 fb tr (by omega) (by omega) (by omega) (by omega)
  refine ⟨w, t, fl, sr, hw, ew, g8, ht, ?_, ?_⟩
  · unfold fX11_timesHeads
    rw [if_neg (nI_in (c := hd) (N := 6) hh (by decide)), nI_clamp (by omega), eρ, ew, neg_sub (by omega)]
    exact c1
  · unfold fX12_headsFrom
    rw [if_neg (ix_ (K := 148) (n := hd) (N := 1394) (by omega) (by decide)), cl_ (K := 148) (n := hd) (by omega), g8, neg_sub (by omega)]
    exact c2
end US
