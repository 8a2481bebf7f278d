/-! same, heads, steady, worth -/
section CB
variable {Ls : List LR} {nc nh nl nb ns : Nat} {al be ed : Nat → Int32} {lw : Nat → Option Nat} {ri sd ta th wa f : Nat → Int32}
theorem rises_eq {hd w : Nat} (hh : hd < 6) (hw : w ≤ 9) (ew : wa hd = nI w) : fX6_rises wa (nI hd) = some (nI (2 * w + 1)) := by
  unfold fX6_rises
  rw [if_neg (nI_in (c := hd) (N := 6) hh (by decide)), nI_clamp (by omega), ew, show (2 : Int32) * nI w = nI (2 * w) from pk_mul 2 w, nI_1]
  by_cases q : w = 0
  · subst q
    rfl
  · rw [if_pos (show (1 : Int32) < nI (2 * w + 1) from nI_lt (a := 1) (by omega) (by omega))]
theorem p_same_n (h : SS Ls nc nh nl nb ns al be ed lw ri sd ta th wa f) {l1 : Int32} (h1 : wI l1 0 (nI nl - 1) = 0) (l2 l3 l4 : Int32) (s1 s2 s3 s4 s5 s6 : Int32) (fb tr : Nat → Int32) : ∃ (z : Int64) (sr : SR), fX11_same_n (nI nl) lw l1 l2 l3 l4 = some z ∧ fX12_same s1 s2 s3 s4 s5 s6 fb f tr l1 l2 l3 l4 = some (z, sr) := by
  refine ⟨-9223372036854775808, (s1, s2, s3, s4, s5, s6, fb, tr), rfl, ?_⟩
  unfold fX12_same
  rw [m_there h, ob, if_pos h1, if_pos rfl]
theorem p_same_s (h : SS Ls nc nh nl nb ns al be ed lw ri sd ta th wa f) {r : LR} {k : Nat} (hk : k < nl) (hk8 : k < 8) (hr : lawR r f k) (h1 : ¬ wI (nI k) 0 (nI nl - 1) = 0) (l2 l3 l4 : Int32) (p1 p2 p3 p4 p5 p6 p7 p8 : Int32) (s1 s2 s3 s4 s5 s6 : Int32) (fb tr : Nat → Int32) :
    ∃ (z : Int64) (fl : FL) (sr : SR), fX11_same_s r.2.2.2.2.2.2.2.1 r.1 r.2.2.2.2.1 r.2.2.2.2.2.1 p1 p2 p3 p4 p5 p6 p7 p8 (nI nc) (nI nh) (nI nl) r.2.2.2.2.2.2.2.2 be ed lw ri wa (nI k) l2 l3 l4 = some (z, fl) ∧ fX12_same s1 s2 s3 s4 s5 s6 fb f tr (nI k) l2 l3 l4 = some (z, sr) := by
  have hS := h
  obtain ⟨⟨hc, hh, hl, hb, hs, e0, e1, e2, e4, e3⟩, -⟩ := h
  by_cases h2 : wI l2 0 (nI nh - 1) = 0
  · exact ⟨-9223372036854775808, (p1, p2, p3, p4, p5, p6, p7, p8), (s1, s2, s3, s4, s5, s6, fb, tr), by simp only [fX11_same_s, i11_hand, ob, h2, if_true], by simp only [fX12_same, m_there hS, ob, h1, h2, if_true, if_false]⟩
  by_cases h3 : wI l3 0 (nI nc - 1) = 0
  · exact ⟨-9223372036854775808, (p1, p2, p3, p4, p5, p6, p7, p8), (s1, s2, s3, s4, s5, s6, fb, tr), by simp only [fX11_same_s, i11_hand, i11_coin, ob, h2, h3, if_true, if_false], by simp only [fX12_same, m_there hS, ob, h1, h2, h3, if_true, if_false]⟩
  by_cases h4 : wI l4 0 1 = 0
  · exact ⟨-9223372036854775808, (p1, p2, p3, p4, p5, p6, p7, p8), (s1, s2, s3, s4, s5, s6, fb, tr), by simp only [fX11_same_s, i11_hand, i11_coin, i11_part, ob, h2, h3, h4, if_true, if_false], by simp only [fX12_same, m_there hS, wI_in, ob, h1, h2, h3, h4, if_true, if_false, show ¬ (1 : Int32) = 0 from by decide]⟩
  have n2 := h2
  have n3 := h3
  obtain ⟨hd, hhd, rfl⟩ := wI_lt (by omega) h2
  obtain ⟨c, hcc', rfl⟩ := wI_lt (by omega) h3
  have hh6 : hd < 6 := by omega
  have hc6 : c < 6 := by omega
  obtain ⟨w, t, fl, sr, hw, ew, g8, ht, j1, j2⟩ := times_eq hS (y := 1) hk8 hr hc6 hh6 (by decide) p1 p2 p3 p4 p5 p6 p7 p8 s1 s2 s3 s4 s5 s6 fb tr
  have j1' : fX11_timesHeads r.2.2.2.2.2.2.2.1 r.1 r.2.2.2.2.1 r.2.2.2.2.2.1 p1 p2 p3 p4 p5 p6 p7 p8 r.2.2.2.2.2.2.2.2 be ed ri wa (nI hd) (nI c) (1 : Int32) = some (nI t, fl) := j1
  have j2' : fX12_headsFrom s1 s2 s3 s4 s5 s6 fb f tr (nI k) (nI hd) (nI c) (1 : Int32) = some (nI t, sr) := j2
  refine ⟨lN ((if l4 = 0 then t else 2 * w + 1) / Nat.gcd (2 * w + 1) t), fl, sr, ?_, ?_⟩
  · unfold fX11_same_s
    rw [i11_hand, ob, if_neg n2, i11_coin, ob, if_neg n3, i11_part, ob, if_neg h4, j1', ob, rises_eq hh6 hw ew, ob]
    show Option.bind (fX11_inLowest (nI t).toInt64 (nI (2 * w + 1)).toInt64 l4) _ = _
    rw [nI_l (by omega), nI_l (by omega), low_c (by omega) (by omega) (by omega), ob]
  · unfold fX12_same
    rw [m_there hS, ob, if_neg h1, if_neg n2, if_neg n3, if_neg (by decide), wI_in, ob, if_neg h4, j2', ob, if_neg (ix_ (K := 148) (n := hd) (N := 1394) (by omega) (by decide)), cl_ (K := 148) (n := hd) (by omega), g8, show (2 : Int32) * nI w = nI (2 * w) from pk_mul 2 w, nI_1]
    show Option.bind (fX12_lowest (nI t).toInt64 (nI (2 * w + 1)).toInt64 l4) _ = _
    rw [nI_l (by omega), nI_l (by omega), low_m (by omega) (by omega) (by omega), ob]
theorem p_heads_n (h : SS Ls nc nh nl nb ns al be ed lw ri sd ta th wa f) {l1 : Int32} (h1 : wI l1 0 (nI nl - 1) = 0) (l2 l3 l4 l5 : Int32) (s1 s2 s3 s4 s5 s6 : Int32) (fb tr : Nat → Int32) : ∃ (z : Int64) (sr : SR), fX11_heads_n (nI nl) lw l1 l2 l3 l4 l5 = some z ∧ fX12_heads s1 s2 s3 s4 s5 s6 fb f tr l1 l2 l3 l4 l5 = some (z, sr) := by
  refine ⟨-9223372036854775808, (s1, s2, s3, s4, s5, s6, fb, tr), rfl, ?_⟩
  unfold fX12_heads
  rw [m_there h, ob, if_pos h1, if_pos rfl]
theorem p_heads_s (h : SS Ls nc nh nl nb ns al be ed lw ri sd ta th wa f) {r : LR} {k : Nat} (hk : k < nl) (hk8 : k < 8) (hr : lawR r f k) (h1 : ¬ wI (nI k) 0 (nI nl - 1) = 0) (l2 l3 l4 l5 : Int32) (p1 p2 p3 p4 p5 p6 p7 p8 : Int32) (s1 s2 s3 s4 s5 s6 : Int32) (fb tr : Nat → Int32) :
    ∃ (z : Int64) (fl : FL) (sr : SR), fX11_heads_s r.2.2.2.2.2.2.2.1 r.1 r.2.2.2.2.1 r.2.2.2.2.2.1 p1 p2 p3 p4 p5 p6 p7 p8 (nI nc) (nI nh) (nI nl) r.2.2.2.2.2.2.2.2 be ed lw ri wa (nI k) l2 l3 l4 l5 = some (z, fl) ∧ fX12_heads s1 s2 s3 s4 s5 s6 fb f tr (nI k) l2 l3 l4 l5 = some (z, sr) := by
  have hS := h
  obtain ⟨⟨hc, hh, hl, hb, hs, e0, e1, e2, e4, e3⟩, -⟩ := h
  by_cases h2 : wI l2 0 (nI nh - 1) = 0
  · exact ⟨-9223372036854775808, (p1, p2, p3, p4, p5, p6, p7, p8), (s1, s2, s3, s4, s5, s6, fb, tr), by simp only [fX11_heads_s, i11_hand, ob, h2, if_true], by simp only [fX12_heads, m_there hS, ob, h1, h2, if_true, if_false]⟩
  by_cases h3 : wI l3 0 (nI nc - 1) = 0
  · exact ⟨-9223372036854775808, (p1, p2, p3, p4, p5, p6, p7, p8), (s1, s2, s3, s4, s5, s6, fb, tr), by simp only [fX11_heads_s, i11_hand, i11_coin, ob, h2, h3, if_true, if_false], by simp only [fX12_heads, m_there hS, ob, h1, h2, h3, if_true, if_false]⟩
  by_cases h5 : wI l5 0 1 = 0
  · refine ⟨-9223372036854775808, (p1, p2, p3, p4, p5, p6, p7, p8), (s1, s2, s3, s4, s5, s6, fb, tr), by simp only [fX11_heads_s, i11_hand, i11_coin, i11_part, ob, h2, h3, h5, if_true, if_false], ?_⟩
    by_cases h4 : wI l4 0 100 = 0
    · simp only [fX12_heads, m_there hS, wI_in, ob, h1, h2, h3, h4, if_true, if_false, show ¬ (1 : Int32) = 0 from by decide]
    · simp only [fX12_heads, m_there hS, wI_in, ob, h1, h2, h3, h4, h5, if_true, if_false, show ¬ (1 : Int32) = 0 from by decide]
  by_cases h4 : wI l4 0 100 = 0
  · exact ⟨-9223372036854775808, (p1, p2, p3, p4, p5, p6, p7, p8), (s1, s2, s3, s4, s5, s6, fb, tr), by simp only [fX11_heads_s, i11_hand, i11_coin, i11_part, i11_percent, ob, h2, h3, h5, h4, if_true, if_false], by simp only [fX12_heads, m_there hS, wI_in, ob, h1, h2, h3, h4, if_true, if_false, show ¬ (1 : Int32) = 0 from by decide]⟩
  have n2 := h2
  have n3 := h3
  have n4 := h4
  obtain ⟨hd, hhd, rfl⟩ := wI_lt (by omega) h2
  obtain ⟨c, hcc', rfl⟩ := wI_lt (by omega) h3
  obtain ⟨n, -, hn, rfl⟩ := wI_ge (a := 0) (b := 100) (by decide) (by decide) h4
  have hh6 : hd < 6 := by omega
  have hc6 : c < 6 := by omega
  obtain ⟨w, t, fl, sr, hw, ew, g8, ht, j1, j2⟩ := times_eq hS (y := 1) hk8 hr hc6 hh6 (by decide) p1 p2 p3 p4 p5 p6 p7 p8 s1 s2 s3 s4 s5 s6 fb tr
  obtain ⟨w', t', fl', sr', hw', ew', g8', ht', j3, j4⟩ := times_eq hS (y := 0) hk8 hr hc6 hh6 (by decide) fl.1 fl.2.1 fl.2.2.1 fl.2.2.2.1 fl.2.2.2.2.1 fl.2.2.2.2.2.1 fl.2.2.2.2.2.2.1 fl.2.2.2.2.2.2.2 sr.1 sr.2.1 sr.2.2.1 sr.2.2.2.1 sr.2.2.2.2.1 sr.2.2.2.2.2.1 sr.2.2.2.2.2.2.1 sr.2.2.2.2.2.2.2
  have ww : w' = w := by
    rw [ew] at ew'
    exact ((nI_eq (by omega) (by omega)).mp ew').symm
  subst ww
  have j1' : fX11_timesHeads r.2.2.2.2.2.2.2.1 r.1 r.2.2.2.2.1 r.2.2.2.2.2.1 p1 p2 p3 p4 p5 p6 p7 p8 r.2.2.2.2.2.2.2.2 be ed ri wa (nI hd) (nI c) (1 : Int32) = some (nI t, fl) := j1
  have j2' : fX12_headsFrom s1 s2 s3 s4 s5 s6 fb f tr (nI k) (nI hd) (nI c) (1 : Int32) = some (nI t, sr) := j2
  have j3' : fX11_timesHeads r.2.2.2.2.2.2.2.1 r.1 r.2.2.2.2.1 r.2.2.2.2.2.1 fl.1 fl.2.1 fl.2.2.1 fl.2.2.2.1 fl.2.2.2.2.1 fl.2.2.2.2.2.1 fl.2.2.2.2.2.2.1 fl.2.2.2.2.2.2.2 r.2.2.2.2.2.2.2.2 be ed ri wa (nI hd) (nI c) (0 : Int32) = some (nI t', fl') := j3
  have j4' : fX12_headsFrom sr.1 sr.2.1 sr.2.2.1 sr.2.2.2.1 sr.2.2.2.2.1 sr.2.2.2.2.2.1 sr.2.2.2.2.2.2.1 f sr.2.2.2.2.2.2.2 (nI k) (nI hd) (nI c) (0 : Int32) = some (nI t', sr') := j4
  have hm1 : n * t ≤ 100 * 19 := Nat.mul_le_mul hn (by omega)
  have hm2 : (100 - n) * t' ≤ 100 * 19 := Nat.mul_le_mul (by omega) (by omega)
  have x1 : (100 : Int32) - nI n = nI (100 - n) := pk_sub (a := 100) hn
  have x2 : (100 : Int64) * lN (2 * w' + 1) = lN (100 * (2 * w' + 1)) := lN_mul 100 _
  refine ⟨lN ((if l5 = 0 then n * t + (100 - n) * t' else 100 * (2 * w' + 1)) / Nat.gcd (100 * (2 * w' + 1)) (n * t + (100 - n) * t')), fl', sr', ?_, ?_⟩
  · unfold fX11_heads_s
    rw [i11_hand, ob, if_neg n2, i11_coin, ob, if_neg n3, i11_part, ob, if_neg h5, i11_percent, ob, if_neg n4, j1', ob]
    show Option.bind (fX11_timesHeads _ _ _ _ fl.1 fl.2.1 fl.2.2.1 fl.2.2.2.1 fl.2.2.2.2.1 fl.2.2.2.2.2.1 fl.2.2.2.2.2.2.1 fl.2.2.2.2.2.2.2 _ _ _ _ _ _ _ _) _ = _
    rw [j3', ob, rises_eq hh6 hw ew, ob]
    show Option.bind (fX11_inLowest ((nI n * nI t).toInt64 + ((100 - nI n) * nI t').toInt64) (100 * (nI (2 * w' + 1)).toInt64) l5) _ = _
    rw [x1, pk_mul, pk_mul, nI_l (by omega), nI_l (by omega), nI_l (by omega), lN_add, x2, low_c (by omega) (by omega) (by omega), ob]
  · unfold fX12_heads
    rw [m_there hS, ob, if_neg h1, if_neg n2, if_neg n3, if_neg (by decide), wI_in, ob, if_neg n4, wI_in, ob, if_neg h5, j2', ob]
    show Option.bind (fX12_headsFrom sr.1 sr.2.1 sr.2.2.1 sr.2.2.2.1 sr.2.2.2.2.1 sr.2.2.2.2.2.1 sr.2.2.2.2.2.2.1 f sr.2.2.2.2.2.2.2 _ _ _ _) _ = _
    rw [j4', ob, if_neg (ix_ (K := 148) (n := hd) (N := 1394) (by omega) (by decide)), cl_ (K := 148) (n := hd) (by omega), g8, show (2 : Int32) * nI w' = nI (2 * w') from pk_mul 2 w', nI_1]
    show Option.bind (fX12_lowest ((nI n * nI t) + ((100 - nI n) * nI t')).toInt64 (100 * (nI (2 * w' + 1)).toInt64) l5) _ = _
    rw [x1, pk_mul, pk_mul, nI_add, nI_l (by omega), nI_l (by omega), x2, low_m (by omega) (by omega) (by omega), ob]
/-! steady -/
theorem p_steady_n (h : SS Ls nc nh nl nb ns al be ed lw ri sd ta th wa f) {l1 : Int32} (h1 : wI l1 0 (nI nl - 1) = 0) (l2 l3 l4 : Int32) (s1 s2 s3 s4 s5 s6 : Int32) (fb tr : Nat → Int32) : ∃ (z : Int32) (sr : SR), fX11_steady_n (nI nl) lw l1 l2 l3 l4 = some z ∧ fX12_steady s1 s2 s3 s4 s5 s6 fb f tr l1 l2 l3 l4 = some (z, sr) := by
  refine ⟨-1, (s1, s2, s3, s4, s5, s6, fb, tr), rfl, ?_⟩
  unfold fX12_steady
  rw [m_there h, ob, if_pos h1, if_pos rfl]
theorem steady_L (h : SS Ls nc nh nl nb ns al be ed lw ri sd ta th wa f) {r : LR} {k c : Nat} (hk8 : k < 8) (hr : lawR r f k) (hc : c < 6) (xh l4 : Int32) (kc : Int32 → Int32 → Int32 → Int32 → Int32 → Int32 → Int32 → Int32 → Int32 → Int32 → Option (Int32 × Int32 × Int32 × Int32 × Int32 × Int32 × Int32 × Int32 × Int32)) (km : Int32 → Int32 → Int32 → Int32 → Int32 → Int32 → (Nat → Int32) → (Nat → Int32) → Int32 → Int32 → Option (Int32 × Int32 × Int32 × Int32 × Int32 × Int32 × Int32 × (Nat → Int32) × (Nat → Int32))) (q1 q2 q3 : Int32) (g3 : Nat → Option Nat) :
    ∀ (m ρ u v : Nat) (t E B : Int32) (p1 p2 p3 p4 p5 p6 p7 p8 : Int32) (s1 s2 s3 s4 s5 s6 : Int32) (fb tr : Nat → Int32), ρ + m = 41 → 1 ≤ ρ → m < u → m < v →
    ∃ (t' E' : Int32) (fl : FL) (sr : SR), fX11_steady_s_L53 kc r.2.2.2.2.2.2.2.1 r.1 r.2.2.2.2.1 r.2.2.2.2.2.1 q1 q2 q3 r.2.2.2.2.2.2.2.2 be ed g3 xh (nI c) l4 u p1 p2 p3 p4 p5 p6 p7 p8 t E B (nI ρ) = kc fl.1 fl.2.1 fl.2.2.1 fl.2.2.2.1 fl.2.2.2.2.1 fl.2.2.2.2.2.1 fl.2.2.2.2.2.2.1 fl.2.2.2.2.2.2.2 t' E' ∧ fX12_steady_L35 km f (nI k) xh (nI c) l4 v s1 s2 s3 s4 s5 s6 fb tr t E B (nI ρ) = km sr.1 sr.2.1 sr.2.2.1 sr.2.2.2.1 sr.2.2.2.2.1 sr.2.2.2.2.2.1 sr.2.2.2.2.2.2.1 sr.2.2.2.2.2.2.2 t' E' := by
  intro m
  induction m with
  | zero =>
    intro ρ u v t E B p1 p2 p3 p4 p5 p6 p7 p8 s1 s2 s3 s4 s5 s6 fb tr hρ h1 hu hv
    obtain ⟨u, rfl⟩ : ∃ q, u = q + 1 := ⟨u - 1, by omega⟩
    obtain ⟨v, rfl⟩ : ∃ q, v = q + 1 := ⟨v - 1, by omega⟩
    have c40 : (40 : Int32) < nI ρ := q_lt (N := 40) (by omega) (by omega)
    refine ⟨t, E, (p1, p2, p3, p4, p5, p6, p7, p8), (s1, s2, s3, s4, s5, s6, fb, tr), ?_, ?_⟩
    · rw [fX11_steady_s_L53, if_pos c40]
    · rw [fX12_steady_L35, if_pos c40]
  | succ m ih =>
    intro ρ u v t E B p1 p2 p3 p4 p5 p6 p7 p8 s1 s2 s3 s4 s5 s6 fb tr hρ h1 hu hv
    obtain ⟨u, rfl⟩ : ∃ q, u = q + 1 := ⟨u - 1, by omega⟩
    obtain ⟨v, rfl⟩ : ∃ q, v = q + 1 := ⟨v - 1, by omega⟩
    have c40 : ¬ (40 : Int32) < nI ρ := q_nlt (N := 40) (by omega) (by omega)
    obtain ⟨z, fl, a1, a2, a4, a5, a6, a7, a8, hz, j1, j2⟩ := comes_eq h (y := 1) hk8 hr hc h1 (by omega) (by decide) p1 p2 p3 p4 p5 p6 p7 p8 s1 s2 s3 s4 s5 s6 fb tr xh
    have j1' : fX11_comes r.2.2.2.2.2.2.2.1 r.1 r.2.2.2.2.1 r.2.2.2.2.2.1 p1 p2 p3 p4 p5 p6 p7 p8 r.2.2.2.2.2.2.2.2 be ed xh (nI c) (nI ρ) (1 : Int32) = some (nI z, fl) := j1
    have j2' : fX12_goes s1 s2 s3 s4 s5 s6 fb f tr (nI k) xh (nI c) (nI ρ) (1 : Int32) 0 = some (a1, a2, nI z, a4, a5, a6, a7, a8) := j2
    have step : ∀ E' : Int32, ∃ (t' E'' : Int32) (fl' : FL) (sr : SR), fX11_steady_s_L53 kc r.2.2.2.2.2.2.2.1 r.1 r.2.2.2.2.1 r.2.2.2.2.2.1 q1 q2 q3 r.2.2.2.2.2.2.2.2 be ed g3 xh (nI c) l4 u fl.1 fl.2.1 fl.2.2.1 fl.2.2.2.1 fl.2.2.2.2.1 fl.2.2.2.2.2.1 fl.2.2.2.2.2.2.1 fl.2.2.2.2.2.2.2 (t + nI z) E' (nI z) (nI (ρ + 1)) = kc fl'.1 fl'.2.1 fl'.2.2.1 fl'.2.2.2.1 fl'.2.2.2.2.1 fl'.2.2.2.2.2.1 fl'.2.2.2.2.2.2.1 fl'.2.2.2.2.2.2.2 t' E'' ∧ fX12_steady_L35 km f (nI k) xh (nI c) l4 v a1 a2 (nI z) a4 a5 a6 a7 a8 (t + nI z) E' (nI z) (nI (ρ + 1)) = km sr.1 sr.2.1 sr.2.2.1 sr.2.2.2.1 sr.2.2.2.2.1 sr.2.2.2.2.2.1 sr.2.2.2.2.2.2.1 sr.2.2.2.2.2.2.2 t' E'' :=
      fun E' => ih (ρ + 1) u v (t + nI z) E' (nI z) fl.1 fl.2.1 fl.2.2.1 fl.2.2.2.1 fl.2.2.2.2.1 fl.2.2.2.2.2.1 fl.2.2.2.2.2.2.1 fl.2.2.2.2.2.2.2 a1 a2 (nI z) a4 a5 a6 a7 a8 (by omega) (by omega) (by omega) (by omega)
    have hcl : fX11_steady_s_L53 kc r.2.2.2.2.2.2.2.1 r.1 r.2.2.2.2.1 r.2.2.2.2.2.1 q1 q2 q3 r.2.2.2.2.2.2.2.2 be ed g3 xh (nI c) l4 (u + 1) p1 p2 p3 p4 p5 p6 p7 p8 t E B (nI ρ) = fX11_steady_s_L53 kc r.2.2.2.2.2.2.2.1 r.1 r.2.2.2.2.1 r.2.2.2.2.2.1 q1 q2 q3 r.2.2.2.2.2.2.2.2 be ed g3 xh (nI c) l4 u fl.1 fl.2.1 fl.2.2.1 fl.2.2.2.1 fl.2.2.2.2.1 fl.2.2.2.2.2.1 fl.2.2.2.2.2.2.1 fl.2.2.2.2.2.2.2 (t + nI z) (if nI ρ ≤ 1 then E else if nI z = B then E else if E = -5 then nI ρ else E) (nI z) (nI (ρ + 1)) := by
      rw [fX11_steady_s_L53, if_neg c40, j1', ob]
      have ez : (if (nI z, fl).1 = 1 then t + 1 else t) = t + nI z := by
        rcases (show z = 0 ∨ z = 1 by omega) with q | q
        · rw [q, if_neg (show ¬ (nI 0, fl).1 = 1 from (by decide : ¬ nI 0 = 1))]; exact (Int32.add_zero t).symm
        · rw [q, if_pos (show (nI 1, fl).1 = 1 from rfl)]; rfl
      rw [← ez]
      unfold fX11_steady_s_b82
      by_cases y1 : (nI z, fl).1 = 1
      · rw [if_pos y1, if_pos y1]
        by_cases y2 : nI ρ ≤ 1
        · rw [if_pos y2, if_pos y2, nI_1]
        · rw [if_neg y2, if_neg y2]
          by_cases y3 : nI z = B
          · rw [if_pos y3, if_pos y3, nI_1]
          · rw [if_neg y3, if_neg y3]
            by_cases y4 : E = -5
            · rw [if_pos y4, if_pos y4, nI_1]
            · rw [if_neg y4, if_neg y4, nI_1]
      · rw [if_neg y1, if_neg y1]
        by_cases y2 : nI ρ ≤ 1
        · rw [if_pos y2, if_pos y2, nI_1]
        · rw [if_neg y2, if_neg y2]
          by_cases y3 : nI z = B
          · rw [if_pos y3, if_pos y3, nI_1]
          · rw [if_neg y3, if_neg y3]
            by_cases y4 : E = -5
            · rw [if_pos y4, if_pos y4, nI_1]
            · rw [if_neg y4, if_neg y4, nI_1]
    have hml : fX12_steady_L35 km f (nI k) xh (nI c) l4 (v + 1) s1 s2 s3 s4 s5 s6 fb tr t E B (nI ρ) = fX12_steady_L35 km f (nI k) xh (nI c) l4 v a1 a2 (nI z) a4 a5 a6 a7 a8 (t + nI z) (if nI ρ ≤ 1 then E else if nI z = B then E else if E = -5 then nI ρ else E) (nI z) (nI (ρ + 1)) := by
      rw [fX12_steady_L35, if_neg c40, j2', ob]
      unfold fX12_steady_b89 fX12_steady_b91
      by_cases y4 : E = -5
      · rw [if_pos y4, if_pos y4]
        by_cases y2 : nI ρ ≤ 1
        · rw [if_pos y2, if_pos y2, nI_1]
        · rw [if_neg y2, if_neg y2]
          by_cases y3 : nI z = B
          · rw [if_pos y3, if_pos y3, nI_1]
          · rw [if_neg y3, if_neg y3, nI_1]
      · rw [if_neg y4, if_neg y4, nI_1]
        by_cases y2 : nI ρ ≤ 1
        · rw [if_pos y2]
        · rw [if_neg y2]
          by_cases y3 : nI z = B
          · rw [if_pos y3]
          · rw [if_neg y3]
    rw [hcl, hml]
    exact step _
theorem p_steady_s (h : SS Ls nc nh nl nb ns al be ed lw ri sd ta th wa f) {r : LR} {k : Nat} (hk : k < nl) (hk8 : k < 8) (hr : lawR r f k) (h1 : ¬ wI (nI k) 0 (nI nl - 1) = 0) (l2 l3 l4 : Int32) (p1 p2 p3 p4 p5 p6 p7 p8 : Int32) (s1 s2 s3 s4 s5 s6 : Int32) (fb tr : Nat → Int32) :
    ∃ (z : Int32) (fl : FL) (sr : SR), fX11_steady_s r.2.2.2.2.2.2.2.1 r.1 r.2.2.2.2.1 r.2.2.2.2.2.1 p1 p2 p3 p4 p5 p6 p7 p8 (nI nc) (nI nh) (nI nl) r.2.2.2.2.2.2.2.2 be ed lw (nI k) l2 l3 l4 = some (z, fl) ∧ fX12_steady s1 s2 s3 s4 s5 s6 fb f tr (nI k) l2 l3 l4 = some (z, sr) := by
  have hS := h
  obtain ⟨⟨hc, hh, hl, hb, hs, e0, e1, e2, e4, e3⟩, -⟩ := h
  by_cases h2 : wI l2 0 (nI nh - 1) = 0
  · exact ⟨-1, (p1, p2, p3, p4, p5, p6, p7, p8), (s1, s2, s3, s4, s5, s6, fb, tr), by simp only [fX11_steady_s, i11_hand, ob, h2, if_true], by simp only [fX12_steady, m_there hS, ob, h1, h2, if_true, if_false]⟩
  by_cases h3 : wI l3 0 (nI nc - 1) = 0
  · exact ⟨-1, (p1, p2, p3, p4, p5, p6, p7, p8), (s1, s2, s3, s4, s5, s6, fb, tr), by simp only [fX11_steady_s, i11_hand, i11_coin, ob, h2, h3, if_true, if_false], by simp only [fX12_steady, m_there hS, ob, h1, h2, h3, if_true, if_false]⟩
  by_cases h4 : wI l4 0 1 = 0
  · exact ⟨-1, (p1, p2, p3, p4, p5, p6, p7, p8), (s1, s2, s3, s4, s5, s6, fb, tr), by simp only [fX11_steady_s, i11_hand, i11_coin, wI_is, ob, h2, h3, h4, if_true, if_false], by simp only [fX12_steady, m_there hS, wI_in, ob, h1, h2, h3, h4, if_true, if_false, show ¬ (1 : Int32) = 0 from by decide]⟩
  have n2 := h2
  have n3 := h3
  obtain ⟨hd, hhd, rfl⟩ := wI_lt (by omega) h2
  obtain ⟨c, hcc', rfl⟩ := wI_lt (by omega) h3
  obtain ⟨t', E', fl, sr, j1, j2⟩ := steady_L hS hk8 hr (show c < 6 by omega) (nI hd) l4 (fun x_flight_hand_17 x_flight_edge_18 x_flight_bend_19 x_flight_rise_20 x_flight_last_21 x_flight_tick_22 x_flight_angle_23 x_flight_lean_24 l6_25 l7_26 => (if l4 = 0 then some (l6_25, x_flight_hand_17, x_flight_edge_18, x_flight_bend_19, x_flight_rise_20, x_flight_last_21, x_flight_tick_22, x_flight_angle_23, x_flight_lean_24) else some (l7_26, x_flight_hand_17, x_flight_edge_18, x_flight_bend_19, x_flight_rise_20, x_flight_last_21, x_flight_tick_22, x_flight_angle_23, x_flight_lean_24))) (fun x_turn_13 x_lean_14 x_last_15 x_angle_16 x_asLay_17 x_ticks_18 f_by_19 f_truths_20 l5_21 l6_22 => (if l4 = 0 then some (l5_21, x_turn_13, x_lean_14, x_last_15, x_angle_16, x_asLay_17, x_ticks_18, f_by_19, f_truths_20) else some (l6_22, x_turn_13, x_lean_14, x_last_15, x_angle_16, x_asLay_17, x_ticks_18, f_by_19, f_truths_20))) (nI nc) (nI nh) (nI nl) lw 40 1 2000 2000 0 (-5) 0 p1 p2 p3 p4 p5 p6 p7 p8 s1 s2 s3 s4 s5 s6 fb tr (by omega) (by omega) (by omega) (by omega)
  by_cases q : l4 = 0
  · refine ⟨t', fl, sr, ?_, ?_⟩
    · unfold fX11_steady_s
      rw [i11_hand, ob, if_neg n2, i11_coin, ob, if_neg n3, wI_is, ob, if_neg h4]
      refine j1.trans ?_
      show (if l4 = 0 then _ else _) = _
      rw [if_pos q]
    · unfold fX12_steady
      rw [m_there hS, ob, if_neg h1, if_neg n2, if_neg n3, if_neg (by decide), wI_in, ob, if_neg h4]
      refine j2.trans ?_
      show (if l4 = 0 then _ else _) = _
      rw [if_pos q]
  · refine ⟨E', fl, sr, ?_, ?_⟩
    · unfold fX11_steady_s
      rw [i11_hand, ob, if_neg n2, i11_coin, ob, if_neg n3, wI_is, ob, if_neg h4]
      refine j1.trans ?_
      show (if l4 = 0 then _ else _) = _
      rw [if_neg q]
    · unfold fX12_steady
      rw [m_there hS, ob, if_neg h1, if_neg n2, if_neg n3, if_neg (by decide), wI_in, ob, if_neg h4]
      refine j2.trans ?_
      show (if l4 = 0 then _ else _) = _
      rw [if_neg q]
/-! worth -/
theorem p_worth_n (h : SS Ls nc nh nl nb ns al be ed lw ri sd ta th wa f) {l1 : Int32} (h1 : wI l1 0 (nI nl - 1) = 0) (l2 l3 l4 : Int32) (s1 s2 s3 s4 s5 s6 : Int32) (fb tr : Nat → Int32) : ∃ (z : Int32) (sr : SR), fX11_worth_n (nI nl) lw l1 l2 l3 l4 = some z ∧ fX12_worth s1 s2 s3 s4 s5 s6 fb f tr l1 l2 l3 l4 = some (z, sr) := by
  refine ⟨-1001, (s1, s2, s3, s4, s5, s6, fb, tr), rfl, ?_⟩
  unfold fX12_worth
  rw [m_there h, ob, if_pos h1, if_pos rfl]
theorem worth_num : ∀ (w : Fin 10) (n : Fin 101) (t : Fin 20), t.val ≤ 2 * w.val + 1 → ((10 * (if 0 ≤ ((2 * nI t.val) - nI (2 * w.val + 1)) then ((2 * nI t.val) - nI (2 * w.val + 1)) else 0 - ((2 * nI t.val) - nI (2 * w.val + 1)))) * (100 - (2 * nI n.val))) / nI (2 * w.val + 1) = (if nI t.val ≤ nI (2 * w.val + 1) - nI t.val then (1000 * ((2 * (((100 - nI n.val) * (nI (2 * w.val + 1) - nI t.val)) + (nI n.val * (nI (2 * w.val + 1) - (nI (2 * w.val + 1) - nI t.val))))) - (100 * nI (2 * w.val + 1)))) / (100 * nI (2 * w.val + 1)) else (1000 * ((2 * (((100 - nI n.val) * nI t.val) + (nI n.val * (nI (2 * w.val + 1) - nI t.val)))) - (100 * nI (2 * w.val + 1)))) / (100 * nI (2 * w.val + 1))) := by decide +kernel
theorem p_worth_s (h : SS Ls nc nh nl nb ns al be ed lw ri sd ta th wa f) {r : LR} {k : Nat} (hk : k < nl) (hk8 : k < 8) (hr : lawR r f k) (h1 : ¬ wI (nI k) 0 (nI nl - 1) = 0) (l2 l3 l4 : Int32) (p1 p2 p3 p4 p5 p6 p7 p8 : Int32) (s1 s2 s3 s4 s5 s6 : Int32) (fb tr : Nat → Int32) :
    ∃ (z : Int32) (fl : FL) (sr : SR), fX11_worth_s r.2.2.2.2.2.2.2.1 r.1 r.2.2.2.2.1 r.2.2.2.2.2.1 p1 p2 p3 p4 p5 p6 p7 p8 (nI nc) (nI nh) (nI nl) r.2.2.2.2.2.2.2.2 be ed lw ri wa (nI k) l2 l3 l4 = some (z, fl) ∧ fX12_worth s1 s2 s3 s4 s5 s6 fb f tr (nI k) l2 l3 l4 = some (z, sr) := by
  have hS := h
  obtain ⟨⟨hc, hh, hl, hb, hs, e0, e1, e2, e4, e3⟩, -⟩ := h
  by_cases h2 : wI l2 0 (nI nh - 1) = 0
  · exact ⟨-1001, (p1, p2, p3, p4, p5, p6, p7, p8), (s1, s2, s3, s4, s5, s6, fb, tr), by simp only [fX11_worth_s, i11_hand, ob, h2, if_true], by simp only [fX12_worth, m_there hS, ob, h1, h2, if_true, if_false]⟩
  by_cases h3 : wI l3 0 (nI nc - 1) = 0
  · exact ⟨-1001, (p1, p2, p3, p4, p5, p6, p7, p8), (s1, s2, s3, s4, s5, s6, fb, tr), by simp only [fX11_worth_s, i11_hand, i11_coin, ob, h2, h3, if_true, if_false], by simp only [fX12_worth, m_there hS, ob, h1, h2, h3, if_true, if_false]⟩
  by_cases h4 : wI l4 0 100 = 0
  · exact ⟨-1002, (p1, p2, p3, p4, p5, p6, p7, p8), (s1, s2, s3, s4, s5, s6, fb, tr), by simp only [fX11_worth_s, i11_hand, i11_coin, i11_percent, ob, h2, h3, h4, if_true, if_false], by simp only [fX12_worth, m_there hS, wI_in, ob, h1, h2, h3, h4, if_true, if_false, show ¬ (1 : Int32) = 0 from by decide]⟩
  have n2 := h2
  have n3 := h3
  have n4 := h4
  obtain ⟨hd, hhd, rfl⟩ := wI_lt (by omega) h2
  obtain ⟨c, hcc', rfl⟩ := wI_lt (by omega) h3
  obtain ⟨n, -, hn, rfl⟩ := wI_ge (a := 0) (b := 100) (by decide) (by decide) h4
  have hh6 : hd < 6 := by omega
  have hc6 : c < 6 := by omega
  obtain ⟨w, t, fl, sr, hw, ew, g8, ht, j1, j2⟩ := times_eq hS (y := 1) hk8 hr hc6 hh6 (by decide) p1 p2 p3 p4 p5 p6 p7 p8 s1 s2 s3 s4 s5 s6 fb tr
  have j1' : fX11_timesHeads r.2.2.2.2.2.2.2.1 r.1 r.2.2.2.2.1 r.2.2.2.2.2.1 p1 p2 p3 p4 p5 p6 p7 p8 r.2.2.2.2.2.2.2.2 be ed ri wa (nI hd) (nI c) (1 : Int32) = some (nI t, fl) := j1
  have j2' : fX12_headsFrom s1 s2 s3 s4 s5 s6 fb f tr (nI k) (nI hd) (nI c) (1 : Int32) = some (nI t, sr) := j2
  have hne : ¬ nI (2 * w + 1) = 0 := nI_ne0 (by omega) (by omega)
  have hne2 : ¬ (100 : Int32) * nI (2 * w + 1) = 0 := by
    rw [show (100 : Int32) * nI (2 * w + 1) = nI (100 * (2 * w + 1)) from pk_mul 100 _]
    exact nI_ne0 (by omega) (by omega)
  have hnum := worth_num ⟨w, by omega⟩ ⟨n, by omega⟩ ⟨t, by omega⟩ ht
  dsimp only at hnum
  refine ⟨((10 * (if 0 ≤ ((2 * nI t) - nI (2 * w + 1)) then ((2 * nI t) - nI (2 * w + 1)) else 0 - ((2 * nI t) - nI (2 * w + 1)))) * (100 - (2 * nI n))) / nI (2 * w + 1), fl, sr, ?_, ?_⟩
  · unfold fX11_worth_s
    rw [i11_hand, ob, if_neg n2, i11_coin, ob, if_neg n3, i11_percent, ob, if_neg n4, rises_eq hh6 hw ew, ob, j1', ob, if_neg hne]
  · unfold fX12_worth fX12_worth_b75
    rw [m_there hS, ob, if_neg h1, if_neg n2, if_neg n3, if_neg (by decide), wI_in, ob, if_neg n4, if_neg (ix_ (K := 148) (n := hd) (N := 1394) (by omega) (by decide)), cl_ (K := 148) (n := hd) (by omega), j2', ob, g8, show (2 : Int32) * nI w = nI (2 * w) from pk_mul 2 w, nI_1, if_neg hne2, if_neg hne2]
    dsimp only
    rw [hnum]
    by_cases q : nI t ≤ nI (2 * w + 1) - nI t
    · rw [if_pos q, if_pos q]
    · rw [if_neg q, if_neg q]
end CB
