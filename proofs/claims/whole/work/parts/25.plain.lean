/-! the plain calls: class and reference answer alike -/
section PL
variable {Ls : List LR} {nc nh nl nb ns : Nat} {al be ed : Nat → Int32} {lw : Nat → Option Nat} {ri sd ta th wa f : Nat → Int32}
theorem ne_lit {n N : Nat} (h : n < N) (hN : N < 2 ^ 31) : ¬ nI n = (OfNat.ofNat N : Int32) := by
  intro e
  have := (nI_eq (a := n) (b := N) (by omega) hN).mp e
  omega
theorem q_ge {n N : Nat} (h : n < N) (hN : N < 2 ^ 31) : ¬ (OfNat.ofNat N : Int32) ≤ nI n := nI_ge h hN
theorem q_le {n N : Nat} (h : N ≤ n) (hn : n < 2 ^ 31) : (OfNat.ofNat N : Int32) ≤ nI n := nI_le h hn
theorem q_lt {n N : Nat} (h : N < n) (hn : n < 2 ^ 31) : (OfNat.ofNat N : Int32) < nI n := nI_lt h hn
theorem q_nlt {n N : Nat} (h : n ≤ N) (hN : N < 2 ^ 31) : ¬ (OfNat.ofNat N : Int32) < nI n := nI_nlt h hN
theorem r_le {n N : Nat} (h : n ≤ N) (hN : N < 2 ^ 31) : nI n ≤ (OfNat.ofNat N : Int32) := nI_le h hN
theorem r_nle {n N : Nat} (h : N < n) (hn : n < 2 ^ 31) : ¬ nI n ≤ (OfNat.ofNat N : Int32) := nI_ge h hn
theorem r_lt {n N : Nat} (h : n < N) (hN : N < 2 ^ 31) : nI n < (OfNat.ofNat N : Int32) := nI_lt h hN
theorem r_nlt {n N : Nat} (h : N ≤ n) (hn : n < 2 ^ 31) : ¬ nI n < (OfNat.ofNat N : Int32) := nI_nlt h hn
theorem p_coin (h : SS Ls nc nh nl nb ns al be ed lw ri sd ta th wa f) (l1 l2 : Int32) :
    ∃ (z : Int32) (nc' : Nat) (be' ed' f' : Nat → Int32), fX11_coin (nI nc) be ed l1 l2 = some (z, nI nc', be', ed') ∧ fX12_coin f l1 l2 = some (z, f') ∧ SS Ls nc' nh nl nb ns al be' ed' lw ri sd ta th wa f' := by
  have hS := h
  obtain ⟨⟨hc, hh, hl, hb, hs, e0, e1, e2, e4, e3⟩, ⟨a1, a2, a3, a4, a5, a6, a7, a8⟩, ⟨v1, v2, v3, v4, v5, v6, v7⟩, hw⟩ := h
  by_cases h1 : wI l1 0 9 = 0
  · exact ⟨-2, nc, be, ed, f, by simp only [fX11_coin, wI_is, ob, h1, if_true], by simp only [fX12_coin, wI_in, ob, h1, if_true], hS⟩
  · by_cases h2 : wI l2 0 9 = 0
    · exact ⟨-2, nc, be, ed, f, by simp only [fX11_coin, wI_is, ob, h1, h2, if_true, if_false], by simp only [fX12_coin, wI_in, ob, h1, h2, if_true, if_false], hS⟩
    · by_cases h3 : nc < 6
      · obtain ⟨j1, -, hj1, rfl⟩ := wI_ge (a := 0) (b := 9) (by decide) (by decide) h1
        obtain ⟨j2, -, hj2, rfl⟩ := wI_ge (a := 0) (b := 9) (by decide) (by decide) h2
        have c1 : nI nc < 6 := nI_lt (b := 6) h3 (by decide)
        have c2 : ¬ (nI nc < 0 ∨ 6 ≤ (nI nc).toNatClampNeg) := nI_in h3 (by decide)
        have c3 : ¬ nI nc = 6 := ne_lit h3 (by decide)
        have i1 := ix_ (K := 130) (n := nc) (N := 1394) (by omega) (by decide)
        have i2 := ix_ (K := 136) (n := nc) (N := 1394) (by omega) (by decide)
        have k1 := cl_ (K := 130) (n := nc) (by omega)
        have k2 := cl_ (K := 136) (n := nc) (by omega)
        have u1 : upd f (130 + nI nc).toNatClampNeg (nI j1) 0 = nI nc := by rw [k1, pk_un (by omega), e0]
        have u2 : upd (upd f (130 + nI nc).toNatClampNeg (nI j1)) (136 + nI nc).toNatClampNeg (nI j2) 0 = nI nc := by rw [k2, pk_un (by omega), u1]
        refine ⟨nI nc, nc + 1, upd be nc (nI j2), upd ed nc (nI j1), upd (upd (upd f (130 + nc) (nI j1)) (136 + nc) (nI j2)) 0 (nI (nc + 1)), ?_, ?_, ⟨by omega, hh, hl, hb, hs, ?_, ?_, ?_, ?_, ?_⟩, ⟨?_, ?_, ?_, ?_, ?_, ?_, ?_, ?_⟩, ⟨upto_upd v1 hj2, upto_upd v2 hj1, v3, v4, v5, v6, fun hh1 c hh2 hc2 hn => v7 hh1 c hh2 hc2 (by omega)⟩, SSlaw_upd hl (by omega) (SSlaw_upd hl (by omega) (SSlaw_upd hl (by omega) hw))⟩
        · simp only [fX11_coin, wI_is, ob, h1, h2, c1, c2, if_true, if_false]
          rw [nI_clamp (by omega), nI_1]
        · simp only [fX12_coin, wI_in, ob, h1, h2, e0, c3, i1, u1, i2, u2, if_true, if_false]
          rw [pk_us, k1, k2, nI_1, nI_pred]
        · exact pk_us
        · rw [pk_un (by omega), pk_un (by omega), pk_un (by omega)]; exact e1
        · rw [pk_un (by omega), pk_un (by omega), pk_un (by omega)]; exact e2
        · rw [pk_un (by omega), pk_un (by omega), pk_un (by omega)]; exact e4
        · rw [pk_un (by omega), pk_un (by omega), pk_un (by omega)]; exact e3
        · exact agr_skip (agr_skip (agr_skip a1 (by omega)) (by omega)) (by omega)
        · exact agr_skip (agr_upd (agr_skip a2 (by omega))) (by omega)
        · exact agr_skip (agr_skip (agr_upd a3) (by omega)) (by omega)
        · exact agr_skip (agr_skip (agr_skip a4 (by omega)) (by omega)) (by omega)
        · exact agr_skip (agr_skip (agr_skip a5 (by omega)) (by omega)) (by omega)
        · exact agr_skip (agr_skip (agr_skip a6 (by omega)) (by omega)) (by omega)
        · exact agr_skip (agr_skip (agr_skip a7 (by omega)) (by omega)) (by omega)
        · exact agr_skip (agr_skip (agr_skip a8 (by omega)) (by omega)) (by omega)
      · have e6 : nc = 6 := by omega
        have c1 : ¬ nI nc < 6 := by rw [e6]; decide
        have c3 : nI nc = 6 := by rw [e6]; rfl
        exact ⟨-4, nc, be, ed, f, by simp only [fX11_coin, wI_is, ob, h1, h2, c1, if_true, if_false], by simp only [fX12_coin, wI_in, ob, h1, h2, e0, c3, if_true, if_false], hS⟩
theorem p_hand (h : SS Ls nc nh nl nb ns al be ed lw ri sd ta th wa f) (l1 l2 : Int32) :
    ∃ (z : Int32) (nh' : Nat) (ri' wa' f' : Nat → Int32), fX11_hand (nI nh) ri wa l1 l2 = some (z, nI nh', ri', wa') ∧ fX12_hand f l1 l2 = some (z, f') ∧ SS Ls nc nh' nl nb ns al be ed lw ri' sd ta th wa' f' := by
  have hS := h
  obtain ⟨⟨hc, hh, hl, hb, hs, e0, e1, e2, e4, e3⟩, ⟨a1, a2, a3, a4, a5, a6, a7, a8⟩, ⟨v1, v2, v3, v4, v5, v6, v7⟩, hw⟩ := h
  by_cases h1 : wI l1 1 30 = 0
  · exact ⟨-2, nh, ri, wa, f, by simp only [fX11_hand, wI_is, ob, h1, if_true], by simp only [fX12_hand, wI_in, ob, h1, if_true], hS⟩
  · by_cases h2 : wI l2 0 9 = 0
    · exact ⟨-2, nh, ri, wa, f, by simp only [fX11_hand, wI_is, ob, h1, h2, if_true, if_false], by simp only [fX12_hand, wI_in, ob, h1, h2, if_true, if_false], hS⟩
    · by_cases h3 : nh < 6
      · obtain ⟨j1, -, hj1, rfl⟩ := wI_ge (a := 1) (b := 30) (by decide) (by decide) h1
        obtain ⟨j2, -, hj2, rfl⟩ := wI_ge (a := 0) (b := 9) (by decide) (by decide) h2
        have c1 : nI nh < 6 := nI_lt (b := 6) h3 (by decide)
        have c2 : ¬ (nI nh < 0 ∨ 6 ≤ (nI nh).toNatClampNeg) := nI_in h3 (by decide)
        have c3 : ¬ nI nh = 6 := ne_lit h3 (by decide)
        have i1 := ix_ (K := 142) (n := nh) (N := 1394) (by omega) (by decide)
        have i2 := ix_ (K := 148) (n := nh) (N := 1394) (by omega) (by decide)
        have k1 := cl_ (K := 142) (n := nh) (by omega)
        have k2 := cl_ (K := 148) (n := nh) (by omega)
        have u1 : upd f (142 + nI nh).toNatClampNeg (nI j1) 1 = nI nh := by rw [k1, pk_un (by omega), e1]
        have u2 : upd (upd f (142 + nI nh).toNatClampNeg (nI j1)) (148 + nI nh).toNatClampNeg (nI j2) 1 = nI nh := by rw [k2, pk_un (by omega), u1]
        refine ⟨nI nh, nh + 1, upd ri nh (nI j1), upd wa nh (nI j2), upd (upd (upd f (142 + nh) (nI j1)) (148 + nh) (nI j2)) 1 (nI (nh + 1)), ?_, ?_, ⟨hc, by omega, hl, hb, hs, ?_, ?_, ?_, ?_, ?_⟩, ⟨?_, ?_, ?_, ?_, ?_, ?_, ?_, ?_⟩, ⟨v1, v2, upto_upd v3 hj1, upto_upd v4 hj2, v5, v6, v7⟩, SSlaw_upd hl (by omega) (SSlaw_upd hl (by omega) (SSlaw_upd hl (by omega) hw))⟩
        · simp only [fX11_hand, wI_is, ob, h1, h2, c1, c2, if_true, if_false]
          rw [nI_clamp (by omega), nI_1]
        · simp only [fX12_hand, wI_in, ob, h1, h2, e1, c3, i1, u1, i2, u2, if_true, if_false]
          rw [pk_us, k1, k2, nI_1, nI_pred]
        · rw [pk_un (by omega), pk_un (by omega), pk_un (by omega)]; exact e0
        · exact pk_us
        · rw [pk_un (by omega), pk_un (by omega), pk_un (by omega)]; exact e2
        · rw [pk_un (by omega), pk_un (by omega), pk_un (by omega)]; exact e4
        · rw [pk_un (by omega), pk_un (by omega), pk_un (by omega)]; exact e3
        · exact agr_skip (agr_skip (agr_skip a1 (by omega)) (by omega)) (by omega)
        · exact agr_skip (agr_skip (agr_skip a2 (by omega)) (by omega)) (by omega)
        · exact agr_skip (agr_skip (agr_skip a3 (by omega)) (by omega)) (by omega)
        · exact agr_skip (agr_skip (agr_upd a4) (by omega)) (by omega)
        · exact agr_skip (agr_skip (agr_skip a5 (by omega)) (by omega)) (by omega)
        · exact agr_skip (agr_skip (agr_skip a6 (by omega)) (by omega)) (by omega)
        · exact agr_skip (agr_skip (agr_skip a7 (by omega)) (by omega)) (by omega)
        · exact agr_skip (agr_upd (agr_skip a8 (by omega))) (by omega)
      · have e6 : nh = 6 := by omega
        have c1 : ¬ nI nh < 6 := by rw [e6]; decide
        have c3 : nI nh = 6 := by rw [e6]; rfl
        exact ⟨-4, nh, ri, wa, f, by simp only [fX11_hand, wI_is, ob, h1, h2, c1, if_true, if_false], by simp only [fX12_hand, wI_in, ob, h1, h2, e1, c3, if_true, if_false], hS⟩
/-! sums over the coins -/
def sI (g : Nat → Int32) : Nat → Int32
  | 0 => 0
  | n + 1 => sI g n + g n
theorem sI_congr {g g' : Nat → Int32} : ∀ {n : Nat}, (∀ j, j < n → g j = g' j) → sI g n = sI g' n
  | 0, _ => rfl
  | n + 1, h => by rw [sI, sI, sI_congr (fun j hj => h j (by omega)), h n (by omega)]
theorem sI_more {g : Nat → Int32} {n : Nat} : ∀ m, n ≤ m → (∀ j, n ≤ j → j < m → g j = 0) → sI g m = sI g n
  | 0, h, _ => by have e : n = 0 := by omega
                  rw [e]
  | m + 1, h, h2 => by
    rcases Nat.lt_or_ge m n with q | q
    · have e : n = m + 1 := by omega
      rw [e]
    · rw [sI, h2 m q (by omega), sI_more m q (fun j a b => h2 j a (by omega))]
      exact Int32.add_zero _
theorem sI_nat {g : Nat → Int32} {N : Nat} : ∀ n : Nat, (∀ j, j < n → ∃ v : Nat, v ≤ N ∧ g j = nI v) → ∃ v : Nat, v ≤ n * N ∧ sI g n = nI v
  | 0, _ => ⟨0, by omega, rfl⟩
  | n + 1, h => by
    obtain ⟨v, h1, h2⟩ := sI_nat n (fun j hj => h j (by omega))
    obtain ⟨w, h3, h4⟩ := h n (by omega)
    refine ⟨v + w, ?_, ?_⟩
    · rw [Nat.succ_mul]; omega
    · rw [sI, h2, h4, nI_add]
theorem at6 (K h c : Nat) : ((OfNat.ofNat K : Int32) + (6 * nI h)) + nI c = nI (K + (6 * h + c)) := by
  rw [show (6 : Int32) * nI h = nI (6 * h) from pk_mul 6 h, show (OfNat.ofNat K : Int32) + nI (6 * h) = nI (K + 6 * h) from nI_add _ _, nI_add, Nat.add_assoc]
theorem at6c (h c : Nat) : (nI h * 6) + nI c = nI (6 * h + c) := by
  rw [show nI h * (6 : Int32) = nI (h * 6) from pk_mul h 6, nI_add, Nat.mul_comm]
theorem allOf_L {K h : Nat} (hK : K ≤ 190) (hh : h < 6) : ∀ (m i n : Nat), i + m = 6 → m < n → fX12_allOf_L5 f (OfNat.ofNat K) (nI h) n (sI (fun c => f (K + (6 * h + c))) i) (nI i) = some (sI (fun c => f (K + (6 * h + c))) 6)
  | m, i, 0, _, hn => absurd hn (by omega)
  | 0, i, n + 1, hi, _ => by
    have e : i = 6 := by omega
    subst e
    rw [fX12_allOf_L5, if_pos (by decide)]
  | m + 1, i, n + 1, hi, hn => by
    rw [fX12_allOf_L5, if_neg (q_ge (N := 6) (n := i) (by omega) (by decide)), at6, if_neg (nI_in (by omega) (by decide)), nI_clamp (by omega), nI_1]
    exact allOf_L hK hh m (i + 1) n (by omega) (by omega)
theorem allOf_eq {K h : Nat} (hK : K ≤ 190) (hh : h < 6) : fX12_allOf f (OfNat.ofNat K) (nI h) = some (sI (fun c => f (K + (6 * h + c))) 6) := allOf_L (f := f) hK hh 6 0 2000 rfl (by decide)
theorem sumOf_L {g : Nat → Int32} {h : Nat} (hh : h < 6) (hc : nc ≤ 6) : ∀ (m i n : Nat), i + m = nc → m < n → fX6_sumOf_L5 36 (nI nc) g (nI h) n (sI (fun c => g (6 * h + c)) i) (nI i) = some (sI (fun c => g (6 * h + c)) nc)
  | m, i, 0, _, hn => absurd hn (by omega)
  | 0, i, n + 1, hi, _ => by
    have e : i = nc := by omega
    subst e
    rw [fX6_sumOf_L5, if_pos (nI_le (Nat.le_refl _) (by omega))]
  | m + 1, i, n + 1, hi, hn => by
    rw [fX6_sumOf_L5, if_neg (nI_ge (by omega) (by omega)), at6c, if_neg (nI_in (by omega) (by decide)), nI_clamp (by omega), nI_1]
    exact sumOf_L hh hc m (i + 1) n (by omega) (by omega)
theorem sumOf_eq {g : Nat → Int32} {h : Nat} (hh : h < 6) (hc : nc ≤ 6) : fX6_sumOf 36 (nI nc) g (nI h) = some (sI (fun c => g (6 * h + c)) nc) := sumOf_L hh hc nc 0 2000 (by omega) (by omega)
/-- all THROWS of a hand; those that were the same -/
theorem p_sums (h : SS Ls nc nh nl nb ns al be ed lw ri sd ta th wa f) {k : Nat} (hk : k < 6) :
    ∃ n s : Nat, s ≤ n ∧ n ≤ 5994 ∧ fX6_allThrown (nI nc) th (nI k) = some (nI n) ∧ fX6_allAlike (nI nc) al (nI k) = some (nI s) ∧ fX12_allOf f 154 (nI k) = some (nI n) ∧ fX12_allOf f 190 (nI k) = some (nI s) := by
  obtain ⟨⟨hc, hh, hl, hb, hs, e0, e1, e2, e4, e3⟩, ⟨a1, a2, a3, a4, a5, a6, a7, a8⟩, ⟨v1, v2, v3, v4, v5, v6, v7⟩, hw⟩ := h
  have q : ∀ m, m ≤ 6 → ∃ n s : Nat, s ≤ n ∧ n ≤ m * 999 ∧ sI (fun c => th (6 * k + c)) m = nI n ∧ sI (fun c => al (6 * k + c)) m = nI s := by
    intro m
    induction m with
    | zero => intro _; exact ⟨0, 0, by omega, by omega, rfl, rfl⟩
    | succ m ih =>
      intro hm
      obtain ⟨n, s, h1, h2, h3, h4⟩ := ih (by omega)
      obtain ⟨n2, s2, h5, h6, h7, h8⟩ := v6 (6 * k + m) (by omega)
      refine ⟨n + n2, s + s2, by omega, by omega, ?_, ?_⟩
      · rw [sI, h3, h7, nI_add]
      · rw [sI, h4, h8, nI_add]
  obtain ⟨n, s, h1, h2, h3, h4⟩ := q 6 (by omega)
  have t1 : sI (fun c => th (6 * k + c)) nc = nI n := by rw [← h3]; exact (sI_more 6 hc (fun j b1 b2 => (v7 k j hk b2 b1).1)).symm
  have t2 : sI (fun c => al (6 * k + c)) nc = nI s := by rw [← h4]; exact (sI_more 6 hc (fun j b1 b2 => (v7 k j hk b2 b1).2)).symm
  refine ⟨n, s, h1, by omega, ?_, ?_, ?_, ?_⟩
  · unfold fX6_allThrown; rw [sumOf_eq hk hc, ob, t1]
  · unfold fX6_allAlike; rw [sumOf_eq hk hc, ob, t2]
  · rw [← h3]
    have e := allOf_eq (f := f) (K := 154) (by decide) hk
    rw [show fX12_allOf f 154 (nI k) = _ from e]
    exact congrArg some (sI_congr (fun j hj => (a7 (6 * k + j) (by omega)).symm))
  · rw [← h4]
    have e := allOf_eq (f := f) (K := 190) (by decide) hk
    rw [show fX12_allOf f 190 (nI k) = _ from e]
    exact congrArg some (sI_congr (fun j hj => (a1 (6 * k + j) (by omega)).symm))
theorem p_leans (h : SS Ls nc nh nl nb ns al be ed lw ri sd ta th wa f) {k : Nat} (hk : k < 6) :
    ∃ z : Int32, fX11_leaning (nI nc) al th (nI k) = some z ∧ fX12_leansOf f (nI k) = some z := by
  obtain ⟨n, s, h1, h2, h3, h4, h5, h6⟩ := p_sums h hk
  by_cases hz : nI n = 0
  · exact ⟨-5, by simp only [fX11_leaning, h3, ob, hz, if_true], by simp only [fX12_leansOf, h5, ob, hz, if_true]⟩
  · exact ⟨1000 * nI s / nI n, by simp only [fX11_leaning, h3, h4, ob, hz, if_false], by simp only [fX12_leansOf, h5, h6, ob, hz, if_false]⟩
theorem p_of (h : SS Ls nc nh nl nb ns al be ed lw ri sd ta th wa f) (l1 l2 : Int32) : ∃ z : Int32, fX11_of (nI nc) (nI nh) al ri th wa l1 l2 = some z ∧ fX12_of f l1 l2 = some z := by
  have hS := h
  obtain ⟨⟨hc, hh, hl, hb, hs, e0, e1, e2, e4, e3⟩, ⟨a1, a2, a3, a4, a5, a6, a7, a8⟩, ⟨v1, v2, v3, v4, v5, v6, v7⟩, hw⟩ := h
  by_cases h1 : wI l1 0 (nI nh - 1) = 0
  · exact ⟨-1, by simp only [fX11_of, i11_hand, ob, h1, if_true], by simp only [fX12_of, i12_hand, ob, e1, h1, if_true]⟩
  · obtain ⟨k, hk, rfl⟩ := wI_lt (by omega) h1
    have hk6 : k < 6 := by omega
    obtain ⟨n, s, -, -, h3, h4, h5, h6⟩ := p_sums hS hk6
    obtain ⟨z, h7, h8⟩ := p_leans hS hk6
    have c2 : ¬ (nI k < 0 ∨ 6 ≤ (nI k).toNatClampNeg) := nI_in hk6 (by decide)
    have i1 := ix_ (K := 142) (n := k) (N := 1394) (by omega) (by decide)
    have i2 := ix_ (K := 148) (n := k) (N := 1394) (by omega) (by decide)
    have k1 := cl_ (K := 142) (n := k) (by omega)
    have k2 := cl_ (K := 148) (n := k) (by omega)
    by_cases q0 : l2 = 0
    · refine ⟨ri k, ?_, ?_⟩
      · simp only [fX11_of, i11_hand, ob, h1, q0, c2, if_true, if_false]
        rw [nI_clamp (by omega)]
      · simp only [fX12_of, i12_hand, ob, e1, h1, q0, i1, if_true, if_false]
        rw [k1, a4 k hk6]
    · by_cases q1 : l2 = 1
      · refine ⟨wa k, ?_, ?_⟩
        · simp only [fX11_of, i11_hand, ob, h1, q0, q1, c2, if_true, if_false, show ¬ (1 : Int32) = 0 from by decide]
          rw [nI_clamp (by omega)]
        · simp only [fX12_of, i12_hand, ob, e1, h1, q0, q1, i2, if_true, if_false, show ¬ (1 : Int32) = 0 from by decide]
          rw [k2, a8 k hk6]
      · by_cases q2 : l2 = 2
        · exact ⟨z, by simp only [fX11_of, i11_hand, ob, h1, q0, q1, q2, h7, if_true, if_false, show ¬ (2 : Int32) = 0 from by decide, show ¬ (2 : Int32) = 1 from by decide], by simp only [fX12_of, i12_hand, ob, e1, h1, q0, q1, q2, h8, if_true, if_false, show ¬ (2 : Int32) = 0 from by decide, show ¬ (2 : Int32) = 1 from by decide]⟩
        · by_cases q3 : l2 = 3
          · exact ⟨nI n, by simp only [fX11_of, i11_hand, ob, h1, q0, q1, q2, q3, h3, if_true, if_false, show ¬ (3 : Int32) = 0 from by decide, show ¬ (3 : Int32) = 1 from by decide, show ¬ (3 : Int32) = 2 from by decide], by simp only [fX12_of, i12_hand, ob, e1, h1, q0, q1, q2, q3, h5, if_true, if_false, show ¬ (3 : Int32) = 0 from by decide, show ¬ (3 : Int32) = 1 from by decide, show ¬ (3 : Int32) = 2 from by decide]⟩
          · by_cases q4 : l2 = 4
            · exact ⟨nI s, by simp only [fX11_of, i11_hand, ob, h1, q0, q1, q2, q3, q4, h4, if_true, if_false, show ¬ (4 : Int32) = 0 from by decide, show ¬ (4 : Int32) = 1 from by decide, show ¬ (4 : Int32) = 2 from by decide, show ¬ (4 : Int32) = 3 from by decide], by simp only [fX12_of, i12_hand, ob, e1, h1, q0, q1, q2, q3, q4, h6, if_true, if_false, show ¬ (4 : Int32) = 0 from by decide, show ¬ (4 : Int32) = 1 from by decide, show ¬ (4 : Int32) = 2 from by decide, show ¬ (4 : Int32) = 3 from by decide]⟩
            · exact ⟨-1, by simp only [fX11_of, i11_hand, ob, h1, q0, q1, q2, q3, q4, if_false], by simp only [fX12_of, i12_hand, ob, e1, h1, q0, q1, q2, q3, q4, if_false]⟩
theorem p_counts (h : SS Ls nc nh nl nb ns al be ed lw ri sd ta th wa f) (l1 l2 l3 l4 : Int32) :
    ∃ (z : Int32) (al' th' f' : Nat → Int32), fX11_counts (nI nc) (nI nh) al th l1 l2 l3 l4 = some (z, al', th') ∧ fX12_counts f l1 l2 l3 l4 = some (z, f') ∧ SS Ls nc nh nl nb ns al' be ed lw ri sd ta th' wa f' := by
  have hS := h
  obtain ⟨⟨hc, hh, hl, hb, hs, e0, e1, e2, e4, e3⟩, ⟨a1, a2, a3, a4, a5, a6, a7, a8⟩, ⟨v1, v2, v3, v4, v5, v6, v7⟩, hw⟩ := h
  by_cases h1 : wI l1 0 (nI nh - 1) = 0
  · exact ⟨-1, al, th, f, by simp only [fX11_counts, i11_hand, ob, h1, if_true], by simp only [fX12_counts, i12_hand, ob, e1, h1, if_true], hS⟩
  by_cases h2 : wI l2 0 (nI nc - 1) = 0
  · exact ⟨-1, al, th, f, by simp only [fX11_counts, i11_hand, i11_coin, ob, h1, h2, if_true, if_false], by simp only [fX12_counts, i12_hand, i12_coin, ob, e1, e0, h1, h2, if_true, if_false], hS⟩
  by_cases h3 : wI l3 0 999 = 0
  · exact ⟨-2, al, th, f, by simp only [fX11_counts, i11_hand, i11_coin, wI_is, ob, h1, h2, h3, if_true, if_false], by simp only [fX12_counts, i12_hand, i12_coin, wI_in, ob, e1, e0, h1, h2, h3, if_true, if_false], hS⟩
  by_cases h4 : wI l4 0 l3 = 0
  · exact ⟨-2, al, th, f, by simp only [fX11_counts, i11_hand, i11_coin, wI_is, ob, h1, h2, h3, h4, if_true, if_false], by simp only [fX12_counts, i12_hand, i12_coin, wI_in, ob, e1, e0, h1, h2, h3, h4, if_true, if_false], hS⟩
  obtain ⟨k, hk, rfl⟩ := wI_lt (by omega) h1
  obtain ⟨c, hcc, rfl⟩ := wI_lt (by omega) h2
  obtain ⟨n, -, hn, rfl⟩ := wI_ge (a := 0) (b := 999) (by decide) (by decide) h3
  obtain ⟨s, -, hsn, rfl⟩ := wI_ge (a := 0) (b := n) (by decide) (by omega) h4
  have i1 : ¬ (nI (154 + (6 * k + c)) < 0 ∨ 1394 ≤ (nI (154 + (6 * k + c))).toNatClampNeg) := nI_in (by omega) (by decide)
  have i2 : ¬ (nI (190 + (6 * k + c)) < 0 ∨ 1394 ≤ (nI (190 + (6 * k + c))).toNatClampNeg) := nI_in (by omega) (by decide)
  have i3 : ¬ (nI (6 * k + c) < 0 ∨ 36 ≤ (nI (6 * k + c)).toNatClampNeg) := nI_in (by omega) (by decide)
  have m1 : ((154 : Int32) + (6 * nI k)) + nI c = nI (154 + (6 * k + c)) := at6 154 k c
  have m2 : ((190 : Int32) + (6 * nI k)) + nI c = nI (190 + (6 * k + c)) := at6 190 k c
  have m3 := at6c k c
  refine ⟨th (6 * k + c), upd al (6 * k + c) (nI s), upd th (6 * k + c) (nI n), upd (upd f (154 + (6 * k + c)) (nI n)) (190 + (6 * k + c)) (nI s), ?_, ?_, ⟨hc, hh, hl, hb, hs, ?_, ?_, ?_, ?_, ?_⟩, ⟨?_, ?_, ?_, ?_, ?_, ?_, ?_, ?_⟩, ⟨v1, v2, v3, v4, v5, ?_, ?_⟩, SSlaw_upd hl (by omega) (SSlaw_upd hl (by omega) hw)⟩
  · simp only [fX11_counts, i11_hand, i11_coin, wI_is, ob, h1, h2, h3, h4, m3, i3, if_true, if_false]
    rw [nI_clamp (by omega)]
  · simp only [fX12_counts, i12_hand, i12_coin, wI_in, ob, e1, e0, h1, h2, h3, h4, m1, m2, i1, i2, if_true, if_false]
    rw [nI_clamp (by omega), nI_clamp (by omega), a7 (6 * k + c) (by omega)]
  · rw [pk_un (by omega), pk_un (by omega)]; exact e0
  · rw [pk_un (by omega), pk_un (by omega)]; exact e1
  · rw [pk_un (by omega), pk_un (by omega)]; exact e2
  · rw [pk_un (by omega), pk_un (by omega)]; exact e4
  · rw [pk_un (by omega), pk_un (by omega)]; exact e3
  · exact agr_upd (agr_skip a1 (by omega))
  · exact agr_skip (agr_skip a2 (by omega)) (by omega)
  · exact agr_skip (agr_skip a3 (by omega)) (by omega)
  · exact agr_skip (agr_skip a4 (by omega)) (by omega)
  · exact agr_skip (agr_skip a5 (by omega)) (by omega)
  · exact agr_skip (agr_skip a6 (by omega)) (by omega)
  · exact agr_skip (agr_upd a7) (by omega)
  · exact agr_skip (agr_skip a8 (by omega)) (by omega)
  · intro j hj
    by_cases e : j = 6 * k + c
    · subst e; exact ⟨n, s, hsn, hn, pk_us, pk_us⟩
    · rw [pk_un e, pk_un e]; exact v6 j hj
  · intro h' c' q1 q2 q3
    rw [pk_un (by omega), pk_un (by omega)]
    exact v7 h' c' q1 q2 q3
theorem p_row (h : SS Ls nc nh nl nb ns al be ed lw ri sd ta th wa f) (l1 : Int32) :
    ∃ (z : Int32) (ns' : Nat) (sd' f' : Nat → Int32), fX11_row (nI ns) sd l1 = some (z, nI ns', sd') ∧ fX12_row f l1 = some (z, f') ∧ SS Ls nc nh nl nb ns' al be ed lw ri sd' ta th wa f' := by
  have hS := h
  obtain ⟨⟨hc, hh, hl, hb, hs, e0, e1, e2, e4, e3⟩, ⟨a1, a2, a3, a4, a5, a6, a7, a8⟩, ⟨v1, v2, v3, v4, v5, v6, v7⟩, hw⟩ := h
  by_cases q : l1 = -1
  · subst q
    have w : ¬ wI (-1) (-1) 1 = 0 := by decide
    refine ⟨0, 0, sd, upd f 3 0, by simp only [fX11_row, wI_is, ob, w, if_true, if_false]; rfl, by simp only [fX12_row, if_true], ⟨hc, hh, hl, hb, by omega, ?_, ?_, ?_, ?_, pk_us⟩, ⟨agr_skip a1 (by omega), agr_skip a2 (by omega), agr_skip a3 (by omega), agr_skip a4 (by omega), agr_skip a5 (by omega), agr_skip a6 (by omega), agr_skip a7 (by omega), agr_skip a8 (by omega)⟩, ⟨v1, v2, v3, v4, v5, v6, v7⟩, SSlaw_upd hl (by omega) hw⟩
    · rw [pk_un (by omega)]; exact e0
    · rw [pk_un (by omega)]; exact e1
    · rw [pk_un (by omega)]; exact e2
    · rw [pk_un (by omega)]; exact e4
  · have hww : wI l1 (-1) 1 = wI l1 0 1 := by
      unfold wI
      have hq : ¬ l1.toInt = -1 := fun e => q (Int32.toInt_inj.1 e)
      by_cases hz : l1 < 0
      · rw [if_pos hz]
        have : l1 < -1 := by
          rw [fa_lt] at hz ⊢
          have e1 : (0 : Int32).toInt = 0 := rfl
          have e2 : (-1 : Int32).toInt = -1 := rfl
          omega
        rw [if_pos this]
      · rw [if_neg hz]
        have : ¬ l1 < -1 := by
          rw [fa_lt] at hz ⊢
          have e1 : (0 : Int32).toInt = 0 := rfl
          have e2 : (-1 : Int32).toInt = -1 := rfl
          omega
        rw [if_neg this]
    by_cases h1 : wI l1 0 1 = 0
    · exact ⟨-2, ns, sd, f, by simp only [fX11_row, wI_is, ob, hww, h1, if_true], by simp only [fX12_row, q, wI_in, ob, h1, if_true, if_false], hS⟩
    · by_cases h3 : ns < 16
      · have c1 : nI ns < 16 := nI_lt (b := 16) h3 (by decide)
        have c2 : ¬ (nI ns < 0 ∨ 16 ≤ (nI ns).toNatClampNeg) := nI_in h3 (by decide)
        have c3 : ¬ nI ns = 16 := ne_lit h3 (by decide)
        have i1 := ix_ (K := 1378) (n := ns) (N := 1394) (by omega) (by decide)
        have k1 := cl_ (K := 1378) (n := ns) (by omega)
        have u1 : upd f (1378 + nI ns).toNatClampNeg l1 3 = nI ns := by rw [k1, pk_un (by omega), e3]
        refine ⟨nI (ns + 1), ns + 1, upd sd ns l1, upd (upd f (1378 + ns) l1) 3 (nI (ns + 1)), ?_, ?_, ⟨hc, hh, hl, hb, by omega, ?_, ?_, ?_, ?_, pk_us⟩, ⟨?_, ?_, ?_, ?_, ?_, ?_, ?_, ?_⟩, ⟨v1, v2, v3, v4, v5, v6, v7⟩, SSlaw_upd hl (by omega) (SSlaw_upd hl (by omega) hw)⟩
        · simp only [fX11_row, wI_is, ob, hww, h1, q, c1, c2, if_true, if_false]
          rw [nI_clamp (by omega), nI_1]
        · simp only [fX12_row, q, wI_in, ob, h1, e3, c3, i1, u1, if_true, if_false]
          rw [pk_us, k1, nI_1]
        · rw [pk_un (by omega), pk_un (by omega)]; exact e0
        · rw [pk_un (by omega), pk_un (by omega)]; exact e1
        · rw [pk_un (by omega), pk_un (by omega)]; exact e2
        · rw [pk_un (by omega), pk_un (by omega)]; exact e4
        · exact agr_skip (agr_skip a1 (by omega)) (by omega)
        · exact agr_skip (agr_skip a2 (by omega)) (by omega)
        · exact agr_skip (agr_skip a3 (by omega)) (by omega)
        · exact agr_skip (agr_skip a4 (by omega)) (by omega)
        · exact agr_skip (agr_upd a5) (by omega)
        · exact agr_skip (agr_skip a6 (by omega)) (by omega)
        · exact agr_skip (agr_skip a7 (by omega)) (by omega)
        · exact agr_skip (agr_skip a8 (by omega)) (by omega)
      · have e6 : ns = 16 := by omega
        have c1 : ¬ nI ns < 16 := by rw [e6]; decide
        have c3 : nI ns = 16 := by rw [e6]; rfl
        exact ⟨-4, ns, sd, f, by simp only [fX11_row, wI_is, ob, hww, h1, q, c1, if_true, if_false], by simp only [fX12_row, q, wI_in, ob, h1, e3, c3, if_true, if_false], hS⟩
theorem p_count (h : SS Ls nc nh nl nb ns al be ed lw ri sd ta th wa f) (r l1 : Int32) : ∃ z : Int32, fX11_count r (nI nc) (nI nh) (nI nl) (nI nb) (nI ns) l1 = some z ∧ fX12_count r f l1 = some z := by
  obtain ⟨⟨hc, hh, hl, hb, hs, e0, e1, e2, e4, e3⟩, -⟩ := h
  have e : fX12_count r f l1 = fX11_count r (nI nc) (nI nh) (nI nl) (nI nb) (nI ns) l1 := by
    unfold fX12_count fX11_count
    rw [e0, e1, e2, e3, e4]
  rw [e]
  unfold fX11_count
  by_cases q0 : l1 = 0
  · exact ⟨_, if_pos q0, if_pos q0⟩
  rw [if_neg q0]
  by_cases q1 : l1 = 1
  · exact ⟨_, if_pos q1, if_pos q1⟩
  rw [if_neg q1]
  by_cases q2 : l1 = 2
  · exact ⟨_, if_pos q2, if_pos q2⟩
  rw [if_neg q2]
  by_cases q3 : l1 = 3
  · exact ⟨_, if_pos q3, if_pos q3⟩
  rw [if_neg q3]
  by_cases q4 : l1 = 4
  · exact ⟨_, if_pos q4, if_pos q4⟩
  rw [if_neg q4]
  by_cases q5 : l1 = 5
  · exact ⟨_, if_pos q5, if_pos q5⟩
  rw [if_neg q5]
  exact ⟨_, rfl, rfl⟩
theorem p_trace {r : Nat} {bc bm : Nat → Int32} (hr : r ≤ 1000) (hb : ∀ j, j < 20 → bc j = bm j) (l1 : Int32) : ∃ z : Int32, fX11_trace (nI r) bc l1 = some z ∧ fX12_trace (nI r) bm l1 = some z := by
  have key : ∀ m : Nat, m ≤ 20 → ∃ z : Int32, (Option.bind (fX11_isWithin l1 0 (nI m - 1)) (fun r1 => (if r1 = 0 then some (((-1) : Int32)) else (if l1 < 0 ∨ 20 ≤ l1.toNatClampNeg then none else some (bc l1.toNatClampNeg))))) = some z ∧ fX12_trace_b20 (nI r) bm l1 l1 0 (nI m) = some z := by
    intro m hm
    unfold fX12_trace_b20
    rw [wI_is, wI_in, ob, ob]
    by_cases h1 : wI l1 0 (nI m - 1) = 0
    · exact ⟨_, if_pos h1, if_pos h1⟩
    · obtain ⟨j, hj, rfl⟩ := wI_lt (by omega) h1
      have c2 : ¬ (nI j < 0 ∨ 20 ≤ (nI j).toNatClampNeg) := nI_in (by omega) (by decide)
      rw [if_neg h1, if_neg h1, if_neg c2, if_neg c2, nI_clamp (by omega)]
      exact ⟨_, rfl, congrArg some (hb j (by omega)).symm⟩
  unfold fX11_trace fX12_trace
  by_cases h20 : 20 ≤ r
  · rw [if_pos (q_le (N := 20) h20 (by omega))]
    have e : (if 20 < nI r then 20 else nI r) = nI 20 := by
      by_cases h21 : 20 < r
      · rw [if_pos (q_lt (N := 20) h21 (by omega))]; rfl
      · have : r = 20 := by omega
        rw [this]; rfl
    rw [e]
    exact key 20 (by omega)
  · rw [if_neg (q_ge (N := 20) (n := r) (by omega) (by decide)), if_neg (q_nlt (N := 20) (n := r) (by omega) (by decide))]
    exact key r (by omega)
theorem min30 (x : Int32) : (if x ≤ 30 then some x else some 30) = some (if x < 30 then x else 30) := by
  by_cases h : x < 30
  · rw [if_pos h]
    have : x ≤ 30 := by
      rw [fa_lt] at h; rw [fa_le]; omega
    rw [if_pos this]
  · rw [if_neg h]
    by_cases h2 : x ≤ 30
    · rw [if_pos h2]
      have : x = 30 := by
        rw [fa_lt] at h; rw [fa_le] at h2; rw [fa_eq]; omega
      rw [this]
    · rw [if_neg h2]
theorem max0 (x : Int32) : (if 0 ≤ x then some x else some 0) = some (if 0 < x then x else 0) := by
  by_cases h : 0 < x
  · rw [if_pos h]
    have : 0 ≤ x := by
      rw [fa_lt] at h; rw [fa_le]; omega
    rw [if_pos this]
  · rw [if_neg h]
    by_cases h2 : 0 ≤ x
    · rw [if_pos h2]
      have : x = 0 := by
        rw [fa_lt] at h; rw [fa_le] at h2; rw [fa_eq]; omega
      rw [this]
    · rw [if_neg h2]
theorem p_learns (h : SS Ls nc nh nl nb ns al be ed lw ri sd ta th wa f) (l1 l2 l3 l4 : Int32) : ∃ z : Int32, fX11_learns (nI nc) (nI nh) ri th wa l1 l2 l3 l4 = some z ∧ fX12_learns f l1 l2 l3 l4 = some z := by
  have hS := h
  obtain ⟨⟨hc, hh, hl, hb, hs, e0, e1, e2, e4, e3⟩, ⟨a1, a2, a3, a4, a5, a6, a7, a8⟩, ⟨v1, v2, v3, v4, v5, v6, v7⟩, hw⟩ := h
  by_cases h1 : wI l1 0 (nI nh - 1) = 0
  · exact ⟨-1, by simp only [fX11_learns, i11_hand, ob, h1, if_true], by simp only [fX12_learns, i12_hand, ob, e1, h1, if_true]⟩
  by_cases h2 : wI l4 0 1 = 0
  · exact ⟨-1, by simp only [fX11_learns, i11_hand, wI_is, ob, h1, h2, if_true, if_false], by simp only [fX12_learns, i12_hand, wI_in, ob, e1, h1, h2, if_true, if_false]⟩
  by_cases h3 : wI l2 0 9 = 0
  · exact ⟨-2, by simp only [fX11_learns, i11_hand, wI_is, ob, h1, h2, h3, if_true, if_false], by simp only [fX12_learns, i12_hand, wI_in, ob, e1, h1, h2, h3, if_true, if_false]⟩
  by_cases h4 : wI l3 0 9 = 0
  · exact ⟨-2, by simp only [fX11_learns, i11_hand, wI_is, ob, h1, h2, h3, h4, if_true, if_false], by simp only [fX12_learns, i12_hand, wI_in, ob, e1, h1, h2, h3, h4, if_true, if_false]⟩
  obtain ⟨k, hk, rfl⟩ := wI_lt (by omega) h1
  have hk6 : k < 6 := by omega
  obtain ⟨n, s, -, -, h5, h6, h7, h8⟩ := p_sums hS hk6
  have c2 : ¬ (nI k < 0 ∨ 6 ≤ (nI k).toNatClampNeg) := nI_in hk6 (by decide)
  have i1 := ix_ (K := 142) (n := k) (N := 1394) (by omega) (by decide)
  have i2 := ix_ (K := 148) (n := k) (N := 1394) (by omega) (by decide)
  have k1 := cl_ (K := 142) (n := k) (by omega)
  have k2 := cl_ (K := 148) (n := k) (by omega)
  by_cases q : l4 = 0
  · refine ⟨if ri k + nI n / 100 * l2 < 30 then ri k + nI n / 100 * l2 else 30, ?_, ?_⟩
    · simp only [fX11_learns, i11_hand, wI_is, ob, h1, h2, h3, h4, h5, q, c2, if_true, if_false, show ¬ wI 0 0 1 = 0 from by decide]
      rw [nI_clamp (by omega)]
    · simp only [fX12_learns, i12_hand, wI_in, ob, e1, h1, h2, h3, h4, h7, q, i1, i2, if_true, if_false, show ¬ wI 0 0 1 = 0 from by decide]
      rw [k1, ← a4 k hk6, Int32.mul_comm l2, min30]
  · refine ⟨if 0 < wa k - nI n / 100 * l3 then wa k - nI n / 100 * l3 else 0, ?_, ?_⟩
    · simp only [fX11_learns, i11_hand, wI_is, ob, h1, h2, h3, h4, h5, q, c2, if_true, if_false]
      rw [nI_clamp (by omega)]
    · simp only [fX12_learns, i12_hand, wI_in, ob, e1, h1, h2, h3, h4, h7, q, i1, i2, if_true, if_false]
      rw [k2, ← a8 k hk6, Int32.mul_comm l3, max0]
end PL
