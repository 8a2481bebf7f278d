/-! rows, made, differ, need, feed -/
section AS
variable {Ls : List LR} {nc nh nl nb ns : Nat} {al be ed : Nat → Int32} {lw : Nat → Option Nat} {ri sd ta th wa f : Nat → Int32}
def rR (sd : Nat → Int32) : Nat → Nat
  | 0 => 0
  | i + 1 => if 0 < i ∧ sd i = sd (i - 1) then rR sd i else rR sd i + 1
def rL (sd : Nat → Int32) : Nat → Nat
  | 0 => 0
  | i + 1 => if 0 < i ∧ sd i = sd (i - 1) then rL sd i + 1 else 1
def rM (sd : Nat → Int32) : Nat → Nat
  | 0 => 0
  | i + 1 => if rL sd (i + 1) ≤ rM sd i then rM sd i else rL sd (i + 1)
theorem rR_le (sd : Nat → Int32) : ∀ i, rR sd i ≤ i
  | 0 => Nat.le_refl 0
  | i + 1 => by
    have := rR_le sd i
    rw [rR]
    split <;> omega
theorem rR_pos (sd : Nat → Int32) : ∀ i, 1 ≤ rR sd (i + 1)
  | 0 => by rw [rR, if_neg (by omega)]; omega
  | i + 1 => by
    have := rR_pos sd i
    rw [rR]
    split <;> omega
theorem rL_le (sd : Nat → Int32) : ∀ i, rL sd i ≤ i
  | 0 => Nat.le_refl 0
  | i + 1 => by
    have := rL_le sd i
    rw [rL]
    split <;> omega
theorem rM_le (sd : Nat → Int32) : ∀ i, rM sd i ≤ i
  | 0 => Nat.le_refl 0
  | i + 1 => by
    have := rM_le sd i
    have := rL_le sd (i + 1)
    rw [rM]
    split <;> omega
theorem b69_0 (rec : Int32 → Int32 → Int32 → Int32 → Option (Int32)) (k : Int32 → Int32 → Option (Int32)) (l1 : Int32) {r L M i : Nat} (hM : M ≤ 100) : fX12_runs_b69 rec k f l1 (nI r) (nI L) (nI M) (nI i) 0 = rec (nI (r + 1)) (nI 1) (nI (if 1 ≤ M then M else 1)) (nI (i + 1)) := by
  unfold fX12_runs_b69
  rw [if_pos rfl]
  unfold fX12_runs_b82
  rw [if_pos rfl]
  unfold fX12_runs_b96
  rw [nI_1, nI_1]
  by_cases h : 1 ≤ M
  · rw [if_pos (q_le (N := 1) h (by omega)), if_pos h]; rfl
  · rw [if_neg (q_ge (N := 1) (by omega) (by decide)), if_neg h]; rfl
theorem b69_1 (rec : Int32 → Int32 → Int32 → Int32 → Option (Int32)) (k : Int32 → Int32 → Option (Int32)) (l1 : Int32) {r L M i : Nat} (hM : M ≤ 100) (hL : L ≤ 100) : fX12_runs_b69 rec k f l1 (nI r) (nI L) (nI M) (nI i) 1 = rec (nI r) (nI (L + 1)) (nI (if L + 1 ≤ M then M else L + 1)) (nI (i + 1)) := by
  unfold fX12_runs_b69
  rw [if_neg (by decide)]
  unfold fX12_runs_b82
  rw [if_neg (by decide)]
  unfold fX12_runs_b96
  rw [nI_1, nI_1, Int32.add_zero]
  by_cases h : L + 1 ≤ M
  · rw [if_pos (nI_le h (by omega)), if_pos h]
  · rw [if_neg (nI_ge (by omega) (by omega)), if_neg h]
theorem runs_L (hns : ns ≤ 16) (e3 : f 3 = nI ns) (a5 : agr 16 1378 sd f) (k : Int32 → Int32 → Option (Int32)) (l1 : Int32) : ∀ (m i u : Nat), i + m = ns → m < u → fX12_runs_L21 k f l1 u (nI (rR sd i)) (nI (rL sd i)) (nI (rM sd i)) (nI i) = k (nI (rR sd ns)) (nI (rM sd ns))
  | m, i, 0, _, h => absurd h (by omega)
  | 0, i, u + 1, h, _ => by
    have e : i = ns := by omega
    subst e
    rw [fX12_runs_L21, e3, if_pos (nI_le (Nat.le_refl _) (by omega))]
  | m + 1, 0, u + 1, h, hu => by
    rw [fX12_runs_L21, e3, if_neg (nI_ge (by omega) (by omega)), if_pos (show nI 0 ≤ 0 from by decide)]
    unfold fX12_runs_b68
    rw [b69_0 _ _ _ (by have := rM_le sd 0; omega)]
    have ih := runs_L hns e3 a5 k l1 m 1 u (by omega) (by omega)
    exact ih
  | m + 1, j + 1, u + 1, h, hu => by
    have m1 : (1378 : Int32) + nI (j + 1) = nI (1378 + (j + 1)) := nI_add 1378 (j + 1)
    have m2 : nI (1378 + (j + 1)) - 1 = nI (1378 + j) := nI_pred (1378 + j)
    have b1 := rM_le sd (j + 1)
    have b2 := rL_le sd (j + 1)
    rw [fX12_runs_L21, e3, if_neg (nI_ge (by omega) (by omega)), if_neg (nI_nle (by omega) (by omega)), m1, m2, if_neg (nI_in (by omega) (by decide)), if_neg (nI_in (by omega) (by decide)), nI_clamp (by omega), nI_clamp (by omega), ← a5 (j + 1) (by omega), ← a5 j (by omega)]
    have ih := runs_L hns e3 a5 k l1 m (j + 1 + 1) u (by omega) (by omega)
    by_cases hg : sd (j + 1) = sd j
    · have hg' : 0 < j + 1 ∧ sd (j + 1) = sd (j + 1 - 1) := ⟨by omega, hg⟩
      have q1 : rR sd (j + 1 + 1) = rR sd (j + 1) := by rw [rR, if_pos hg']
      have q2 : rL sd (j + 1 + 1) = rL sd (j + 1) + 1 := by rw [rL, if_pos hg']
      have q3 : rM sd (j + 1 + 1) = if rL sd (j + 1) + 1 ≤ rM sd (j + 1) then rM sd (j + 1) else rL sd (j + 1) + 1 := by rw [rM, q2]
      rw [if_pos hg, b69_1 _ _ _ (by omega) (by omega), ← q3, ← q2, ← q1]
      exact ih
    · have hg' : ¬ (0 < j + 1 ∧ sd (j + 1) = sd (j + 1 - 1)) := fun q => hg q.2
      have q1 : rR sd (j + 1 + 1) = rR sd (j + 1) + 1 := by rw [rR, if_neg hg']
      have q2 : rL sd (j + 1 + 1) = 1 := by rw [rL, if_neg hg']
      have q3 : rM sd (j + 1 + 1) = if 1 ≤ rM sd (j + 1) then rM sd (j + 1) else 1 := by rw [rM, q2]
      rw [if_neg hg]
      unfold fX12_runs_b68
      rw [b69_0 _ _ _ (by omega), ← q3, ← q1]
      rw [q2] at ih
      exact ih
theorem stretch_L (hns : ns ≤ 16) : ∀ (m i u : Nat), 1 ≤ i → i + m = ns → m < u → fX11_stretches_L18 (nI ns) sd u (nI (rR sd i)) (nI i) = some (nI (rR sd ns))
  | m, i, 0, _, _, h => absurd h (by omega)
  | m, 0, u + 1, h, _, _ => absurd h (by omega)
  | 0, i + 1, u + 1, _, h, _ => by
    have e : i + 1 = ns := by omega
    subst e
    rw [fX11_stretches_L18, if_pos (nI_le (Nat.le_refl _) (by omega))]
  | m + 1, j + 1, u + 1, _, h, hu => by
    rw [fX11_stretches_L18, if_neg (nI_ge (by omega) (by omega)), if_neg (nI_in (by omega) (by decide)), nI_pred, if_neg (nI_in (by omega) (by decide)), nI_clamp (by omega), nI_clamp (by omega), nI_1, nI_1]
    have ih := stretch_L hns m (j + 1 + 1) u (by omega) (by omega) (by omega)
    by_cases hg : sd (j + 1) = sd j
    · have hg' : 0 < j + 1 ∧ sd (j + 1) = sd (j + 1 - 1) := ⟨by omega, hg⟩
      have q1 : rR sd (j + 1 + 1) = rR sd (j + 1) := by rw [rR, if_pos hg']
      rw [if_pos hg, ← q1]; exact ih
    · have hg' : ¬ (0 < j + 1 ∧ sd (j + 1) = sd (j + 1 - 1)) := fun q => hg q.2
      have q1 : rR sd (j + 1 + 1) = rR sd (j + 1) + 1 := by rw [rR, if_neg hg']
      rw [if_neg hg, ← q1]; exact ih
theorem stretch_eq (hns : ns ≤ 16) : fX11_stretches (nI ns) sd = some (nI (rR sd ns)) := by
  unfold fX11_stretches fX11_stretches_b15
  cases ns with
  | zero => rw [if_pos (show nI 0 = 0 from rfl), fX11_stretches_L18, if_pos (show nI 0 ≤ 1 from by decide)]; rfl
  | succ n =>
    rw [if_neg (nI_ne0 (by omega) (by omega))]
    exact stretch_L hns n 1 2000 (by omega) (by omega) (by omega)
theorem maxi {a b : Nat} (ha : a < 2 ^ 31) (hb : b < 2 ^ 31) : (if nI a < nI b then nI b else nI a) = nI (if b ≤ a then a else b) := by
  by_cases h : a < b
  · rw [if_pos (nI_lt h hb), if_neg (by omega)]
  · rw [if_neg (nI_nlt (by omega) ha), if_pos (by omega)]
theorem longest_L (hns : ns ≤ 16) : ∀ (m i u : Nat), i + m = ns → m < u → fX11_longestStretch_L6 (nI ns) sd u (nI (rM sd i)) (nI (rL sd i)) (nI i) = some (nI (rM sd ns))
  | m, i, 0, _, h => absurd h (by omega)
  | 0, i, u + 1, h, _ => by
    have e : i = ns := by omega
    subst e
    rw [fX11_longestStretch_L6, if_pos (nI_le (Nat.le_refl _) (by omega))]
  | m + 1, 0, u + 1, h, hu => by
    rw [fX11_longestStretch_L6, if_neg (nI_ge (by omega) (by omega)), if_pos (show nI 0 ≤ 0 from by decide)]
    exact longest_L hns m 1 u (by omega) (by omega)
  | m + 1, j + 1, u + 1, h, hu => by
    have b1 := rM_le sd (j + 1)
    have b2 := rL_le sd (j + 1)
    rw [fX11_longestStretch_L6, if_neg (nI_ge (by omega) (by omega)), if_neg (nI_nle (by omega) (by omega)), if_neg (nI_in (by omega) (by decide)), nI_pred, if_neg (nI_in (by omega) (by decide)), nI_clamp (by omega), nI_clamp (by omega), nI_1]
    have ih := longest_L hns m (j + 1 + 1) u (by omega) (by omega)
    unfold fX11_longestStretch_b50 fX11_longestStretch_b51
    rw [nI_1]
    by_cases hg : sd (j + 1) = sd j
    · have hg' : 0 < j + 1 ∧ sd (j + 1) = sd (j + 1 - 1) := ⟨by omega, hg⟩
      have q2 : rL sd (j + 1 + 1) = rL sd (j + 1) + 1 := by rw [rL, if_pos hg']
      have q3 : rM sd (j + 1 + 1) = if rL sd (j + 1) + 1 ≤ rM sd (j + 1) then rM sd (j + 1) else rL sd (j + 1) + 1 := by rw [rM, q2]
      rw [if_pos hg, maxi (by omega) (by omega), ← q3, ← q2]
      exact ih
    · have hg' : ¬ (0 < j + 1 ∧ sd (j + 1) = sd (j + 1 - 1)) := fun q => hg q.2
      have q2 : rL sd (j + 1 + 1) = 1 := by rw [rL, if_neg hg']
      have q3 : rM sd (j + 1 + 1) = if 1 ≤ rM sd (j + 1) then rM sd (j + 1) else 1 := by rw [rM, q2]
      have e1 : (if nI (rM sd (j + 1)) < 1 then 1 else nI (rM sd (j + 1))) = nI (rM sd (j + 1 + 1)) := by rw [q3]; exact maxi (b := 1) (by omega) (by decide)
      rw [if_neg hg, e1]
      rw [q2] at ih
      exact ih
theorem longest_eq (hns : ns ≤ 16) : fX11_longestStretch (nI ns) sd = some (nI (rM sd ns)) := longest_L hns ns 0 2000 (by omega) (by omega)
theorem p_runs (h : SS Ls nc nh nl nb ns al be ed lw ri sd ta th wa f) (l1 : Int32) : ∃ z : Int32, fX11_runs (nI ns) sd l1 = some z ∧ fX12_runs f l1 = some z := by
  obtain ⟨⟨hc, hh, hl, hb, hs, e0, e1, e2, e4, e3⟩, ⟨a1, a2, a3, a4, a5, a6, a7, a8⟩, -⟩ := h
  have key : fX12_runs_L21 (fun l2_12 l4_13 => (if l1 = 0 then some (l2_12) else some (l4_13))) f l1 2000 0 0 0 0 = (if l1 = 0 then some (nI (rR sd ns)) else some (nI (rM sd ns))) := runs_L hs e3 a5 (fun l2_12 l4_13 => (if l1 = 0 then some (l2_12) else some (l4_13))) l1 ns 0 2000 (by omega) (by omega)
  by_cases q0 : l1 = 0
  · refine ⟨nI (rR sd ns), ?_, ?_⟩
    · unfold fX11_runs; rw [if_pos q0, stretch_eq hs, ob]
    · unfold fX12_runs
      rw [wI_in, ob, if_neg (by rw [q0]; decide), key, if_pos q0]
  · by_cases q1 : l1 = 1
    · refine ⟨nI (rM sd ns), ?_, ?_⟩
      · unfold fX11_runs; rw [if_neg q0, if_pos q1, longest_eq hs, ob]
      · unfold fX12_runs
        rw [wI_in, ob, if_neg (by rw [q1]; decide), key, if_neg q0]
    · refine ⟨-1, ?_, ?_⟩
      · unfold fX11_runs; rw [if_neg q0, if_neg q1]
      · unfold fX12_runs
        rw [wI_in, ob]
        by_cases w : wI l1 0 1 = 0
        · rw [if_pos w]
        · obtain ⟨j, -, hj, rfl⟩ := wI_ge (a := 0) (b := 1) (by decide) (by decide) w
          exfalso
          rcases Nat.lt_or_ge j 1 with r | r
          · have : j = 0 := by omega
            exact q0 (by rw [this]; rfl)
          · have : j = 1 := by omega
            exact q1 (by rw [this]; rfl)
theorem madeL {n R : Nat} (k : Int64 → Option Int32) (l1 : Int32) (hn : n + 1 ≤ 16) (hR : R ≤ n + 1) : ∀ (m i u a : Nat), i + m = R → m < u → fX12_made_L36 k f l1 (nI (n + 1)) (nI R) u (lN (2 * a)) (nI (i + 1)) = k (lN (2 * (a + bsum n i m)))
  | m, i, 0, a, _, h => absurd h (by omega)
  | 0, i, u + 1, a, h, _ => by
    rw [fX12_made_L36, if_pos (nI_lt (by omega) (by omega)), bsum, Nat.add_zero]
  | m + 1, i, u + 1, a, h, hu => by
    rw [fX12_made_L36, if_neg (nI_nlt (by omega) (by omega)), nI_pred, nI_pred, choose_eq (by omega) (by omega), ob, show (2 : Int64) * lN (bino n i) = lN (2 * bino n i) from lN_mul 2 _, lN_add, ← Nat.mul_add, nI_1, madeL k l1 hn hR m (i + 1) u (a + bino n i) (by omega) (by omega), bsum, Nat.add_assoc]
theorem p_made (h : SS Ls nc nh nl nb ns al be ed lw ri sd ta th wa f) (l1 : Int32) : ∃ z : Int32, fX11_made (nI ns) sd l1 = some z ∧ fX12_made f l1 = some z := by
  obtain ⟨⟨hc, hh, hl, hb, hs, e0, e1, e2, e4, e3⟩, ⟨a1, a2, a3, a4, a5, a6, a7, a8⟩, -⟩ := h
  by_cases h1 : wI l1 0 1 = 0
  · exact ⟨-1, by simp only [fX11_made, i11_part, ob, h1, if_true], by simp only [fX12_made, wI_in, ob, h1, if_true]⟩
  cases ns with
  | zero =>
    have z : nI 0 = 0 := rfl
    exact ⟨1, by simp only [fX11_made, i11_part, ob, h1, z, if_true, if_false], by simp only [fX12_made, wI_in, ob, h1, e3, z, if_true, if_false]⟩
  | succ n =>
    have z : ¬ nI (n + 1) = 0 := nI_ne0 (by omega) (by omega)
    have r1 := rR_pos sd n
    have r2 := rR_le sd (n + 1)
    have key : fX12_runs f 0 = some (nI (rR sd (n + 1))) := by
      unfold fX12_runs
      rw [wI_in, ob, if_neg (by decide)]
      exact runs_L hs e3 a5 (fun l2_12 l4_13 => (if (0 : Int32) = 0 then some (l2_12) else some (l4_13))) 0 (n + 1) 0 2000 (by omega) (by omega)
    have hbw := between_eq (n := n) (t := rR sd (n + 1) - 1) (k := 0) (by omega) (by omega) (by omega)
    have hp := pow_small (n := n) (by omega)
    have hp0 : 0 < 2 ^ n := Nat.two_pow_pos n
    have hbs := bsum_le n (rR sd (n + 1)) 0
    have hbs2 : rR sd (n + 1) * 2 ^ n ≤ 16 * 65536 := Nat.mul_le_mul (by omega) (Nat.le_trans (Nat.pow_le_pow_right (by decide) (show n ≤ 16 by omega)) (by decide))
    have hp2 : 2 ^ (n + 1) = 2 * 2 ^ n := by rw [Nat.pow_succ]; omega
    have hp3 : 2 ^ n ≤ 65536 := Nat.le_trans (Nat.pow_le_pow_right (by decide) (show n ≤ 16 by omega)) (by decide)
    refine ⟨(lN ((if l1 = 0 then bsum n 0 (rR sd (n + 1)) else 2 ^ n) / Nat.gcd (2 ^ n) (bsum n 0 (rR sd (n + 1))))).toInt32, ?_, ?_⟩
    · have e5 : nI (rR sd (n + 1)) - 1 = nI (rR sd (n + 1) - 1) := pk_sub (a := rR sd (n + 1)) (b := 1) r1
      rw [show rR sd (n + 1) - 1 + 1 - 0 = rR sd (n + 1) from by omega] at hbw
      simp only [fX11_made, i11_part, ob, h1, z, stretch_eq hs, if_false]
      rw [nI_pred, e5, show fX11_choicesBetween (nI n) 0 (nI (rR sd (n + 1) - 1)) = _ from hbw, ob, shl1 (by omega), low_c (by omega) hp0 (by omega), ob]
    · simp only [fX12_made, wI_in, ob, h1, e3, z, key, if_false]
      have e6 := madeL (f := f) (n := n) (R := rR sd (n + 1)) (fun l4_10 => (Option.bind (fX12_lowest l4_10 ((1 : Int64) <<< ((nI (n + 1)).toInt64 &&& 63)) l1) (fun r11 => some (r11.toInt32)))) l1 hs r2 (rR sd (n + 1)) 0 2000 0 (by omega) (by omega)
      refine Eq.trans e6 ?_
      show Option.bind (fX12_lowest _ ((1 : Int64) <<< ((nI (n + 1)).toInt64 &&& 63)) l1) _ = _
      rw [Nat.zero_add, shl1 (by omega), low_m (by omega) (Nat.two_pow_pos _) (by omega), ob, hp2, Nat.gcd_mul_left]
      have e7 : (if l1 = 0 then 2 * bsum n 0 (rR sd (n + 1)) else 2 * 2 ^ n) = 2 * (if l1 = 0 then bsum n 0 (rR sd (n + 1)) else 2 ^ n) := by split <;> rfl
      rw [e7, Nat.mul_div_mul_left _ _ (by decide)]
theorem p_differ_L (h : SS Ls nc nh nl nb ns al be ed lw ri sd ta th wa f) : ∀ (m i u : Nat) (l1 l2 l3 : Int32), i + m = nh → m < u → ∃ z : Int32, fX11_differ_L9 (fun l1_7 l2_8 l3_9 => (if 2 ≤ l1_7 then some ((l3_9 - l2_8)) else some (((-5) : Int32)))) (nI nc) (nI nh) al th u l1 l2 l3 (nI i) = some z ∧ fX12_differ_L9 (fun l1_9 l2_10 l3_11 => (if 2 ≤ l1_9 then some ((l2_10 - l3_11)) else some (((-5) : Int32)))) f u l1 l3 l2 (nI i) = some z := by
  have hS := h
  obtain ⟨⟨hc, hh, hl, hb, hs, e0, e1, e2, e4, e3⟩, -⟩ := h
  intro m
  induction m with
  | zero =>
    intro i u l1 l2 l3 hi hu
    obtain ⟨v, rfl⟩ : ∃ v, u = v + 1 := ⟨u - 1, by omega⟩
    have e : i = nh := by omega
    subst e
    have c := nI_le (Nat.le_refl i) (show i < 2 ^ 31 by omega)
    rw [fX11_differ_L9, fX12_differ_L9, e1, if_pos c, if_pos c]
    by_cases q : 2 ≤ l1
    · exact ⟨_, if_pos q, if_pos q⟩
    · exact ⟨_, if_neg q, if_neg q⟩
  | succ m ih =>
    intro i u l1 l2 l3 hi hu
    obtain ⟨v, rfl⟩ : ∃ v, u = v + 1 := ⟨u - 1, by omega⟩
    obtain ⟨z, h7, h8⟩ := p_leans hS (k := i) (by omega)
    have c : ¬ nI nh ≤ nI i := nI_ge (by omega) (by omega)
    rw [fX11_differ_L9, fX12_differ_L9, e1, if_neg c, if_neg c, h7, h8, ob, ob, nI_1]
    by_cases q5 : z = -5
    · rw [if_pos q5, if_pos q5]; exact ih (i + 1) v l1 l2 l3 (by omega) (by omega)
    rw [if_neg q5, if_neg q5]
    unfold fX11_differ_b54 fX12_differ_b45 fX12_differ_b51 fX12_differ_b62
    rw [nI_1]
    by_cases q0 : l1 = 0
    · simp only [if_pos q0]
      exact ih (i + 1) v (l1 + 1) z z (by omega) (by omega)
    · simp only [if_neg q0]
      have s1 : (if z < l2 then z else l2) = (if l2 ≤ z then l2 else z) := by
        by_cases q : z < l2
        · rw [if_pos q, if_neg (by rw [fa_lt] at q; rw [fa_le]; omega)]
        · rw [if_neg q, if_pos (by rw [fa_lt] at q; rw [fa_le]; omega)]
      have s2 : (if l3 < z then z else l3) = (if z ≤ l3 then l3 else z) := by
        by_cases q : l3 < z
        · rw [if_pos q, if_neg (by rw [fa_lt] at q; rw [fa_le]; omega)]
        · rw [if_neg q, if_pos (by rw [fa_lt] at q; rw [fa_le]; omega)]
      rw [s1, s2]
      by_cases q1 : z ≤ l3
      · simp only [if_pos q1]
        by_cases q2 : l2 ≤ z
        · simp only [if_pos q2]; exact ih (i + 1) v (l1 + 1) l2 l3 (by omega) (by omega)
        · simp only [if_neg q2]; exact ih (i + 1) v (l1 + 1) z l3 (by omega) (by omega)
      · simp only [if_neg q1]
        by_cases q2 : l2 ≤ z
        · simp only [if_pos q2]; exact ih (i + 1) v (l1 + 1) l2 z (by omega) (by omega)
        · simp only [if_neg q2]; exact ih (i + 1) v (l1 + 1) z z (by omega) (by omega)
theorem p_differ (h : SS Ls nc nh nl nb ns al be ed lw ri sd ta th wa f) : ∃ z : Int32, fX11_differ (nI nc) (nI nh) al th = some z ∧ fX12_differ f = some z := p_differ_L h nh 0 2000 0 0 0 (by omega) (by have := h.1.2.1; omega)
end AS
