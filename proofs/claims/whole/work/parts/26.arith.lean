/-! choices, greatest divisors, fractions -/
section AR
variable {Ls : List LR} {nc nh nl nb ns : Nat} {al be ed : Nat → Int32} {lw : Nat → Option Nat} {ri sd ta th wa f : Nat → Int32}
def bino : Nat → Nat → Nat
  | _, 0 => 1
  | 0, _ + 1 => 0
  | n + 1, k + 1 => bino n k + bino n (k + 1)
theorem bino_0 (n : Nat) : bino n 0 = 1 := by cases n <;> rfl
theorem bino_le : ∀ n k, bino n k ≤ 2 ^ n
  | n, 0 => by rw [bino_0]; exact Nat.one_le_two_pow
  | 0, k + 1 => by rw [bino]; exact Nat.zero_le _
  | n + 1, k + 1 => by
    have h1 := bino_le n k
    have h2 := bino_le n (k + 1)
    rw [bino, Nat.pow_succ]
    omega
theorem bino_zero : ∀ {n k : Nat}, n < k → bino n k = 0
  | 0, k + 1, _ => by rw [bino]
  | n + 1, k + 1, h => by rw [bino, bino_zero (by omega), bino_zero (by omega)]
theorem bino_step : ∀ n k m, n = k + m → bino n (k + 1) * (k + 1) = bino n k * m
  | 0, k, m, h => by
    have e1 : k = 0 := by omega
    have e2 : m = 0 := by omega
    subst e1; subst e2; rfl
  | n + 1, 0, m, h => by
    have ih : bino n 1 * 1 = 1 * n := by
      have q := bino_step n 0 n (by omega)
      rw [bino_0] at q
      exact q
    have e : m = n + 1 := by omega
    subst e
    rw [bino_0]
    show (bino n 0 + bino n 1) * 1 = 1 * (n + 1)
    rw [bino_0]
    omega
  | n + 1, k + 1, m, h => by
    have hk : n = k + m := by omega
    have ih1 := bino_step n k m hk
    show (bino n (k + 1) + bino n (k + 2)) * (k + 2) = (bino n k + bino n (k + 1)) * m
    cases m with
    | zero =>
      rw [bino_zero (n := n) (k := k + 1) (by omega), bino_zero (n := n) (k := k + 2) (by omega)]
      simp
    | succ m =>
      have ih2 : bino n (k + 2) * (k + 2) = bino n (k + 1) * m := bino_step n (k + 1) m (by omega)
      rw [Nat.add_mul, Nat.add_mul, ih2, ← ih1, ← Nat.mul_add, ← Nat.mul_add]
      congr 1
      omega
theorem bino_div {n i : Nat} (h : i < n) : bino n i * (n - i) / (i + 1) = bino n (i + 1) := by
  have e := bino_step n i (n - i) (by omega)
  rw [← e]
  exact Nat.mul_div_cancel _ (by omega)
theorem pow_small {n : Nat} (h : n ≤ 30) : 2 ^ n ≤ 1073741824 := Nat.le_trans (Nat.pow_le_pow_right (by decide) h) (by decide)
theorem choose_L {n k : Nat} (hn : n ≤ 30) (hk : k ≤ n) : ∀ (m i u : Nat), i + m = k → m < u → fX12_choose_L5 (nI n) (nI k) u (lN (bino n i)) (nI i) = some (lN (bino n k))
  | m, i, 0, _, h => absurd h (by omega)
  | 0, i, u + 1, h, _ => by
    have e : i = k := by omega
    subst e
    rw [fX12_choose_L5, if_pos (nI_le (Nat.le_refl _) (by omega))]
  | m + 1, i, u + 1, h, hu => by
    have hb := bino_le n i
    have hp := pow_small hn
    have hm : bino n i * (n - i) ≤ 1073741824 * 30 := Nat.mul_le_mul (by omega) (by omega)
    have z : ¬ lN (i + 1) = 0 := fun e => by
      have := (lN_eq (a := i + 1) (b := 0) (by omega) (by decide)).mp e
      omega
    rw [fX12_choose_L5, if_neg (nI_ge (by omega) (by omega)), nI_1, nI_l (by omega), if_neg z, pk_sub (by omega), nI_l (by omega), lN_mul, pk_lDiv (by omega) (by omega) (by omega), bino_div (by omega)]
    exact choose_L hn hk m (i + 1) u (by omega) (by omega)
theorem choose_eq {n k : Nat} (hn : n ≤ 30) (hk : k ≤ n) : fX12_choose (nI n) (nI k) = some (lN (bino n k)) := by
  have e := choose_L hn hk k 0 2000 (by omega) (by omega)
  rw [bino_0] at e
  exact e
theorem choices_L {n k : Nat} (hn : n ≤ 30) (hk : k ≤ n) : ∀ (m i u : Nat), i + m = k → m < u → fX11_choices_L5 (nI n) (nI k) u (lN (bino n i)) (nI (i + 1)) = some (lN (bino n k))
  | m, i, 0, _, h => absurd h (by omega)
  | 0, i, u + 1, h, _ => by
    have e : i = k := by omega
    subst e
    rw [fX11_choices_L5, if_pos (nI_lt (by omega) (by omega))]
  | m + 1, i, u + 1, h, hu => by
    have hb := bino_le n i
    have hp := pow_small hn
    have hm : bino n i * (n - i) ≤ 1073741824 * 30 := Nat.mul_le_mul (by omega) (by omega)
    have z : ¬ lN (i + 1) = 0 := fun e => by
      have := (lN_eq (a := i + 1) (b := 0) (by omega) (by decide)).mp e
      omega
    rw [fX11_choices_L5, if_neg (nI_nlt (by omega) (by omega)), nI_l (n := i + 1) (by omega), if_neg z, pk_sub (by omega), nI_1, show n - (i + 1) + 1 = n - i from by omega, nI_l (by omega), lN_mul, pk_lDiv (by omega) (by omega) (by omega), bino_div (by omega), nI_1]
    exact choices_L hn hk m (i + 1) u (by omega) (by omega)
theorem choices_eq {n k : Nat} (hn : n ≤ 30) (hk : k ≤ n) : fX11_choices (nI n) (nI k) = some (lN (bino n k)) := by
  have e := choices_L hn hk k 0 2000 (by omega) (by omega)
  rw [bino_0] at e
  exact e
def bsum (n : Nat) : Nat → Nat → Nat
  | _, 0 => 0
  | k, m + 1 => bino n k + bsum n (k + 1) m
theorem bsum_le (n : Nat) : ∀ m k, bsum n k m ≤ m * 2 ^ n
  | 0, k => by rw [bsum]; exact Nat.zero_le _
  | m + 1, k => by
    have h1 := bsum_le n m (k + 1)
    have h2 := bino_le n k
    rw [bsum, Nat.succ_mul]
    omega
theorem between_L {n t : Nat} (hn : n ≤ 30) (ht : t ≤ n) : ∀ (m i u a : Nat), i + m = t + 1 → m < u → fX11_choicesBetween_L5 (nI n) (nI t) u (lN a) (nI i) = some (lN (a + bsum n i m))
  | m, i, 0, a, _, h => absurd h (by omega)
  | 0, i, u + 1, a, h, _ => by
    rw [fX11_choicesBetween_L5, if_pos (nI_lt (by omega) (by omega)), bsum, Nat.add_zero]
  | m + 1, i, u + 1, a, h, hu => by
    rw [fX11_choicesBetween_L5, if_neg (nI_nlt (by omega) (by omega)), choices_eq hn (by omega), ob, lN_add, nI_1, between_L hn ht m (i + 1) u (a + bino n i) (by omega) (by omega), bsum, Nat.add_assoc]
theorem between_eq {n t k : Nat} (hn : n ≤ 30) (ht : t ≤ n) (hk : k ≤ t + 1) : fX11_choicesBetween (nI n) (nI k) (nI t) = some (lN (bsum n k (t + 1 - k))) := by
  have e := between_L hn ht (t + 1 - k) k 2000 0 (by omega) (by omega)
  rw [Nat.zero_add] at e
  exact e
/-! Euclid -/
theorem lgc0 {b : Nat} (hb : b < 2 ^ 63) : lg_cmp (lN b) 0 = 0 ↔ b = 0 := by
  unfold lg_cmp
  by_cases h : lN b > 0
  · rw [if_pos h]
    have h2 : (0 : Nat) < b := (pk_lLT (a := 0) (b := b) (by decide) hb).mp h
    constructor
    · intro e; exact absurd e (by decide)
    · intro e; omega
  · rw [if_neg h]
    have h2 : ¬ (0 : Nat) < b := fun q => h ((pk_lLT (a := 0) (b := b) (by decide) hb).mpr q)
    have e : b = 0 := by omega
    subst e
    exact ⟨fun _ => rfl, fun _ => rfl⟩
theorem lN_ne0 {b : Nat} (h0 : 0 < b) (hb : b < 2 ^ 63) : ¬ lN b = 0 := fun e => by
  have := (pk_lEQ (a := b) (b := 0) hb (by decide)).mp e
  omega
theorem half_mod {b r : Nat} (h0 : 0 < r) (h : r < b) : 2 * (b % r) < b := by
  rcases Nat.lt_or_ge b (2 * r) with q | q
  · have e : b % r = b - r := by
      rw [Nat.mod_eq_sub_mod (by omega)]
      exact Nat.mod_eq_of_lt (by omega)
    omega
  · have := Nat.mod_lt b h0
    omega
theorem divisor_L : ∀ (k a b u : Nat), a < 2 ^ 62 → b < 2 ^ k → k ≤ 62 → 2 * k + 1 ≤ u → fX12_divisor_L6 u (lN a) (lN b) = some (lN (Nat.gcd b a))
  | k, a, b, 0, _, _, _, h => absurd h (by omega)
  | k, a, 0, u + 1, _, _, _, _ => by
    rw [fX12_divisor_L6, if_pos ((lgc0 (by decide)).mpr rfl), Nat.gcd_zero_left]
  | 0, a, b + 1, u + 1, _, h, _, _ => absurd h (by omega)
  | k + 1, a, b + 1, u + 1, ha, hb, hk, hu => by
    have hb2 : b + 1 < 2 ^ 62 := Nat.lt_of_lt_of_le hb (Nat.pow_le_pow_right (by decide) hk)
    rw [fX12_divisor_L6, if_neg (fun e => by have := (lgc0 (b := b + 1) (by omega)).mp e; omega), if_neg (lN_ne0 (by omega) (by omega)), pk_lRem (by omega) (by omega) (by omega), Nat.gcd_rec]
    have hr := Nat.mod_lt a (show 0 < b + 1 by omega)
    generalize a % (b + 1) = r at hr ⊢
    obtain ⟨v, rfl⟩ : ∃ v, u = v + 1 := ⟨u - 1, by omega⟩
    cases r with
    | zero => rw [fX12_divisor_L6, if_pos ((lgc0 (by decide)).mpr rfl), Nat.gcd_zero_left]
    | succ r =>
      rw [fX12_divisor_L6, if_neg (fun e => by have := (lgc0 (b := r + 1) (by omega)).mp e; omega), if_neg (lN_ne0 (by omega) (by omega)), pk_lRem (by omega) (by omega) (by omega), Nat.gcd_rec]
      have h2 := half_mod (b := b + 1) (r := r + 1) (by omega) hr
      exact divisor_L k (r + 1) ((b + 1) % (r + 1)) v (by omega) (by rw [Nat.pow_succ] at hb; omega) (by omega) (by omega)
theorem common_L : ∀ (k a b u i : Nat), a < 2 ^ 62 → b < 2 ^ k → k ≤ 62 → 2 * k + 1 ≤ u → i + (2 * k + 1) ≤ 100 → fX11_commonDivisor_L3 u (lN a) (lN b) (nI i) = some (lN (Nat.gcd b a))
  | k, a, b, 0, i, _, _, _, h, _ => absurd h (by omega)
  | k, a, 0, u + 1, i, _, _, _, _, hi => by
    rw [fX11_commonDivisor_L3, if_neg (q_ge (N := 100) (by omega) (by decide)), if_pos ((lgc0 (by decide)).mpr rfl), Nat.gcd_zero_left]
  | 0, a, b + 1, u + 1, i, _, h, _, _, _ => absurd h (by omega)
  | k + 1, a, b + 1, u + 1, i, ha, hb, hk, hu, hi => by
    have hb2 : b + 1 < 2 ^ 62 := Nat.lt_of_lt_of_le hb (Nat.pow_le_pow_right (by decide) hk)
    rw [fX11_commonDivisor_L3, if_neg (q_ge (N := 100) (by omega) (by decide)), if_neg (fun e => by have := (lgc0 (b := b + 1) (by omega)).mp e; omega), if_neg (lN_ne0 (by omega) (by omega)), pk_lRem (by omega) (by omega) (by omega), Nat.gcd_rec, nI_1]
    have hr := Nat.mod_lt a (show 0 < b + 1 by omega)
    generalize a % (b + 1) = r at hr ⊢
    obtain ⟨v, rfl⟩ : ∃ v, u = v + 1 := ⟨u - 1, by omega⟩
    cases r with
    | zero => rw [fX11_commonDivisor_L3, if_neg (q_ge (N := 100) (by omega) (by decide)), if_pos ((lgc0 (by decide)).mpr rfl), Nat.gcd_zero_left]
    | succ r =>
      rw [fX11_commonDivisor_L3, if_neg (q_ge (N := 100) (by omega) (by decide)), if_neg (fun e => by have := (lgc0 (b := r + 1) (by omega)).mp e; omega), if_neg (lN_ne0 (by omega) (by omega)), pk_lRem (by omega) (by omega) (by omega), Nat.gcd_rec, nI_1]
      have h2 := half_mod (b := b + 1) (r := r + 1) (by omega) hr
      exact common_L k (r + 1) ((b + 1) % (r + 1)) v (i + 1 + 1) (by omega) (by rw [Nat.pow_succ] at hb; omega) (by omega) (by omega) (by omega)
theorem low_m {a b : Nat} (ha : a < 2 ^ 62) (h0 : 0 < b) (hb : b < 2 ^ 31) (p : Int32) : fX12_lowest (lN a) (lN b) p = some (lN ((if p = 0 then a else b) / Nat.gcd b a)) := by
  have hg : fX12_divisor (lN a) (lN b) = some (lN (Nat.gcd b a)) := divisor_L 31 a b 2000 ha hb (by decide) (by decide)
  have g0 : 0 < Nat.gcd b a := Nat.gcd_pos_of_pos_left _ h0
  have g1 : Nat.gcd b a ≤ b := Nat.gcd_le_left _ h0
  have z := lN_ne0 (b := Nat.gcd b a) g0 (by omega)
  unfold fX12_lowest fX12_lowest_b10
  rw [hg, ob, ob, if_neg z, if_neg z, pk_lDiv (by omega) g0 (by omega), pk_lDiv (by omega) g0 (by omega)]
  by_cases q : p = 0
  · rw [if_pos q, if_pos q]
  · rw [if_neg q, if_neg q]
theorem low_c {a b : Nat} (ha : a < 2 ^ 62) (h0 : 0 < b) (hb : b < 2 ^ 31) (p : Int32) : fX11_inLowest (lN a) (lN b) p = some (lN ((if p = 0 then a else b) / Nat.gcd b a)) := by
  have hg : fX11_commonDivisor (lN a) (lN b) = some (lN (Nat.gcd b a)) := common_L 31 a b 2000 0 ha hb (by decide) (by decide) (by decide)
  have g0 : 0 < Nat.gcd b a := Nat.gcd_pos_of_pos_left _ h0
  have g1 : Nat.gcd b a ≤ b := Nat.gcd_le_left _ h0
  have z := lN_ne0 (b := Nat.gcd b a) g0 (by omega)
  have z2 : ¬ lN (Nat.gcd b a) < (1 : Int64) := fun e => by
    have := (pk_lLT (a := Nat.gcd b a) (b := 1) (by omega) (by decide)).mp e
    omega
  unfold fX11_inLowest
  rw [hg, ob, if_neg z2, if_neg z, if_neg z, pk_lDiv (by omega) g0 (by omega), pk_lDiv (by omega) g0 (by omega)]
  by_cases q : p = 0
  · rw [if_pos q, if_pos q]
  · rw [if_neg q, if_neg q]
theorem shl1 {n : Nat} (h : n < 31) : (1 : Int64) <<< ((nI n).toInt64 &&& 63) = lN (2 ^ n) := by
  have : ∀ j : Fin 31, (1 : Int64) <<< ((nI j.val).toInt64 &&& 63) = lN (2 ^ j.val) := by decide +kernel
  exact this ⟨n, h⟩
/-! fair -/
theorem p_fair (l1 l2 : Int32) : ∃ z : Int32, fX11_fair l1 l2 = some z ∧ fX12_fair l1 l2 = some z := by
  by_cases h1 : wI l2 0 1 = 0
  · exact ⟨-1, by simp only [fX11_fair, i11_part, ob, h1, if_true], by simp only [fX12_fair, wI_in, ob, h1, if_true]⟩
  by_cases h2 : wI l1 1 99 = 0
  · exact ⟨-2, by simp only [fX11_fair, i11_part, wI_is, ob, h1, h2, if_true, if_false], by simp only [fX12_fair, wI_in, ob, h1, h2, if_true, if_false]⟩
  obtain ⟨p, hp1, hp2, rfl⟩ := wI_ge (a := 1) (b := 99) (by decide) (by decide) h2
  have hm : p * (100 - p) ≤ 99 * 99 := Nat.mul_le_mul hp2 (by omega)
  have hq : 0 < p * (100 - p) := Nat.mul_pos (by omega) (by omega)
  have e : (nI p * (100 - nI p)).toInt64 = lN (p * (100 - p)) := by
    rw [show (100 : Int32) - nI p = nI (100 - p) from pk_sub (a := 100) (by omega), pk_mul, nI_l (by omega)]
  have e2 : fX12_lowest (10000 : Int64) (lN (p * (100 - p))) l2 = _ := low_m (a := 10000) (by decide) hq (by omega) l2
  have e3 : fX11_inLowest (10000 : Int64) (lN (p * (100 - p))) l2 = _ := low_c (a := 10000) (by decide) hq (by omega) l2
  exact ⟨_, by simp only [fX11_fair, i11_part, wI_is, ob, h1, h2, e, e3, if_false]; rfl, by simp only [fX12_fair, wI_in, ob, h1, h2, e, e2, if_false]⟩
/-! far -/
theorem farL {n s : Nat} (k : Int64 → Option Int64) (l2 l3 : Int32) (hn : n ≤ 30) {t : Nat} (ht : t ≤ n) (hl : (if l2 = 0 then nI s else nI n) = nI t) : ∀ (m i u a : Nat), i + m = t + 1 → m < u → fX12_far_L70 k f l2 l3 (nI n) (nI s) u (lN a) (nI i) = k (lN (a + bsum n i m))
  | m, i, 0, a, _, h => absurd h (by omega)
  | 0, i, u + 1, a, h, _ => by
    have e : fX12_far_L70 k f l2 l3 (nI n) (nI s) (u + 1) (lN a) (nI i) = fX12_far_b83 (fX12_far_L70 k f l2 l3 (nI n) (nI s) u) k f l2 l3 (nI n) (nI s) (lN a) (nI i) (nI i) (nI t) := by
      rw [fX12_far_L70, ← hl]
      by_cases q : l2 = 0
      · rw [if_pos q, if_pos q]
      · rw [if_neg q, if_neg q]
    rw [e, fX12_far_b83, if_pos (nI_lt (by omega) (by omega)), bsum, Nat.add_zero]
  | m + 1, i, u + 1, a, h, hu => by
    have e : fX12_far_L70 k f l2 l3 (nI n) (nI s) (u + 1) (lN a) (nI i) = fX12_far_b83 (fX12_far_L70 k f l2 l3 (nI n) (nI s) u) k f l2 l3 (nI n) (nI s) (lN a) (nI i) (nI i) (nI t) := by
      rw [fX12_far_L70, ← hl]
      by_cases q : l2 = 0
      · rw [if_pos q, if_pos q]
      · rw [if_neg q, if_neg q]
    rw [e, fX12_far_b83, if_neg (nI_nlt (by omega) (by omega)), choose_eq hn (by omega), ob, lN_add, nI_1, farL k l2 l3 hn ht hl m (i + 1) u (a + bino n i) (by omega) (by omega), bsum, Nat.add_assoc]
theorem p_far (h : SS Ls nc nh nl nb ns al be ed lw ri sd ta th wa f) (l1 l2 l3 : Int32) : ∃ z : Int64, fX11_far (nI nc) (nI nh) al th l1 l2 l3 = some z ∧ fX12_far f l1 l2 l3 = some z := by
  have hS := h
  obtain ⟨⟨hc, hh, hl, hb, hs, e0, e1, e2, e4, e3⟩, -⟩ := h
  by_cases h1 : wI l1 0 (nI nh - 1) = 0
  · exact ⟨-9223372036854775808, by simp only [fX11_far, i11_hand, ob, h1, if_true], by simp only [fX12_far, i12_hand, ob, e1, h1, if_true]⟩
  by_cases h2 : wI l2 0 1 = 0
  · exact ⟨-9223372036854775808, by simp only [fX11_far, i11_hand, wI_is, ob, h1, h2, if_true, if_false], by simp only [fX12_far, i12_hand, wI_in, ob, e1, h1, h2, if_true, if_false]⟩
  by_cases h3 : wI l3 0 1 = 0
  · exact ⟨-9223372036854775808, by simp only [fX11_far, i11_hand, i11_part, wI_is, ob, h1, h2, h3, if_true, if_false], by simp only [fX12_far, i12_hand, wI_in, ob, e1, h1, h2, h3, if_true, if_false]⟩
  obtain ⟨k, hk, rfl⟩ := wI_lt (by omega) h1
  obtain ⟨n, s, hsn, hn, h5, h6, h7, h8⟩ := p_sums hS (k := k) (by omega)
  by_cases q : n ≤ 30
  · have c30 : nI n ≤ 30 := r_le (N := 30) q (by decide)
    have hp := pow_small q
    have hp0 : 0 < 2 ^ n := Nat.two_pow_pos n
    have hsh : (1 : Int64) <<< ((nI n).toInt64 &&& 63) = lN (2 ^ n) := shl1 (by omega)
    by_cases q0 : l2 = 0
    · have hbn := bino_le n s
      have e5 := farL (f := f) (n := n) (s := s) (fun l6_21 => (Option.bind (fX12_lowest l6_21 ((1 : Int64) <<< ((nI n).toInt64 &&& 63)) l3) (fun r22 => some (r22)))) l2 l3 q hsn (by rw [if_pos q0]) 1 s 2000 0 (by omega) (by decide)
      have e6 : bsum n s 1 = bino n s := by rw [bsum, bsum, Nat.add_zero]
      rw [e6, Nat.zero_add] at e5
      refine ⟨lN ((if l3 = 0 then bino n s else 2 ^ n) / Nat.gcd (2 ^ n) (bino n s)), ?_, ?_⟩
      · simp only [fX11_far, i11_hand, i11_part, wI_is, ob, h1, h2, h3, h5, h6, c30, q0, choices_eq q hsn, fX11_far_b82, hsh, if_true, if_false, show ¬ wI 0 0 1 = 0 from by decide]
        rw [low_c (by omega) hp0 (by omega), ob]
      · simp only [fX12_far, i12_hand, wI_in, ob, e1, h1, h2, h3, h7, h8, c30, if_true, if_false]
        refine e5.trans ?_
        show Option.bind (fX12_lowest (lN (bino n s)) ((1 : Int64) <<< ((nI n).toInt64 &&& 63)) l3) _ = _
        rw [hsh, low_m (by omega) hp0 (by omega), ob]
    · have hbs := bsum_le n (n + 1 - s) s
      have hbs2 : (n + 1 - s) * 2 ^ n ≤ 31 * 1073741824 := Nat.mul_le_mul (by omega) hp
      have e5 := farL (f := f) (n := n) (s := s) (fun l6_21 => (Option.bind (fX12_lowest l6_21 ((1 : Int64) <<< ((nI n).toInt64 &&& 63)) l3) (fun r22 => some (r22)))) l2 l3 q (Nat.le_refl n) (by rw [if_neg q0]) (n + 1 - s) s 2000 0 (by omega) (by omega)
      rw [Nat.zero_add] at e5
      refine ⟨lN ((if l3 = 0 then bsum n s (n + 1 - s) else 2 ^ n) / Nat.gcd (2 ^ n) (bsum n s (n + 1 - s))), ?_, ?_⟩
      · simp only [fX11_far, i11_hand, i11_part, wI_is, ob, h1, h2, h3, h5, h6, c30, q0, between_eq q (Nat.le_refl n) (show s ≤ n + 1 by omega), fX11_far_b82, hsh, if_true, if_false]
        rw [low_c (by omega) hp0 (by omega), ob]
      · simp only [fX12_far, i12_hand, wI_in, ob, e1, h1, h2, h3, h7, h8, c30, if_true, if_false]
        refine e5.trans ?_
        show Option.bind (fX12_lowest (lN (bsum n s (n + 1 - s))) ((1 : Int64) <<< ((nI n).toInt64 &&& 63)) l3) _ = _
        rw [hsh, low_m (by omega) hp0 (by omega), ob]
  · have c30 : ¬ nI n ≤ 30 := r_nle (N := 30) (by omega) (by omega)
    exact ⟨-9223372036854775808, by simp only [fX11_far, i11_hand, i11_part, wI_is, ob, h1, h2, h3, h5, h6, c30, if_true, if_false], by simp only [fX12_far, i12_hand, wI_in, ob, e1, h1, h2, h3, h7, c30, if_true, if_false]⟩
end AR
