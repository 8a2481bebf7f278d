/-! need, feed -/
section AN
variable {Ls : List LR} {nc nh nl nb ns : Nat} {al be ed : Nat → Int32} {lw : Nat → Option Nat} {ri sd ta th wa f : Nat → Int32}
def pw (b : Int64) : Nat → Int64
  | 0 => 1
  | n + 1 => pw b n * b
theorem pw12_L (b : Int64) {n : Nat} (hn : n ≤ 100) : ∀ (m i u : Nat), i + m = n → m < u → fX12_power_L5 b (nI n) u (pw b i) (nI i) = some (pw b n)
  | m, i, 0, _, h => absurd h (by omega)
  | 0, i, u + 1, h, _ => by
    have e : i = n := by omega
    subst e
    rw [fX12_power_L5, if_pos (nI_le (Nat.le_refl _) (by omega))]
  | m + 1, i, u + 1, h, hu => by
    rw [fX12_power_L5, if_neg (nI_ge (by omega) (by omega)), nI_1]
    exact pw12_L b hn m (i + 1) u (by omega) (by omega)
theorem pw12 (b : Int64) {n : Nat} (hn : n ≤ 100) : fX12_power b (nI n) = some (pw b n) := pw12_L b hn n 0 2000 (by omega) (by omega)
theorem pw11_L (b : Int64) {n : Nat} (hn : n ≤ 100) : ∀ (m i u : Nat), i + m = n → m < u → fX11_power_L5 b (nI n) u (pw b i) (nI i) = some (pw b n)
  | m, i, 0, _, h => absurd h (by omega)
  | 0, i, u + 1, h, _ => by
    have e : i = n := by omega
    subst e
    rw [fX11_power_L5, if_pos (nI_le (Nat.le_refl _) (by omega))]
  | m + 1, i, u + 1, h, hu => by
    rw [fX11_power_L5, if_neg (nI_ge (by omega) (by omega)), nI_1]
    exact pw11_L b hn m (i + 1) u (by omega) (by omega)
theorem pw11 (b : Int64) {n : Nat} (hn : n ≤ 100) : fX11_power b (nI n) = some (pw b n) := pw11_L b hn n 0 2000 (by omega) (by omega)
theorem pw_nat (b : Nat) : ∀ n, pw (lN b) n = lN (b ^ n)
  | 0 => rfl
  | n + 1 => by rw [pw, pw_nat b n, lN_mul, Nat.pow_succ]
/-- the sum of the odds, from i on -/
def tA (n : Nat) (p q : Int64) : Int64 → Nat → Nat → Int64
  | a, _, 0 => a
  | a, i, m + 1 => tA n p q (a + ((lN (bino n i) * pw p i) * pw q (n - i))) (i + 1) m
theorem needL63 {n : Nat} (k : Int64 → Int64 → Option Int32) (l1 l2 l3 l5 : Int32) (hn : n ≤ 8) : ∀ (m i u a : Nat) (x : Int64), i + m = n + 1 → m < u → fX12_need_L63 k l1 l2 l3 (nI n) l5 u x (lN a) (nI i) = k (tA n l1.toInt64 (100 - l1).toInt64 x i m) (lN (a + bsum n i m))
  | m, i, 0, a, x, _, h => absurd h (by omega)
  | 0, i, u + 1, a, x, h, _ => by
    rw [fX12_need_L63, if_pos (nI_lt (by omega) (by omega)), bsum, tA, Nat.add_zero]
  | m + 1, i, u + 1, a, x, h, hu => by
    rw [fX12_need_L63, if_neg (nI_nlt (by omega) (by omega)), choose_eq (by omega) (by omega), ob, pw12 _ (by omega), ob, pk_sub (by omega), pw12 _ (by omega), ob, ob, lN_add, nI_1, needL63 k l1 l2 l3 l5 hn m (i + 1) u (a + bino n i) _ (by omega) (by omega), bsum, tA, Nat.add_assoc]
theorem atLeastL {n : Nat} (p : Int32) (hn : n ≤ 8) : ∀ (m i u : Nat) (x : Int64), i + m = n + 1 → m < u → fX11_atLeast_L5 (nI n) p u x (nI i) = some (tA n p.toInt64 (100 - p).toInt64 x i m)
  | m, i, 0, x, _, h => absurd h (by omega)
  | 0, i, u + 1, x, h, _ => by
    rw [fX11_atLeast_L5, if_pos (nI_lt (by omega) (by omega)), tA]
  | m + 1, i, u + 1, x, h, hu => by
    rw [fX11_atLeast_L5, if_neg (nI_nlt (by omega) (by omega)), choices_eq (by omega) (by omega), ob, pw11 _ (by omega), ob, pk_sub (by omega), pw11 _ (by omega), ob, nI_1, atLeastL p hn m (i + 1) u _ (by omega) (by omega), tA]
theorem tA50 {n : Nat} : ∀ (m i a : Nat), i + m ≤ n + 1 → tA n (lN 50) (lN 50) (lN (50 ^ n * a)) i m = lN (50 ^ n * (a + bsum n i m))
  | 0, i, a, _ => by rw [tA, bsum, Nat.add_zero]
  | m + 1, i, a, h => by
    have e : bino n i * 50 ^ i * 50 ^ (n - i) = 50 ^ n * bino n i := by
      rw [Nat.mul_assoc, ← Nat.pow_add, show i + (n - i) = n from by omega, Nat.mul_comm]
    rw [tA, pw_nat, pw_nat, lN_mul, lN_mul, lN_add, e, ← Nat.mul_add, tA50 m (i + 1) (a + bino n i) (by omega), bsum, Nat.add_assoc]
theorem lgc_pos {a b : Nat} (ha : a < 2 ^ 63) (hb : b < 2 ^ 63) : 0 < lg_cmp (lN a) (lN b) ↔ b < a := by
  unfold lg_cmp
  by_cases h : b < a
  · rw [if_pos ((pk_lLT hb ha).mpr h)]
    exact ⟨fun _ => h, fun _ => by decide⟩
  · rw [if_neg (fun q => h ((pk_lLT hb ha).mp q))]
    constructor
    · intro q
      by_cases e : lN a = lN b
      · rw [if_pos e] at q; exact absurd q (by decide)
      · rw [if_neg e] at q; exact absurd q (by decide)
    · intro q; exact absurd q h
theorem even_cmp {n k b : Nat} (hn : n ≤ 8) (hk : k ≤ n) (hb : b ≤ 100) : (0 < lg_cmp (100 * lN (50 ^ n * bsum n k (n + 1 - k))) ((nI b).toInt64 * lN (100 ^ n))) ↔ (0 < lg_cmp (lN (bsum n k (n + 1 - k)) * 100) ((nI b).toInt64 * lN (2 ^ n))) := by
  have h1 := bsum_le n (n + 1 - k) k
  have p1 : 50 ^ n ≤ 50 ^ 8 := Nat.pow_le_pow_right (by decide) hn
  have p2 : 2 ^ n ≤ 2 ^ 8 := Nat.pow_le_pow_right (by decide) hn
  have p3 : 100 ^ n ≤ 100 ^ 8 := Nat.pow_le_pow_right (by decide) hn
  have h2 : bsum n k (n + 1 - k) ≤ 9 * 2 ^ 8 := Nat.le_trans h1 (Nat.mul_le_mul (by omega) p2)
  have p4 : 0 < 50 ^ n := Nat.pow_pos (by decide)
  generalize bsum n k (n + 1 - k) = E at h2 ⊢
  have e1 : 50 ^ n * E ≤ 50 ^ 8 * (9 * 2 ^ 8) := Nat.mul_le_mul p1 h2
  have e2 : b * 100 ^ n ≤ 100 * 100 ^ 8 := Nat.mul_le_mul hb p3
  have e3 : b * 2 ^ n ≤ 100 * 2 ^ 8 := Nat.mul_le_mul hb p2
  rw [nI_l (by omega), show (100 : Int64) * lN (50 ^ n * E) = lN (100 * (50 ^ n * E)) from lN_mul 100 _, lN_mul, show lN E * (100 : Int64) = lN (E * 100) from lN_mul E 100, lN_mul, lgc_pos (by omega) (by omega), lgc_pos (by omega) (by omega)]
  have e4 : b * 100 ^ n = 50 ^ n * (b * 2 ^ n) := by
    rw [show (100 : Nat) = 50 * 2 from rfl, Nat.mul_pow, Nat.mul_left_comm]
  have e5 : 100 * (50 ^ n * E) = 50 ^ n * (E * 100) := by
    rw [Nat.mul_left_comm, Nat.mul_comm E]
  rw [e4, e5]
  exact Nat.mul_lt_mul_left p4
theorem need_in {n : Nat} (kc km : Option Int32) (l1 l2 : Int32) {b : Nat} (hb : b ≤ 100) (hn : n ≤ 8) (h1 : 1 ≤ n) (hk : ∃ z : Int32, kc = some z ∧ km = some z) : ∀ (m i u v : Nat), i + m = n + 1 → m < u → m < v → ∃ z : Int32, fX11_need_L47 kc l1 l2 (nI b) (nI n) (lN (100 ^ n)) u (nI i) = some z ∧ fX12_need_L46 km l1 l2 (nI b) (nI n) v (nI i) = some z
  | m, i, 0, v, _, h, _ => absurd h (by omega)
  | m, i, u + 1, 0, _, _, h => absurd h (by omega)
  | 0, i, u + 1, v + 1, h, _, _ => by
    have c := nI_lt (a := n) (b := i) (by omega) (by omega)
    rw [fX11_need_L47, fX12_need_L46, if_pos c, if_pos c]
    exact hk
  | m + 1, i, u + 1, v + 1, h, hu, hv => by
    have c : ¬ nI n < nI i := nI_nlt (by omega) (by omega)
    obtain ⟨z, ih1, ih2⟩ := need_in kc km l1 l2 hb hn h1 hk m (i + 1) u v (by omega) (by omega) (by omega)
    have hm : m + 1 = n + 1 - i := by omega
    have e50 : fX11_atLeast (nI n) (nI i) 50 = some (lN (50 ^ n * bsum n i (n + 1 - i))) := by
      have q := atLeastL (n := n) 50 hn (m + 1) i 2000 0 (by omega) (by omega)
      have q2 := tA50 (n := n) (m + 1) i 0 (by omega)
      rw [Nat.zero_add, Nat.mul_zero] at q2
      rw [← hm]
      exact q.trans (congrArg some q2)
    have eP : fX11_atLeast (nI n) (nI i) l1 = some (tA n l1.toInt64 (100 - l1).toInt64 0 i (m + 1)) := atLeastL (n := n) l1 hn (m + 1) i 2000 0 (by omega) (by omega)
    have eM := needL63 (n := n) (fun l6_21 l8_22 => (Option.bind (fX12_power (100 : Int64) (nI n)) (fun r23 => (if (lg_cmp (l6_21 * 100) (l2.toInt64 * r23)) < 0 then (fX12_need_L46 km l1 l2 (nI b) (nI n) v (nI i + 1)) else (Option.bind (fX12_power (2 : Int64) (nI n)) (fun r26 => (if 0 < (lg_cmp (l8_22 * 100) ((nI b).toInt64 * r26)) then (fX12_need_L46 km l1 l2 (nI b) (nI n) v (nI i + 1)) else some (((10 * (nI n)) + (nI i)))))))))) l1 l2 (nI b) (nI i) hn (m + 1) i 2000 0 0 (by omega) (by omega)
    rw [Nat.zero_add] at eM
    have ec := even_cmp (n := n) (k := i) (b := b) hn (by omega) hb
    rw [fX11_need_L47, fX12_need_L46, if_neg c, if_neg c, eP, ob]
    have eM' := eM
    rw [show fX12_need_L63 _ l1 l2 (nI b) (nI n) (nI i) 2000 (0 : Int64) (0 : Int64) (nI i) = _ from eM']
    show ∃ z, _ = some z ∧ Option.bind (fX12_power (100 : Int64) (nI n)) _ = some z
    rw [show fX12_power (100 : Int64) (nI n) = some (lN (100 ^ n)) from (pw12 _ (by omega)).trans (congrArg some (pw_nat 100 n)), show fX12_power (2 : Int64) (nI n) = some (lN (2 ^ n)) from (pw12 _ (by omega)).trans (congrArg some (pw_nat 2 n)), ob, ob, nI_1, Int64.mul_comm (tA n l1.toInt64 (100 - l1).toInt64 0 i (m + 1))]
    unfold fX11_need_b80
    rw [e50, ob, nI_1, hm]
    by_cases q1 : lg_cmp (100 * tA n l1.toInt64 (100 - l1).toInt64 0 i (n + 1 - i)) (l2.toInt64 * lN (100 ^ n)) < 0
    · rw [if_pos q1, if_pos q1, if_pos rfl]
      exact ⟨z, ih1, ih2⟩
    · rw [if_neg q1, if_neg q1, if_neg (by decide)]
      by_cases q2 : 0 < lg_cmp (100 * lN (50 ^ n * bsum n i (n + 1 - i))) ((nI b).toInt64 * lN (100 ^ n))
      · rw [if_pos q2, if_pos (ec.mp q2)]
        exact ⟨z, ih1, ih2⟩
      · rw [if_neg q2, if_neg (fun q => q2 (ec.mpr q))]
        exact ⟨_, rfl, rfl⟩
theorem need_out (l1 l2 : Int32) {b : Nat} (hb : b ≤ 100) : ∀ (m n u v : Nat), n + m = 9 → 1 ≤ n → m < u → m < v → ∃ z : Int32, fX11_need_L27 l1 l2 (nI b) u (nI n) = some z ∧ fX12_need_L36 l1 l2 (nI b) v (nI n) = some z
  | m, n, 0, v, _, _, h, _ => absurd h (by omega)
  | m, n, u + 1, 0, _, _, _, h => absurd h (by omega)
  | 0, n, u + 1, v + 1, h, _, _, _ => by
    have e : n = 9 := by omega
    subst e
    rw [fX11_need_L27, fX12_need_L36, if_pos (by decide), if_pos (by decide)]
    exact ⟨_, rfl, rfl⟩
  | m + 1, n, u + 1, v + 1, h, h1, hu, hv => by
    have c : ¬ (8 : Int32) < nI n := q_nlt (N := 8) (by omega) (by decide)
    rw [fX11_need_L27, fX12_need_L36, if_neg c, if_neg c, show fX11_power (100 : Int64) (nI n) = some (lN (100 ^ n)) from (pw11 _ (by omega)).trans (congrArg some (pw_nat 100 n)), ob, nI_1]
    exact need_in _ _ l1 l2 hb (by omega) h1 (need_out l1 l2 hb m (n + 1) u v (by omega) (by omega) (by omega) (by omega)) (n + 1) 0 2000 2000 (by omega) (by omega) (by omega)
theorem p_need (l1 l2 l3 : Int32) : ∃ z : Int32, fX11_need l1 l2 l3 = some z ∧ fX12_need l1 l2 l3 = some z := by
  by_cases h1 : wI l1 0 100 = 0
  · exact ⟨-2, by simp only [fX11_need, i11_percent, ob, h1, if_true], by simp only [fX12_need, wI_in, ob, h1, if_true]⟩
  by_cases h2 : wI l2 0 100 = 0
  · exact ⟨-2, by simp only [fX11_need, i11_percent, ob, h1, h2, if_true, if_false], by simp only [fX12_need, wI_in, ob, h1, h2, if_true, if_false]⟩
  by_cases h3 : wI l3 0 100 = 0
  · exact ⟨-2, by simp only [fX11_need, i11_percent, ob, h1, h2, h3, if_true, if_false], by simp only [fX12_need, wI_in, ob, h1, h2, h3, if_true, if_false]⟩
  obtain ⟨b, -, hb, rfl⟩ := wI_ge (a := 0) (b := 100) (by decide) (by decide) h3
  obtain ⟨z, z1, z2⟩ := need_out l1 l2 hb 8 1 2000 2000 rfl (by decide) (by decide) (by decide)
  exact ⟨z, by simp only [fX11_need, i11_percent, ob, h1, h2, h3, if_false]; exact z1, by simp only [fX12_need, wI_in, ob, h1, h2, h3, if_false]; exact z2⟩
/-! feed -/
theorem fd_byte (x C : Int64) (D : UInt64) (s : Nat) (hs : s ≤ 56) (hC : (C.toBitVec.smod 64).toNat = s) (hD : D.toNat % 64 = s) : ((x >>> C) &&& 255).toInt32 = ((x.toUInt64 >>> D).toInt64.toInt32) &&& 255 := by
  apply Int32.toBitVec_inj.1
  apply BitVec.eq_of_getLsbD_eq
  intro i hi
  have h255 : ∀ j : Fin 32, (255 : Int32).toBitVec.getLsbD j.val = decide (j.val < 8) := by decide +kernel
  have h255L : ∀ j : Fin 32, (255 : Int64).toBitVec.getLsbD j.val = decide (j.val < 8) := by decide +kernel
  have e1 : (x.toUInt64 >>> D).toInt64.toBitVec = x.toBitVec >>> s := by
    apply BitVec.eq_of_toNat_eq
    show (x.toUInt64 >>> D).toNat = _
    rw [UInt64.toNat_shiftRight, hD, BitVec.toNat_ushiftRight]
    rfl
  have e2 : ((x >>> C) &&& 255).toInt32.toBitVec.getLsbD i = ((x >>> C) &&& 255).toBitVec.getLsbD i := by
    show (((x >>> C) &&& 255).toBitVec.signExtend 32).getLsbD i = _
    rw [BitVec.getLsbD_signExtend, if_pos (by omega), decide_eq_true hi, Bool.true_and]
  have e3 : (x.toUInt64 >>> D).toInt64.toInt32.toBitVec.getLsbD i = (x.toBitVec >>> s).getLsbD i := by
    show ((x.toUInt64 >>> D).toInt64.toBitVec.signExtend 32).getLsbD i = _
    rw [BitVec.getLsbD_signExtend, if_pos (by omega), decide_eq_true hi, Bool.true_and, e1]
  rw [e2, Int64.toBitVec_and, Int32.toBitVec_and, BitVec.getLsbD_and, BitVec.getLsbD_and, e3, h255L ⟨i, hi⟩, h255 ⟨i, hi⟩, Int64.toBitVec_shiftRight, BitVec.getLsbD_sshiftRight', hC, BitVec.getLsbD_ushiftRight]
  by_cases h8 : i < 8
  · rw [if_pos (by omega), decide_eq_false (show ¬ 64 ≤ i by omega), Bool.not_false, Bool.true_and]
  · rw [decide_eq_false h8, Bool.and_false, Bool.and_false]
theorem fd_val {x C : Int64} : ∃ b : Nat, b ≤ 255 ∧ ((x >>> C) &&& 255).toInt32 = nI b := by
  refine ⟨(x >>> C).toBitVec.toNat % 256, by omega, ?_⟩
  apply Int32.toBitVec_inj.1
  apply BitVec.eq_of_toNat_eq
  show ((((x >>> C) &&& 255).toBitVec).signExtend 32).toNat = (BitVec.ofNat 32 _).toNat
  have e : (((x >>> C) &&& 255).toBitVec).toNat = (x >>> C).toBitVec.toNat % 256 := by
    rw [Int64.toBitVec_and, BitVec.toNat_and]
    show _ &&& (2 ^ 8 - 1) = _
    rw [Nat.and_two_pow_sub_one_eq_mod]
  rw [BitVec.toNat_ofNat, Nat.mod_eq_of_lt (show (x >>> C).toBitVec.toNat % 256 < 2 ^ 32 by omega), ← e]
  have hm : (((x >>> C) &&& 255).toBitVec).msb = false := by
    rw [BitVec.msb_eq_decide]
    simp only [decide_eq_false_iff_not]
    omega
  rw [BitVec.signExtend_eq_setWidth_of_msb_false hm, BitVec.toNat_setWidth, Nat.mod_eq_of_lt (by omega)]
theorem fd_C : ∀ k : Fin 8, ((8 * nI k.val).toInt64 &&& 63).toBitVec.smod 64 = BitVec.ofNat 64 (8 * k.val) ∧ ((8 * nI k.val).toInt64.toUInt64 &&& Int64.toUInt64 63).toNat % 64 = 8 * k.val := by decide +kernel
theorem p_feed_L (l1 : Int64) : ∀ (k u : Nat) (nb : Nat) (ta f : Nat → Int32), k ≤ 8 → k < u → nb + k ≤ 120 → SS Ls nc nh nl nb ns al be ed lw ri sd ta th wa f → ∃ (ta' f' : Nat → Int32), fX11_feed_L35 l1 u (nI nb) ta (nI k - 1) = some (nI (nb + k), nI (nb + k), ta') ∧ fX12_feed_L34 l1 u f (nI k - 1) = some (nI (nb + k), f') ∧ SS Ls nc nh nl (nb + k) ns al be ed lw ri sd ta' th wa f'
  | k, 0, nb, ta, f, _, h, _, _ => absurd h (by omega)
  | 0, u + 1, nb, ta, f, _, _, _, hS => by
    have c : nI 0 - 1 < 0 := by decide
    refine ⟨ta, f, ?_, ?_, hS⟩
    · rw [fX11_feed_L35, if_pos c]; rfl
    · rw [fX12_feed_L34, if_pos c, hS.1.2.2.2.2.2.2.2.2.1]; rfl
  | k + 1, u + 1, nb, ta, f, hk, hu, hb, hS => by
    obtain ⟨⟨hc, hh, hl, hb0, hs, e0, e1, e2, e4, e3⟩, ⟨a1, a2, a3, a4, a5, a6, a7, a8⟩, ⟨v1, v2, v3, v4, v5, v6, v7⟩, hw⟩ := hS
    have c : ¬ nI k < 0 := nI_pos (by omega)
    obtain ⟨q1, q2⟩ := fd_C ⟨k, by omega⟩
    have q1' : (((8 * nI k).toInt64 &&& 63).toBitVec.smod 64).toNat = 8 * k := by
      rw [q1, BitVec.toNat_ofNat, Nat.mod_eq_of_lt (by omega)]
    have hbt := fd_byte l1 ((8 * nI k).toInt64 &&& 63) ((8 * nI k).toInt64.toUInt64 &&& Int64.toUInt64 63) (8 * k) (by omega) q1' q2
    obtain ⟨b, hb1, hb2⟩ := fd_val (x := l1) (C := (8 * nI k).toInt64 &&& 63)
    have k1 := cl_ (K := 10) (n := nb) (by omega)
    have i1 := ix_ (K := 10) (n := nb) (N := 1394) (by omega) (by decide)
    have hS2 : SS Ls nc nh nl (nb + 1) ns al be ed lw ri sd (upd ta nb (nI b)) th wa (upd (upd f (10 + nb) (nI b)) 4 (nI (nb + 1))) := by
      refine ⟨⟨hc, hh, hl, by omega, hs, ?_, ?_, ?_, pk_us, ?_⟩, ⟨?_, ?_, ?_, ?_, ?_, ?_, ?_, ?_⟩, ⟨v1, v2, v3, v4, upto_upd v5 hb1, v6, v7⟩, SSlaw_upd hl (by omega) (SSlaw_upd hl (by omega) hw)⟩
      · rw [pk_un (by omega), pk_un (by omega)]; exact e0
      · rw [pk_un (by omega), pk_un (by omega)]; exact e1
      · rw [pk_un (by omega), pk_un (by omega)]; exact e2
      · rw [pk_un (by omega), pk_un (by omega)]; exact e3
      · exact agr_skip (agr_skip a1 (by omega)) (by omega)
      · exact agr_skip (agr_skip a2 (by omega)) (by omega)
      · exact agr_skip (agr_skip a3 (by omega)) (by omega)
      · exact agr_skip (agr_skip a4 (by omega)) (by omega)
      · exact agr_skip (agr_skip a5 (by omega)) (by omega)
      · exact agr_skip (agr_upd a6) (by omega)
      · exact agr_skip (agr_skip a7 (by omega)) (by omega)
      · exact agr_skip (agr_skip a8 (by omega)) (by omega)
    obtain ⟨ta', f', h1, h2, h3⟩ := p_feed_L l1 k u (nb + 1) _ _ (by omega) (by omega) (by omega) hS2
    have en : nb + 1 + k = nb + (k + 1) := by omega
    rw [en] at h1 h2 h3
    refine ⟨ta', f', ?_, ?_, h3⟩
    · rw [fX11_feed_L35, nI_pred, if_neg c, if_neg (nI_in (by omega) (by decide)), nI_clamp (by omega), ← hbt, hb2, nI_1, ← Int32.sub_eq_add_neg]
      exact h1
    · rw [fX12_feed_L34, nI_pred, if_neg c, e4, if_neg i1, k1, hb2, pk_un (show 4 ≠ 10 + nb by omega), e4, nI_1, ← Int32.sub_eq_add_neg]
      exact h2
theorem p_feed (h : SS Ls nc nh nl nb ns al be ed lw ri sd ta th wa f) (l1 : Int64) (l3 : Int32) :
    ∃ (z : Int32) (nb' : Nat) (ta' f' : Nat → Int32), fX11_feed (nI nb) ta l1 l3 = some (z, nI nb', ta') ∧ fX12_feed f l1 l3 = some (z, f') ∧ SS Ls nc nh nl nb' ns al be ed lw ri sd ta' th wa f' := by
  have hb := h.1.2.2.2.1
  have e4 := h.1.2.2.2.2.2.2.2.2.1
  by_cases h1 : wI l3 1 8 = 0
  · exact ⟨-2, nb, ta, f, by simp only [fX11_feed, wI_is, ob, h1, if_true], by simp only [fX12_feed, wI_in, ob, h1, if_true], h⟩
  obtain ⟨k, hk1, hk2, rfl⟩ := wI_ge (a := 1) (b := 8) (by decide) (by decide) h1
  by_cases q : nb + k ≤ 120
  · have c : nI (nb + k) ≤ 120 := r_le (N := 120) q (by decide)
    obtain ⟨ta', f', h4, h5, h6⟩ := p_feed_L l1 k 2000 nb ta f hk2 (by omega) q h
    refine ⟨nI (nb + k), nb + k, ta', f', ?_, ?_, h6⟩
    · simp only [fX11_feed, wI_is, ob, h1, nI_add, c, if_true, if_false]; exact h4
    · simp only [fX12_feed, wI_in, ob, h1, e4, nI_add, c, if_true, if_false]; exact h5
  · have c : ¬ nI (nb + k) ≤ 120 := r_nle (N := 120) (by omega) (by omega)
    exact ⟨-4, nb, ta, f, by simp only [fX11_feed, wI_is, ob, h1, nI_add, c, if_false], by simp only [fX12_feed, wI_in, ob, h1, e4, nI_add, c, if_false], h⟩
end AN
