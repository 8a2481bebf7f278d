/-! one TICK: the class's steps, and both together -/
section TK
variable {f fb : Nat → Int32} {xh xe xb xr xt xa xl : Int32}
section CS
variable {kc : Int32 → Int32 → Int32 → Option (Int32 × Int32 × Int32)} {u j n : Nat} {sc : Nat → Int32} {l2 l3 l4 : Int32}
theorem g_test {t g w A : Nat} (hby : byR fb xh xe xb xr xt) (hj : j < n) (hn : n < 120) (ec : sc j = nI ((t * 3 + g) * 100 + w)) (ht : t < 5) (hg : g < 3) (hw : w < 100) (hA : A < 1073741824) : fX2_goOn_L31 kc n xh xe xb xr xt xa xl sc (nI n) (u + 1) l2 l3 l4 (nI A) (nI j) = fX2_goOn_L31 kc n xh xe xb xr xt xa xl sc (nI n) u l2 l3 l4 (nI (2 * A + tv (fb t) (nI w) g)) (nI (j + 1)) := by
  have cE : ¬ nI n ≤ nI j := nI_ge (by omega) (by omega)
  have q1 : nI ((t * 3 + g) * 100 + w) / 100 = nI (t * 3 + g) := (pk_div (a := (t * 3 + g) * 100 + w) (d := 100) (by omega) (by decide) (by decide)).trans (congrArg nI (by omega))
  have q2 : nI ((t * 3 + g) * 100 + w) - nI (t * 3 + g) * 100 = nI w := by
    have q := pk_rem (a := (t * 3 + g) * 100 + w) (d := 100) (by omega) (by decide) (by decide)
    rw [show nI ((t * 3 + g) * 100 + w) / nI 100 = nI (t * 3 + g) from q1] at q
    exact q.trans (congrArg nI (by omega))
  have c15 : ¬ nI (t * 3 + g) = 15 := ne_lit (N := 15) (by omega) (by decide)
  have c16 : ¬ nI (t * 3 + g) = 16 := ne_lit (N := 16) (by omega) (by decide)
  have c17 : ¬ nI (t * 3 + g) = 17 := ne_lit (N := 17) (by omega) (by decide)
  have c18 : ¬ nI (t * 3 + g) = 18 := ne_lit (N := 18) (by omega) (by decide)
  have c19 : ¬ nI (t * 3 + g) = 19 := ne_lit (N := 19) (by omega) (by decide)
  have c20 : ¬ nI (t * 3 + g) = 20 := ne_lit (N := 20) (by omega) (by decide)
  have s0 : (nI A <<< ((1 : Int32) &&& 31)) ||| 0 = nI (2 * A + 0) := sh_l hA (by decide)
  have s1 : (nI A <<< ((1 : Int32) &&& 31)) ||| 1 = nI (2 * A + 1) := sh_l hA (by decide)
  have b2 := tv_lt (fb t) (nI w) g
  rw [fX2_goOn_L31, if_neg cE, if_neg (nI_in hj (by omega)), nI_clamp (by omega), ec, q1, if_neg c15, if_neg c16, if_neg c17, if_neg c18, if_neg c19, if_neg c20, q2, isTrue_eq hby ht hg, ob, s0, s1, nI_1]
  rcases (show tv (fb t) (nI w) g = 0 ∨ tv (fb t) (nI w) g = 1 by omega) with q | q
  · rw [q, if_pos (show nI 0 = 0 from rfl)]
  · rw [q, if_neg (show ¬ nI 1 = 0 from by decide)]
theorem g_not {B b : Nat} (hj : j < n) (hn : n < 120) (ec : sc j = nI 1500) (hb : b < 2) : fX2_goOn_L31 kc n xh xe xb xr xt xa xl sc (nI n) (u + 1) l2 l3 l4 (nI (2 * B + b)) (nI j) = fX2_goOn_L31 kc n xh xe xb xr xt xa xl sc (nI n) u l2 l3 l4 (nI (2 * B + (1 - b))) (nI (j + 1)) := by
  have cE : ¬ nI n ≤ nI j := nI_ge (by omega) (by omega)
  have h1 : nI 1500 / 100 = 15 := by decide
  rw [fX2_goOn_L31, if_neg cE, if_neg (nI_in hj (by omega)), nI_clamp (by omega), ec, if_pos h1, xo_1 hb, nI_1]
theorem g_and {B a b : Nat} (hj : j < n) (hn : n < 120) (ec : sc j = nI 1600) (hA : 2 * (2 * B + a) + b < 1073741824) (ha : a < 2) (hb : b < 2) : fX2_goOn_L31 kc n xh xe xb xr xt xa xl sc (nI n) (u + 1) l2 l3 l4 (nI (2 * (2 * B + a) + b)) (nI j) = fX2_goOn_L31 kc n xh xe xb xr xt xa xl sc (nI n) u l2 l3 l4 (nI (2 * B + a * b)) (nI (j + 1)) := by
  have cE : ¬ nI n ≤ nI j := nI_ge (by omega) (by omega)
  have h1 : ¬ nI 1600 / 100 = 15 := by decide
  have h2 : nI 1600 / 100 = 16 := by decide
  rw [fX2_goOn_L31, if_neg cE, if_neg (nI_in hj (by omega)), nI_clamp (by omega), ec, if_neg h1, if_pos h2, sh_r hA, an_1 hA, show (2 * (2 * B + a) + b) / 2 = 2 * B + a from by omega, show (2 * (2 * B + a) + b) % 2 = b from by omega, an_or (by omega) ha hb, nI_1]
theorem g_or {B a b : Nat} (hj : j < n) (hn : n < 120) (ec : sc j = nI 1700) (hA : 2 * (2 * B + a) + b < 1073741824) (ha : a < 2) (hb : b < 2) : fX2_goOn_L31 kc n xh xe xb xr xt xa xl sc (nI n) (u + 1) l2 l3 l4 (nI (2 * (2 * B + a) + b)) (nI j) = fX2_goOn_L31 kc n xh xe xb xr xt xa xl sc (nI n) u l2 l3 l4 (nI (2 * B + (if a = 0 then b else 1))) (nI (j + 1)) := by
  have cE : ¬ nI n ≤ nI j := nI_ge (by omega) (by omega)
  have h1 : ¬ nI 1700 / 100 = 15 := by decide
  have h2 : ¬ nI 1700 / 100 = 16 := by decide
  have h3 : nI 1700 / 100 = 17 := by decide
  rw [fX2_goOn_L31, if_neg cE, if_neg (nI_in hj (by omega)), nI_clamp (by omega), ec, if_neg h1, if_neg h2, if_pos h3, sh_r hA, an_1 hA, show (2 * (2 * B + a) + b) / 2 = 2 * B + a from by omega, show (2 * (2 * B + a) + b) % 2 = b from by omega, or_b ha hb, nI_1]
theorem sh_b {b : Nat} (hb : b < 2) : nI b >>> ((1 : Int32) &&& 31) = nI 0 := by
  rw [sh_r (by omega)]
  exact congrArg nI (by omega)
theorem an_b {b : Nat} (hb : b < 2) : nI b &&& 1 = nI b := by
  rw [an_1 (by omega)]
  exact congrArg nI (by omega)
theorem g_turn {w T b : Nat} (hj : j < n) (hn : n < 120) (ec : sc j = nI (1800 + w)) (hw : w < 100) (hb : b < 2) : fX2_goOn_L31 kc n xh xe xb xr xt xa xl sc (nI n) (u + 1) (nI T) l3 l4 (nI b) (nI j) = fX2_goOn_L31 kc n xh xe xb xr xt xa xl sc (nI n) u (nI (T + w * b)) l3 l4 (nI 0) (nI (j + 1)) := by
  have cE : ¬ nI n ≤ nI j := nI_ge (by omega) (by omega)
  have q1 : nI (1800 + w) / 100 = 18 := (pk_div (a := 1800 + w) (d := 100) (by omega) (by decide) (by decide)).trans (congrArg nI (show (1800 + w) / 100 = 18 by omega))
  have q2 : nI (1800 + w) - 18 * 100 = nI w := by
    have q := pk_rem (a := 1800 + w) (d := 100) (by omega) (by decide) (by decide)
    rw [show nI (1800 + w) / nI 100 = 18 from q1] at q
    exact q.trans (congrArg nI (by omega))
  have h1 : ¬ (18 : Int32) = 15 := by decide
  have h2 : ¬ (18 : Int32) = 16 := by decide
  have h3 : ¬ (18 : Int32) = 17 := by decide
  have e1 : nI w * nI b = nI (w * b) := pk_mul w b
  rw [fX2_goOn_L31, if_neg cE, if_neg (nI_in hj (by omega)), nI_clamp (by omega), ec, q1, if_neg h1, if_neg h2, if_neg h3, if_pos rfl, q2, an_b hb, sh_b hb, e1, nI_add, nI_1]
theorem g_lean {w L b : Nat} (hj : j < n) (hn : n < 120) (ec : sc j = nI (1900 + w)) (hw : w < 100) (hb : b < 2) : fX2_goOn_L31 kc n xh xe xb xr xt xa xl sc (nI n) (u + 1) l2 (nI L) l4 (nI b) (nI j) = fX2_goOn_L31 kc n xh xe xb xr xt xa xl sc (nI n) u l2 (nI (L + w * b)) l4 (nI 0) (nI (j + 1)) := by
  have cE : ¬ nI n ≤ nI j := nI_ge (by omega) (by omega)
  have q1 : nI (1900 + w) / 100 = 19 := (pk_div (a := 1900 + w) (d := 100) (by omega) (by decide) (by decide)).trans (congrArg nI (show (1900 + w) / 100 = 19 by omega))
  have q2 : nI (1900 + w) - 19 * 100 = nI w := by
    have q := pk_rem (a := 1900 + w) (d := 100) (by omega) (by decide) (by decide)
    rw [show nI (1900 + w) / nI 100 = 19 from q1] at q
    exact q.trans (congrArg nI (by omega))
  have h1 : ¬ (19 : Int32) = 15 := by decide
  have h2 : ¬ (19 : Int32) = 16 := by decide
  have h3 : ¬ (19 : Int32) = 17 := by decide
  have h4 : ¬ (19 : Int32) = 18 := by decide
  have e1 : nI w * nI b = nI (w * b) := pk_mul w b
  rw [fX2_goOn_L31, if_neg cE, if_neg (nI_in hj (by omega)), nI_clamp (by omega), ec, q1, if_neg h1, if_neg h2, if_neg h3, if_neg h4, if_pos rfl, q2, an_b hb, sh_b hb, e1, nI_add, nI_1]
theorem g_skip {S b : Nat} (hj : j < n) (hn : n < 120) (ec : sc j = nI 2000) (hb : b < 2) : fX2_goOn_L31 kc n xh xe xb xr xt xa xl sc (nI n) (u + 1) l2 l3 (nI S) (nI b) (nI j) = fX2_goOn_L31 kc n xh xe xb xr xt xa xl sc (nI n) u l2 l3 (nI (S + b)) (nI 0) (nI (j + 1)) := by
  have cE : ¬ nI n ≤ nI j := nI_ge (by omega) (by omega)
  have q1 : nI 2000 / 100 = 20 := by decide
  have h1 : ¬ (20 : Int32) = 15 := by decide
  have h2 : ¬ (20 : Int32) = 16 := by decide
  have h3 : ¬ (20 : Int32) = 17 := by decide
  have h4 : ¬ (20 : Int32) = 18 := by decide
  have h5 : ¬ (20 : Int32) = 19 := by decide
  rw [fX2_goOn_L31, if_neg cE, if_neg (nI_in hj (by omega)), nI_clamp (by omega), ec, q1, if_neg h1, if_neg h2, if_neg h3, if_neg h4, if_neg h5, if_pos rfl, an_b hb, sh_b hb, nI_add, nI_1]
end CS
/-- the class's walk over the steps, and the reference's -/
theorem looks_L {K n : Nat} {sc : Nat → Int32} {dep : Nat → Nat} (hK : K < 8) (hn : n < 120) (e250 : f (250 + K) = nI n) (hst : ∀ j, j < n → stepR (f (258 + 140 * K + j)) (sc j) (dep j) (dep (j + 1)) ∧ dep (j + 1) ≤ 30) (hby : byR fb xh xe xb xr xt) (kc : Int32 → Int32 → Int32 → Option (Int32 × Int32 × Int32)) (km : Int32 → Int32 → (Nat → Int32) → Int32 → Option (Int32 × Int32 × (Nat → Int32))) :
    ∀ (m j u v T L S : Nat) (tr : Nat → Int32), j + m = n → m < u → m < v → dep j ≤ 30 → T ≤ 99 * j → L ≤ 99 * j → S ≤ j →
    ∃ (T' L' S' : Nat) (tr' : Nat → Int32), T' ≤ 99 * n ∧ L' ≤ 99 * n ∧ S' ≤ n ∧ fX2_goOn_L31 kc n xh xe xb xr xt xa xl sc (nI n) u (nI T) (nI L) (nI S) (nI (bv tr (dep j))) (nI j) = kc (nI T') (nI L') (nI S') ∧ fX12_looks_L25 km fb f (nI K) v (nI T) (nI L) tr (sm_ S) (nI (dep j)) (nI (258 + 140 * K + j)) = km (nI T') (nI L') tr' (sm_ S') := by
  intro m
  induction m with
  | zero =>
    intro j u v T L S tr hj hu hv hd hT hL hS
    obtain ⟨u, rfl⟩ : ∃ w, u = w + 1 := ⟨u - 1, by omega⟩
    obtain ⟨v, rfl⟩ : ∃ w, v = w + 1 := ⟨v - 1, by omega⟩
    have e : j = n := by omega
    subst e
    refine ⟨T, L, S, tr, hT, hL, hS, ?_, ?_⟩
    · rw [fX2_goOn_L31, if_pos (nI_le (Nat.le_refl _) (by omega))]
    · rw [fX12_looks_L25, if_neg (ix_ (K := 250) (n := K) (N := 1394) (by omega) (by decide)), cl_ (K := 250) (n := K) (by omega), e250, eEnd_, if_pos (nI_le (Nat.le_refl _) (by omega))]
  | succ m ih =>
    intro j u v T L S tr hj hu hv hd hT hL hS
    obtain ⟨u, rfl⟩ : ∃ w, u = w + 1 := ⟨u - 1, by omega⟩
    obtain ⟨v, rfl⟩ : ∃ w, v = w + 1 := ⟨v - 1, by omega⟩
    obtain ⟨hs, hd1⟩ := hst j (by omega)
    have hA := bv_30 tr hd
    have hjn : j < n := by omega
    rcases hs with ⟨t, g, w, ht, hg, hw, es, ec, ed⟩ | ⟨es, ec, hd0, ed⟩ | ⟨es, ec, hd0, ed⟩ | ⟨es, ec, hd0, ed⟩ | ⟨w, hw, es, ec, hd0, ed⟩ | ⟨w, hw, es, ec, hd0, ed⟩ | ⟨es, ec, hd0, ed⟩
    · have b2 := tv_lt (fb t) (nI w) g
      have h := ih (j + 1) u v T L S (upd tr (dep j) (nI (tv (fb t) (nI w) g))) (by omega) (by omega) (by omega) hd1 (by omega) (by omega) (by omega)
      rw [ed, bv_up, bb_nI b2] at h
      rw [g_test hby hjn hn ec ht hg hw hA, m_test hK hjn hn e250 es ht hg hw hd]
      exact h
    · obtain ⟨d, hd2⟩ : ∃ d, dep j = d + 1 := ⟨dep j - 1, by omega⟩
      have b2 := bb_le (tr d)
      have h := ih (j + 1) u v T L S (upd tr d (nI (1 - bb (tr d)))) (by omega) (by omega) (by omega) hd1 (by omega) (by omega) (by omega)
      rw [ed, hd2, bv_up, bb_nI (by omega)] at h
      rw [hd2, bv, g_not hjn hn ec (by omega), m_not hK hjn hn e250 es (by omega)]
      exact h
    · obtain ⟨d, hd2⟩ : ∃ d, dep j = d + 1 + 1 := ⟨dep j - 2, by omega⟩
      have hd3 : dep (j + 1) = d + 1 := by omega
      have b1 := bb_le (tr d)
      have b2 := bb_le (tr (d + 1))
      have hA2 : 2 * (2 * bv tr d + bb (tr d)) + bb (tr (d + 1)) < 1073741824 := by rw [hd2, bv, bv] at hA; exact hA
      have hab : bb (tr d) * bb (tr (d + 1)) < 2 := by
        have : bb (tr d) * bb (tr (d + 1)) ≤ 1 * 1 := Nat.mul_le_mul b1 b2
        omega
      have h := ih (j + 1) u v T L S (upd tr d (nI (bb (tr d) * bb (tr (d + 1))))) (by omega) (by omega) (by omega) hd1 (by omega) (by omega) (by omega)
      rw [hd3, bv_up, bb_nI hab] at h
      rw [hd2, bv, bv, g_and hjn hn ec hA2 (by omega) (by omega), m_and hK hjn hn e250 es (by omega)]
      exact h
    · obtain ⟨d, hd2⟩ : ∃ d, dep j = d + 1 + 1 := ⟨dep j - 2, by omega⟩
      have hd3 : dep (j + 1) = d + 1 := by omega
      have b1 := bb_le (tr d)
      have b2 := bb_le (tr (d + 1))
      have hA2 : 2 * (2 * bv tr d + bb (tr d)) + bb (tr (d + 1)) < 1073741824 := by rw [hd2, bv, bv] at hA; exact hA
      have hab : (if bb (tr d) = 0 then bb (tr (d + 1)) else 1) < 2 := by split <;> omega
      have h := ih (j + 1) u v T L S (upd tr d (nI (if bb (tr d) = 0 then bb (tr (d + 1)) else 1))) (by omega) (by omega) (by omega) hd1 (by omega) (by omega) (by omega)
      rw [hd3, bv_up, bb_nI hab] at h
      rw [hd2, bv, bv, g_or hjn hn ec hA2 (by omega) (by omega), m_or hK hjn hn e250 es (by omega)]
      exact h
    · have b1 := bb_le (tr 0)
      have hbv : bv tr 1 = bb (tr 0) := by rw [bv, bv]; omega
      have hwb : w * bb (tr 0) ≤ 99 * 1 := Nat.mul_le_mul (by omega) b1
      have h := ih (j + 1) u v (T + w * bb (tr 0)) L S tr (by omega) (by omega) (by omega) hd1 (by omega) (by omega) (by omega)
      rw [ed] at h
      rw [hd0, hbv, g_turn hjn hn ec hw (by omega), m_turn hK hjn hn e250 es hw]
      exact h
    · have b1 := bb_le (tr 0)
      have hbv : bv tr 1 = bb (tr 0) := by rw [bv, bv]; omega
      have hwb : w * bb (tr 0) ≤ 99 * 1 := Nat.mul_le_mul (by omega) b1
      have h := ih (j + 1) u v T (L + w * bb (tr 0)) S tr (by omega) (by omega) (by omega) hd1 (by omega) (by omega) (by omega)
      rw [ed] at h
      rw [hd0, hbv, g_lean hjn hn ec hw (by omega), m_lean hK hjn hn e250 es hw]
      exact h
    · have b1 := bb_le (tr 0)
      have hbv : bv tr 1 = bb (tr 0) := by rw [bv, bv]; omega
      have h := ih (j + 1) u v T L (S + bb (tr 0)) tr (by omega) (by omega) (by omega) hd1 (by omega) (by omega) (by omega)
      rw [ed] at h
      rw [hd0, hbv, g_skip hjn hn ec (by omega), m_skip hK hjn hn e250 es]
      exact h
/-- one TICK of both: the same ANGLE and LEAN behind it -/
theorem tick_eq {r : LR} {K a : Nat} (hK : K < 8) (hr : lawR r f K) (hby : byR fb xh xe xb xr (xt + 1)) (ha : a < 100) (x1 x2 : Int32) (tr : Nat → Int32) :
    ∃ (a' L' : Nat) (T' : Int32) (tr' : Nat → Int32), a' < 100 ∧ L' ≤ 49 ∧ fX2_goOn r.2.2.2.2.2.2.2.1 xh xe xb xr xt (nI a) xl r.2.2.2.2.2.2.2.2 = some (xt + 1, nI a', nI L') ∧ fX12_looks x1 x2 fb f tr (nI K) = some (T', nI L', tr') ∧ (nI a + T') - (nI a + T') / 100 * 100 = nI a' := by
  obtain ⟨-, n, d, hn, hrn, e250, dep, h0, -, hst⟩ := hr
  have hmod : ∀ T : Nat, T ≤ 99 * n → (nI a + nI T) - (nI a + nI T) / 100 * 100 = nI ((a + T) % 100) := by
    intro T hT
    rw [nI_add]
    exact pk_rem (a := a + T) (d := 100) (by omega) (by decide) (by decide)
  have hz : (nI a + 0) - (nI a + 0) / 100 * 100 = nI a := by
    rw [Int32.add_zero]
    exact (pk_rem (a := a) (d := 100) (by omega) (by decide) (by decide)).trans (congrArg nI (by omega))
  have e0 : (258 + (140 * nI K) : Int32) = nI (258 + 140 * K + 0) := by
    rw [show (140 : Int32) * nI K = nI (140 * K) from pk_mul 140 K]
    exact nI_add 258 _
  have hmin : ∀ L : Nat, L ≤ 99 * n → (if 49 < nI L then (49 : Int32) else nI L) = nI (if 49 < L then 49 else L) := by
    intro L hL
    by_cases q : 49 < L
    · rw [if_pos (q_lt (N := 49) q (by omega)), if_pos q]; rfl
    · rw [if_neg (q_nlt (N := 49) (by omega) (by decide)), if_neg q]
  obtain ⟨T, L, S, tr', hT, hL, hS, h1, h2⟩ := looks_L (xa := nI a) (xl := xl) (sc := r.2.2.2.2.2.2.2.2) hK hn e250 hst hby (fun l2_12 l3_13 l4_14 => (if l4_14 = 0 then (fX2_goOn_b237 n xh xe xb xr (xt + 1) ((nI a + l2_12) - (nI a + l2_12) / 100 * 100) xl r.2.2.2.2.2.2.2.2 l3_13) else (fX2_goOn_b237 n xh xe xb xr (xt + 1) (nI a) xl r.2.2.2.2.2.2.2.2 l3_13))) (fun x_turn_35 x_lean_36 f_truths_37 l2_38 => (if l2_38 = 0 then (fX12_looks_b398 x_turn_35 x_lean_36 fb f f_truths_37 x_turn_35) else (fX12_looks_b398 x_turn_35 x_lean_36 fb f f_truths_37 (0 : Int32)))) n 0 2000 2000 0 0 0 tr (by omega) (by omega) (by omega) (by rw [h0]; omega) (by omega) (by omega) (by omega)
  rw [h0] at h1 h2
  have hL49 : (if 49 < L then 49 else L) ≤ 49 := by split <;> omega
  have hb398 : ∀ x : Int32, fX12_looks_b398 (nI T) (nI L) fb f tr' x = some (x, nI (if 49 < L then 49 else L), tr') := by
    intro x
    unfold fX12_looks_b398
    by_cases q : 49 < L
    · rw [if_neg (r_nle (N := 49) q (by omega)), if_pos q]; rfl
    · rw [if_pos (r_le (N := 49) (by omega) (by decide)), if_neg q]
  by_cases qS : S = 0
  · refine ⟨(a + T) % 100, if 49 < L then 49 else L, nI T, tr', by omega, hL49, ?_, ?_, hmod T hT⟩
    · rw [hrn]
      refine Eq.trans h1 ?_
      show (if nI S = 0 then _ else _) = _
      rw [qS, if_pos (show nI 0 = 0 from rfl)]
      unfold fX2_goOn_b237
      rw [hmin L hL, hmod T hT]
    · unfold fX12_looks
      rw [e0]
      refine Eq.trans h2 ?_
      show (if sm_ S = 0 then _ else _) = _
      rw [if_pos (show sm_ S = 0 from by unfold sm_; rw [if_pos qS])]
      exact hb398 _
  · refine ⟨a, if 49 < L then 49 else L, 0, tr', ha, hL49, ?_, ?_, hz⟩
    · rw [hrn]
      refine Eq.trans h1 ?_
      show (if nI S = 0 then _ else _) = _
      have hS0 : ¬ nI S = 0 := fun e => by
        rw [fa_eq, nI_toInt (by omega)] at e
        have e' : (S : Int) = 0 := e
        omega
      rw [if_neg hS0]
      unfold fX2_goOn_b237
      rw [hmin L hL]
    · unfold fX12_looks
      rw [e0]
      refine Eq.trans h2 ?_
      show (if sm_ S = 0 then _ else _) = _
      rw [if_neg (show ¬ sm_ S = 0 from by unfold sm_; rw [if_neg qS]; decide)]
      exact hb398 _
end TK
