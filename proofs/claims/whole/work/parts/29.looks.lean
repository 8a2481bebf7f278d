/-! one TICK: the class's goOn and the reference's looks -/
section LK
def bb (x : Int32) : Nat := if x = 0 then 0 else 1
theorem bb_le (x : Int32) : bb x ≤ 1 := by unfold bb; split <;> omega
def bv (tr : Nat → Int32) : Nat → Nat
  | 0 => 0
  | k + 1 => 2 * bv tr k + bb (tr k)
theorem bv_lt (tr : Nat → Int32) : ∀ k, bv tr k < 2 ^ k
  | 0 => by rw [bv]; decide
  | k + 1 => by
    have h1 := bv_lt tr k
    have h2 := bb_le (tr k)
    rw [bv, Nat.pow_succ]
    omega
theorem bv_congr {tr tr' : Nat → Int32} : ∀ {k : Nat}, (∀ j, j < k → tr j = tr' j) → bv tr k = bv tr' k
  | 0, _ => rfl
  | k + 1, h => by rw [bv, bv, bv_congr (fun j hj => h j (by omega)), h k (by omega)]
theorem bv_up {tr : Nat → Int32} {d : Nat} {x : Int32} : bv (upd tr d x) (d + 1) = 2 * bv tr d + bb x := by
  rw [bv, pk_us, bv_congr (tr' := tr) (fun j hj => pk_un (by omega))]
theorem bv_30 (tr : Nat → Int32) {d : Nat} (h : d ≤ 30) : bv tr d < 1073741824 := Nat.lt_of_lt_of_le (bv_lt tr d) (Nat.le_trans (Nat.pow_le_pow_right (by decide) h) (by decide))
theorem sh_l {A : Nat} (h : A < 1073741824) {b : Nat} (hb : b < 2) : (nI A <<< ((1 : Int32) &&& 31)) ||| nI b = nI (2 * A + b) := by
  rw [pk_shlN (n := A) ((1 : Int32) &&& 31) 1 (by decide) (by omega)]
  have e := fa_or_sum (a := b) (k := 1) A hb
  rw [show A * 2 ^ 1 = 2 ^ 1 * A from Nat.mul_comm _ _, e]
theorem sh_r {A : Nat} (h : A < 1073741824) : nI A >>> ((1 : Int32) &&& 31) = nI (A / 2) := pk_shrN (n := A) (by omega) ((1 : Int32) &&& 31) 1 (by decide)
theorem an_1 {A : Nat} (h : A < 1073741824) : nI A &&& 1 = nI (A % 2) := pk_andN (n := A) (by omega) (m := 1) 1 (by decide)
theorem xo_1 {u b : Nat} (hb : b < 2) : nI (2 * u + b) ^^^ 1 = nI (2 * u + (1 - b)) := by
  have e : nI (2 * u + b) ^^^ nI 1 = nI ((2 * u + b) ^^^ 1) := fb_xorI _ _
  refine e.trans (congrArg nI ?_)
  apply Nat.eq_of_testBit_eq
  intro i
  rw [Nat.testBit_xor]
  cases i with
  | zero =>
    rw [Nat.testBit_zero, Nat.testBit_zero, Nat.testBit_zero]
    rcases (show b = 0 ∨ b = 1 by omega) with rfl | rfl
    · simp [Nat.add_mod]
    · simp [Nat.add_mod]
  | succ i =>
    have e1 : (2 * u + b).testBit (i + 1) = u.testBit i := by rw [Nat.testBit_succ]; congr 1; omega
    have e2 : (2 * u + (1 - b)).testBit (i + 1) = u.testBit i := by rw [Nat.testBit_succ]; congr 1; omega
    have e3 : (1 : Nat).testBit (i + 1) = false := by
      rw [Nat.testBit_succ, show 1 / 2 = 0 from by omega, Nat.zero_testBit]
    rw [e1, e2, e3, Bool.xor_false]
theorem an_m2 {u a : Nat} (hu : 2 * u + a < 1073741824) (ha : a < 2) : nI (2 * u + a) &&& (-2) = nI (2 * u) := by
  apply Int32.toBitVec_inj.1
  apply BitVec.eq_of_getLsbD_eq
  intro i hi
  have hm2 : ∀ j : Fin 32, (-2 : Int32).toBitVec.getLsbD j.val = decide (j.val ≠ 0) := by decide +kernel
  rw [Int32.toBitVec_and, BitVec.getLsbD_and, hm2 ⟨i, hi⟩]
  show ((BitVec.ofNat 32 (2 * u + a)).getLsbD i && _) = (BitVec.ofNat 32 (2 * u)).getLsbD i
  rw [BitVec.getLsbD_ofNat, BitVec.getLsbD_ofNat]
  cases i with
  | zero => simp
  | succ i =>
    have e1 : (2 * u + a).testBit (i + 1) = u.testBit i := by rw [Nat.testBit_succ]; congr 1; omega
    have e2 : (2 * u).testBit (i + 1) = u.testBit i := by rw [Nat.testBit_succ]; congr 1; omega
    rw [e1, e2]
    simp
theorem an_or {u a b : Nat} (hu : 2 * u + a < 1073741824) (ha : a < 2) (hb : b < 2) : nI (2 * u + a) &&& (nI b ||| (-2)) = nI (2 * u + a * b) := by
  rcases (show b = 0 ∨ b = 1 by omega) with rfl | rfl
  · rw [show nI 0 ||| (-2) = (-2 : Int32) from by decide, an_m2 hu ha, Nat.mul_zero, Nat.add_zero]
  · rw [show nI 1 ||| (-2) = (-1 : Int32) from by decide, Nat.mul_one]
    exact Int32.and_neg_one
theorem or_b {u a b : Nat} (ha : a < 2) (hb : b < 2) : nI (2 * u + a) ||| nI b = nI (2 * u + (if a = 0 then b else 1)) := by
  rw [fa_or]
  refine congrArg nI ?_
  apply Nat.eq_of_testBit_eq
  intro i
  rw [Nat.testBit_or]
  cases i with
  | zero =>
    rw [Nat.testBit_zero, Nat.testBit_zero, Nat.testBit_zero]
    rcases (show a = 0 ∨ a = 1 by omega) with rfl | rfl
    · rcases (show b = 0 ∨ b = 1 by omega) with rfl | rfl
      · simp
      · simp [Nat.add_mod]
    · rcases (show b = 0 ∨ b = 1 by omega) with rfl | rfl
      · simp [Nat.add_mod]
      · simp [Nat.add_mod]
  | succ i =>
    have e1 : (2 * u + a).testBit (i + 1) = u.testBit i := by rw [Nat.testBit_succ]; congr 1; omega
    have e2 : (2 * u + (if a = 0 then b else 1)).testBit (i + 1) = u.testBit i := by
      rw [Nat.testBit_succ]; congr 1
      split <;> omega
    have e3 : b.testBit (i + 1) = false := by
      rw [Nat.testBit_succ, show b / 2 = 0 from by omega, Nat.zero_testBit]
    rw [e1, e2, e3, Bool.or_false]
/-- what a TEST says -/
def tv (x v : Int32) (g : Nat) : Nat := if g = 0 then (if v ≤ x then 0 else 1) else if g = 1 then (if x = v then 1 else 0) else (if x ≤ v then 0 else 1)
theorem tv_sel {α : Type} (x v : Int32) {g : Nat} (hg : g < 3) (F : Int32 → α) : (if nI g = 0 then (if v ≤ x then F 0 else F 1) else (if nI g = 1 then (if x = v then F 1 else F 0) else (if x ≤ v then F 0 else F 1))) = F (nI (tv x v g)) := by
  unfold tv
  match g, hg with
  | 0, _ =>
    rw [if_pos (show nI 0 = 0 from rfl), if_pos (show (0 : Nat) = 0 from rfl)]
    split <;> rfl
  | 1, _ =>
    rw [if_neg (show ¬ nI 1 = 0 from by decide), if_pos (show nI 1 = 1 from rfl), if_neg (show ¬ (1 : Nat) = 0 from by decide), if_pos (show (1 : Nat) = 1 from rfl)]
    split <;> rfl
  | 2, _ =>
    rw [if_neg (show ¬ nI 2 = 0 from by decide), if_neg (show ¬ nI 2 = 1 from by decide), if_neg (show ¬ (2 : Nat) = 0 from by decide), if_neg (show ¬ (2 : Nat) = 1 from by decide)]
    split <;> rfl
  | n + 3, h => exact absurd h (by omega)
theorem tv_lt (x v : Int32) (g : Nat) : tv x v g < 2 := by
  unfold tv
  split
  · split <;> omega
  · split
    · split <;> omega
    · split <;> omega
theorem bb_nI {b : Nat} (h : b < 2) : bb (nI b) = b := by
  rcases (show b = 0 ∨ b = 1 by omega) with rfl | rfl
  · rfl
  · rfl
theorem nar_b {b : Nat} (h : b < 2) : vp_nar .boolean (nI b) = nI b := by
  rcases (show b = 0 ∨ b = 1 by omega) with rfl | rfl
  · decide
  · decide
variable {f fb : Nat → Int32} {xh xe xb xr xt xa xl : Int32}
def byR (fb : Nat → Int32) (xh xe xb xr xt : Int32) : Prop := fb 0 = xr ∧ fb 1 = xe ∧ fb 2 = xb ∧ fb 3 = xh ∧ fb 4 = xt
theorem valueOf_eq (h : byR fb xh xe xb xr xt) {t : Nat} (ht : t < 5) : fX2_valueOf xh xe xb xr xt (nI t) = some (fb t) := by
  obtain ⟨h0, h1, h2, h3, h4⟩ := h
  unfold fX2_valueOf
  match t, ht with
  | 0, _ => rw [if_pos (by decide), h0]
  | 1, _ => rw [if_neg (by decide), if_pos (by decide), h1]
  | 2, _ => rw [if_neg (by decide), if_neg (by decide), if_pos (by decide), h2]
  | 3, _ => rw [if_neg (by decide), if_neg (by decide), if_neg (by decide), if_pos (by decide), h3]
  | 4, _ => rw [if_neg (by decide), if_neg (by decide), if_neg (by decide), if_neg (by decide), h4]
  | n + 5, h => exact absurd h (by omega)
theorem isTrue_eq (h : byR fb xh xe xb xr xt) {t g : Nat} (ht : t < 5) (hg : g < 3) (v : Int32) : fX2_isTrue xh xe xb xr xt (nI (t * 3 + g)) v = some (nI (tv (fb t) v g)) := by
  unfold fX2_isTrue tv
  have e1 : nI (t * 3 + g) / 3 = nI t := (pk_div (a := t * 3 + g) (d := 3) (by omega) (by decide) (by decide)).trans (congrArg nI (by omega))
  have e2 : nI (t * 3 + g) - nI t * 3 = nI g := by
    have q := pk_rem (a := t * 3 + g) (d := 3) (by omega) (by decide) (by decide)
    rw [show nI (t * 3 + g) / nI 3 = nI t from e1] at q
    exact q.trans (congrArg nI (by omega))
  rw [e1, e2, valueOf_eq h ht, ob]
  match g, hg with
  | 0, _ =>
    rw [if_pos (show nI 0 = 0 from rfl), if_pos (show (0 : Nat) = 0 from rfl)]
    split <;> rfl
  | 1, _ =>
    rw [if_neg (show ¬ nI 1 = 0 from by decide), if_pos (show nI 1 = 1 from rfl), if_neg (show ¬ (1 : Nat) = 0 from by decide), if_pos (show (1 : Nat) = 1 from rfl)]
    split <;> rfl
  | 2, _ =>
    rw [if_neg (show ¬ nI 2 = 0 from by decide), if_neg (show ¬ nI 2 = 1 from by decide), if_neg (show ¬ (2 : Nat) = 0 from by decide), if_neg (show ¬ (2 : Nat) = 1 from by decide)]
    split <;> rfl
  | n + 3, h => exact absurd h (by omega)
theorem neg10 {v : Nat} (hv : v < 100) : (-10 - nI v).toInt = -10 - (v : Int) := by
  have e : (-10 : Int32).toInt = -10 := rfl
  rw [fb_subI (by rw [e, nI_toInt (by omega)]; omega) (by rw [e, nI_toInt (by omega)]; omega), e, nI_toInt (by omega)]
theorem neg200 {v : Nat} (hv : v < 100) : (-200 - nI v).toInt = -200 - (v : Int) := by
  have e : (-200 : Int32).toInt = -200 := rfl
  rw [fb_subI (by rw [e, nI_toInt (by omega)]; omega) (by rw [e, nI_toInt (by omega)]; omega), e, nI_toInt (by omega)]
def sm_ (S : Nat) : Int32 := if S = 0 then 0 else 1

theorem in_' {c N : Nat} (h : c < N) (hN : N < 2 ^ 31) : ¬ (nI c < 0 ∨ N ≤ c) := by
  have q := nI_in h hN
  rw [nI_clamp (by omega)] at q
  exact q
theorem ix_' {K n N : Nat} (h : K + n < N) (hN : N < 2 ^ 31) : ¬ ((OfNat.ofNat K : Int32) + nI n < 0 ∨ N ≤ K + n) := by
  have q := ix_ (K := K) h hN
  rw [cl_ (by omega)] at q
  exact q
section MS
variable {km : Int32 → Int32 → (Nat → Int32) → Int32 → Option (Int32 × Int32 × (Nat → Int32))} {v K n j d : Nat} {tr : Nat → Int32} {x1 x2 l2 : Int32}
theorem eEnd_ (K n : Nat) : (258 + (140 * nI K)) + nI n = nI (258 + 140 * K + n) := by
  rw [show (140 : Int32) * nI K = nI (140 * K) from pk_mul 140 K, show (258 : Int32) + nI (140 * K) = nI (258 + 140 * K) from nI_add 258 _, nI_add]
theorem m_test {t g w : Nat} (hK : K < 8) (hj : j < n) (hn : n < 120) (e250 : f (250 + K) = nI n) (es : f (258 + 140 * K + j) = nI (t + 8 * g + 32 * w)) (ht : t < 5) (hg : g < 3) (hw : w < 100) (hd : d ≤ 30) : fX12_looks_L25 km fb f (nI K) (v + 1) x1 x2 tr l2 (nI d) (nI (258 + 140 * K + j)) = fX12_looks_L25 km fb f (nI K) v x1 x2 (upd tr d (nI (tv (fb t) (nI w) g))) l2 (nI (d + 1)) (nI (258 + 140 * K + (j + 1))) := by
  have k250 := cl_ (K := 250) (n := K) (by omega)
  have i250 := ix_' (K := 250) (n := K) (N := 1394) (by omega) (by decide)
  have cE : ¬ nI (258 + 140 * K + n) ≤ nI (258 + 140 * K + j) := nI_ge (by omega) (by omega)
  have kI := nI_clamp (n := 258 + 140 * K + j) (by omega)
  have iI := in_' (c := 258 + 140 * K + j) (N := 1394) (by omega) (by decide)
  have ei : nI (258 + 140 * K + j) + 1 = nI (258 + 140 * K + (j + 1)) := nI_1 _
  have p1 : nI (t + 8 * g + 32 * w) / 8 = nI (g + 4 * w) := (pk_div (a := t + 8 * g + 32 * w) (d := 8) (by omega) (by decide) (by decide)).trans (congrArg nI (by omega))
  have p2 : nI (t + 8 * g + 32 * w) - nI (g + 4 * w) * 8 = nI t := by
    have q := pk_rem (a := t + 8 * g + 32 * w) (d := 8) (by omega) (by decide) (by decide)
    rw [show nI (t + 8 * g + 32 * w) / nI 8 = nI (g + 4 * w) from p1] at q
    exact q.trans (congrArg nI (by omega))
  have p3 : nI (g + 4 * w) / 4 = nI w := (pk_div (a := g + 4 * w) (d := 4) (by omega) (by decide) (by decide)).trans (congrArg nI (by omega))
  have p4 : nI (g + 4 * w) - nI w * 4 = nI g := by
    have q := pk_rem (a := g + 4 * w) (d := 4) (by omega) (by decide) (by decide)
    rw [show nI (g + 4 * w) / nI 4 = nI w from p3] at q
    exact q.trans (congrArg nI (by omega))
  have p5 : nI (t + 8 * g + 32 * w) / 32 = nI w := (pk_div (a := t + 8 * g + 32 * w) (d := 32) (by omega) (by decide) (by decide)).trans (congrArg nI (by omega))
  have c0 : ¬ nI (t + 8 * g + 32 * w) < 0 := nI_pos (by omega)
  have kt := nI_clamp (n := t) (by omega)
  have it := in_' (c := t) (N := 5) (by omega) (by decide)
  have b2 := tv_lt (fb t) (nI w) g
  have hb : fX12_looks_b150 (fX12_looks_L25 km fb f (nI K) v) km x1 x2 fb f tr (nI K) l2 (nI d) (nI (258 + 140 * K + j)) (nI d) (nI (tv (fb t) (nI w) g)) = fX12_looks_L25 km fb f (nI K) v x1 x2 (upd tr d (nI (tv (fb t) (nI w) g))) l2 (nI (d + 1)) (nI (258 + 140 * K + (j + 1))) := by
    unfold fX12_looks_b150
    rw [if_neg (nI_in (by omega) (by decide)), nI_clamp (by omega), nar_b b2, nI_1, ei]
  simp only [fX12_looks_L25, k250, i250, e250, eEnd_, cE, kI, iI, es, c0, p1, p2, p3, p4, p5, kt, it, if_false]
  rw [← hb]
  exact tv_sel (fb t) (nI w) hg (fun x => fX12_looks_b150 (fX12_looks_L25 km fb f (nI K) v) km x1 x2 fb f tr (nI K) l2 (nI d) (nI (258 + 140 * K + j)) (nI d) x)
theorem m_not (hK : K < 8) (hj : j < n) (hn : n < 120) (e250 : f (250 + K) = nI n) (es : f (258 + 140 * K + j) = -1) (hd : d ≤ 30) : fX12_looks_L25 km fb f (nI K) (v + 1) x1 x2 tr l2 (nI (d + 1)) (nI (258 + 140 * K + j)) = fX12_looks_L25 km fb f (nI K) v x1 x2 (upd tr d (nI (1 - bb (tr d)))) l2 (nI (d + 1)) (nI (258 + 140 * K + (j + 1))) := by
  have k250 := cl_ (K := 250) (n := K) (by omega)
  have i250 := ix_' (K := 250) (n := K) (N := 1394) (by omega) (by decide)
  have cE : ¬ nI (258 + 140 * K + n) ≤ nI (258 + 140 * K + j) := nI_ge (by omega) (by omega)
  have kI := nI_clamp (n := 258 + 140 * K + j) (by omega)
  have iI := in_' (c := 258 + 140 * K + j) (N := 1394) (by omega) (by decide)
  have ei : nI (258 + 140 * K + j) + 1 = nI (258 + 140 * K + (j + 1)) := nI_1 _
  have kd := nI_clamp (n := d) (by omega)
  have iD := in_' (c := d) (N := 64) (by omega) (by decide)
  by_cases q : tr d = 0
  · have hb : bb (tr d) = 0 := by unfold bb; rw [if_pos q]
    simp only [fX12_looks_L25, k250, i250, e250, eEnd_, cE, kI, iI, es, nI_pred, kd, iD, q, fX12_looks_b186, ei, if_true, if_false, show (-1 : Int32) < 0 from by decide, show vp_nar .boolean 1 = nI 1 from by decide]
    rw [← q, hb]
  · have hb : bb (tr d) = 1 := by unfold bb; rw [if_neg q]
    simp only [fX12_looks_L25, k250, i250, e250, eEnd_, cE, kI, iI, es, nI_pred, kd, iD, q, fX12_looks_b186, ei, if_true, if_false, show (-1 : Int32) < 0 from by decide, show vp_nar .boolean 0 = nI 0 from by decide]
    rw [hb]
theorem m_and (hK : K < 8) (hj : j < n) (hn : n < 120) (e250 : f (250 + K) = nI n) (es : f (258 + 140 * K + j) = -2) (hd : d ≤ 30) : fX12_looks_L25 km fb f (nI K) (v + 1) x1 x2 tr l2 (nI (d + 1 + 1)) (nI (258 + 140 * K + j)) = fX12_looks_L25 km fb f (nI K) v x1 x2 (upd tr d (nI (bb (tr d) * bb (tr (d + 1))))) l2 (nI (d + 1)) (nI (258 + 140 * K + (j + 1))) := by
  have k250 := cl_ (K := 250) (n := K) (by omega)
  have i250 := ix_' (K := 250) (n := K) (N := 1394) (by omega) (by decide)
  have cE : ¬ nI (258 + 140 * K + n) ≤ nI (258 + 140 * K + j) := nI_ge (by omega) (by omega)
  have kI := nI_clamp (n := 258 + 140 * K + j) (by omega)
  have iI := in_' (c := 258 + 140 * K + j) (N := 1394) (by omega) (by decide)
  have ei : nI (258 + 140 * K + j) + 1 = nI (258 + 140 * K + (j + 1)) := nI_1 _
  have kd := nI_clamp (n := d) (by omega)
  have iD := in_' (c := d) (N := 64) (by omega) (by decide)
  have kd1 := nI_clamp (n := d + 1) (by omega)
  have iD1 := in_' (c := d + 1) (N := 64) (by omega) (by decide)
  have em : nI (d + 1 + 1) + (-1) = nI (d + 1) := pk_m1 _
  by_cases q : tr d = 0
  · have hb : bb (tr d) = 0 := by unfold bb; rw [if_pos q]
    rw [hb, Nat.zero_mul]
    simp only [fX12_looks_L25, k250, i250, e250, eEnd_, cE, kI, iI, es, em, nI_pred, kd, iD, q, fX12_looks_b238, fX12_looks_b267, ei, if_true, if_false, show (-2 : Int32) < 0 from by decide, show ¬ (-2 : Int32) = -1 from by decide, show ¬ (-2 : Int32) ≤ -10 from by decide, show vp_nar .boolean 0 = nI 0 from by decide]
  · have hb : bb (tr d) = 1 := by unfold bb; rw [if_neg q]
    by_cases q2 : tr (d + 1) = 0
    · have hb2 : bb (tr (d + 1)) = 0 := by unfold bb; rw [if_pos q2]
      rw [hb2, Nat.mul_zero]
      simp only [fX12_looks_L25, k250, i250, e250, eEnd_, cE, kI, iI, es, em, nI_pred, kd, iD, kd1, iD1, q, q2, fX12_looks_b238, fX12_looks_b267, ei, if_true, if_false, show (-2 : Int32) < 0 from by decide, show ¬ (-2 : Int32) = -1 from by decide, show ¬ (-2 : Int32) ≤ -10 from by decide, show vp_nar .boolean 0 = nI 0 from by decide]
    · have hb2 : bb (tr (d + 1)) = 1 := by unfold bb; rw [if_neg q2]
      rw [hb, hb2, Nat.mul_one]
      simp only [fX12_looks_L25, k250, i250, e250, eEnd_, cE, kI, iI, es, em, nI_pred, kd, iD, kd1, iD1, q, q2, fX12_looks_b238, fX12_looks_b267, ei, if_true, if_false, show (-2 : Int32) < 0 from by decide, show ¬ (-2 : Int32) = -1 from by decide, show ¬ (-2 : Int32) ≤ -10 from by decide, show vp_nar .boolean 1 = nI 1 from by decide]
theorem m_or (hK : K < 8) (hj : j < n) (hn : n < 120) (e250 : f (250 + K) = nI n) (es : f (258 + 140 * K + j) = -3) (hd : d ≤ 30) : fX12_looks_L25 km fb f (nI K) (v + 1) x1 x2 tr l2 (nI (d + 1 + 1)) (nI (258 + 140 * K + j)) = fX12_looks_L25 km fb f (nI K) v x1 x2 (upd tr d (nI (if bb (tr d) = 0 then bb (tr (d + 1)) else 1))) l2 (nI (d + 1)) (nI (258 + 140 * K + (j + 1))) := by
  have k250 := cl_ (K := 250) (n := K) (by omega)
  have i250 := ix_' (K := 250) (n := K) (N := 1394) (by omega) (by decide)
  have cE : ¬ nI (258 + 140 * K + n) ≤ nI (258 + 140 * K + j) := nI_ge (by omega) (by omega)
  have kI := nI_clamp (n := 258 + 140 * K + j) (by omega)
  have iI := in_' (c := 258 + 140 * K + j) (N := 1394) (by omega) (by decide)
  have ei : nI (258 + 140 * K + j) + 1 = nI (258 + 140 * K + (j + 1)) := nI_1 _
  have kd := nI_clamp (n := d) (by omega)
  have iD := in_' (c := d) (N := 64) (by omega) (by decide)
  have kd1 := nI_clamp (n := d + 1) (by omega)
  have iD1 := in_' (c := d + 1) (N := 64) (by omega) (by decide)
  have em : nI (d + 1 + 1) + (-1) = nI (d + 1) := pk_m1 _
  by_cases q : tr d = 0
  · have hb : bb (tr d) = 0 := by unfold bb; rw [if_pos q]
    rw [if_pos hb]
    by_cases q2 : tr (d + 1) = 0
    · have hb2 : bb (tr (d + 1)) = 0 := by unfold bb; rw [if_pos q2]
      rw [hb2]
      simp only [fX12_looks_L25, k250, i250, e250, eEnd_, cE, kI, iI, es, em, nI_pred, kd, iD, kd1, iD1, q, q2, fX12_looks_b262, fX12_looks_b267, ei, if_true, if_false, show (-3 : Int32) < 0 from by decide, show ¬ (-3 : Int32) = -1 from by decide, show ¬ (-3 : Int32) = -2 from by decide, show ¬ (-3 : Int32) ≤ -10 from by decide, show vp_nar .boolean 0 = nI 0 from by decide]
    · have hb2 : bb (tr (d + 1)) = 1 := by unfold bb; rw [if_neg q2]
      rw [hb2]
      simp only [fX12_looks_L25, k250, i250, e250, eEnd_, cE, kI, iI, es, em, nI_pred, kd, iD, kd1, iD1, q, q2, fX12_looks_b262, fX12_looks_b267, ei, if_true, if_false, show (-3 : Int32) < 0 from by decide, show ¬ (-3 : Int32) = -1 from by decide, show ¬ (-3 : Int32) = -2 from by decide, show ¬ (-3 : Int32) ≤ -10 from by decide, show vp_nar .boolean 1 = nI 1 from by decide]
  · have hb : bb (tr d) = 1 := by unfold bb; rw [if_neg q]
    rw [hb, if_neg (show ¬ (1 : Nat) = 0 from by decide)]
    simp only [fX12_looks_L25, k250, i250, e250, eEnd_, cE, kI, iI, es, em, nI_pred, kd, iD, kd1, iD1, q, fX12_looks_b262, fX12_looks_b267, ei, if_true, if_false, show (-3 : Int32) < 0 from by decide, show ¬ (-3 : Int32) = -1 from by decide, show ¬ (-3 : Int32) = -2 from by decide, show ¬ (-3 : Int32) ≤ -10 from by decide, show vp_nar .boolean 1 = nI 1 from by decide]
theorem m_turn {w T L S : Nat} (hK : K < 8) (hj : j < n) (hn : n < 120) (e250 : f (250 + K) = nI n) (es : f (258 + 140 * K + j) = -10 - nI w) (hw : w < 100) : fX12_looks_L25 km fb f (nI K) (v + 1) (nI T) (nI L) tr (sm_ S) (nI 1) (nI (258 + 140 * K + j)) = fX12_looks_L25 km fb f (nI K) v (nI (T + w * bb (tr 0))) (nI L) tr (sm_ S) (nI 0) (nI (258 + 140 * K + (j + 1))) := by
  have k250 := cl_ (K := 250) (n := K) (by omega)
  have i250 := ix_' (K := 250) (n := K) (N := 1394) (by omega) (by decide)
  have cE : ¬ nI (258 + 140 * K + n) ≤ nI (258 + 140 * K + j) := nI_ge (by omega) (by omega)
  have kI := nI_clamp (n := 258 + 140 * K + j) (by omega)
  have iI := in_' (c := 258 + 140 * K + j) (N := 1394) (by omega) (by decide)
  have ei : nI (258 + 140 * K + j) + 1 = nI (258 + 140 * K + (j + 1)) := nI_1 _
  have tI := neg10 hw
  have c7 : -10 - (-10 - nI w) = nI w := by
    rw [fa_eq, fb_subI (by rw [tI]; show _ ≤ (-10 : Int) - _; omega) (by rw [tI]; show (-10 : Int) - _ < _; omega), tI, nI_toInt (by omega)]
    show (-10 : Int) - (-10 - (w : Int)) = _
    omega
  have c1 : -10 - nI w < 0 := by rw [fa_lt, tI]; show _ < (0 : Int); omega
  have c2 : ¬ -10 - nI w = -1 := by rw [fa_eq, tI]; show ¬ _ = (-1 : Int); omega
  have c3 : -10 - nI w ≤ -10 := by rw [fa_le, tI]; show _ ≤ (-10 : Int); omega
  have c4 : ¬ -10 - nI w = -400 := by rw [fa_eq, tI]; show ¬ _ = (-400 : Int); omega
  have c5 : ¬ -10 - nI w ≤ -200 := by rw [fa_le, tI]; show ¬ _ ≤ (-200 : Int); omega
  have c6 : -200 < -10 - nI w := by rw [fa_lt, tI]; show (-200 : Int) < _; omega
  generalize -10 - nI w = s at es c1 c2 c3 c4 c5 c6 c7
  have z0 : (0 : Int32) = nI 0 := rfl
  by_cases q : tr 0 = 0
  · have hb : bb (tr 0) = 0 := by unfold bb; rw [if_pos q]
    rw [hb, Nat.mul_zero, Nat.add_zero]
    by_cases qs : S = 0
    · have hs : sm_ S = 0 := by unfold sm_; rw [if_pos qs]
      simp only [fX12_looks_L25, k250, i250, e250, eEnd_, cE, kI, iI, es, c1, c2, c3, c4, hs, q, fX12_looks_b298, fX12_looks_b299, fX12_looks_b330, fX12_looks_b331, fX12_looks_b374, ei, if_true, if_false, Int32.add_zero]
      rfl
    · have hs : sm_ S = 1 := by unfold sm_; rw [if_neg qs]
      simp only [fX12_looks_L25, k250, i250, e250, eEnd_, cE, kI, iI, es, c1, c2, c3, c4, hs, q, fX12_looks_b294, fX12_looks_b299, fX12_looks_b330, fX12_looks_b331, fX12_looks_b374, ei, if_true, if_false, Int32.add_zero, show ¬ (1 : Int32) = 0 from by decide]
      rfl
  · have hb : bb (tr 0) = 1 := by unfold bb; rw [if_neg q]
    rw [hb, Nat.mul_one]
    by_cases qs : S = 0
    · have hs : sm_ S = 0 := by unfold sm_; rw [if_pos qs]
      simp only [fX12_looks_L25, k250, i250, e250, eEnd_, cE, kI, iI, es, c1, c2, c3, c4, c5, c6, c7, hs, q, fX12_looks_b298, fX12_looks_b299, fX12_looks_b330, fX12_looks_b331, fX12_looks_b374, ei, if_true, if_false, Int32.add_zero, nI_add]
      rfl
    · have hs : sm_ S = 1 := by unfold sm_; rw [if_neg qs]
      simp only [fX12_looks_L25, k250, i250, e250, eEnd_, cE, kI, iI, es, c1, c2, c3, c4, c5, c6, c7, hs, q, fX12_looks_b294, fX12_looks_b299, fX12_looks_b330, fX12_looks_b331, fX12_looks_b374, ei, if_true, if_false, Int32.add_zero, nI_add, show ¬ (1 : Int32) = 0 from by decide]
      rfl
theorem m_lean {w T L S : Nat} (hK : K < 8) (hj : j < n) (hn : n < 120) (e250 : f (250 + K) = nI n) (es : f (258 + 140 * K + j) = -200 - nI w) (hw : w < 100) : fX12_looks_L25 km fb f (nI K) (v + 1) (nI T) (nI L) tr (sm_ S) (nI 1) (nI (258 + 140 * K + j)) = fX12_looks_L25 km fb f (nI K) v (nI T) (nI (L + w * bb (tr 0))) tr (sm_ S) (nI 0) (nI (258 + 140 * K + (j + 1))) := by
  have k250 := cl_ (K := 250) (n := K) (by omega)
  have i250 := ix_' (K := 250) (n := K) (N := 1394) (by omega) (by decide)
  have cE : ¬ nI (258 + 140 * K + n) ≤ nI (258 + 140 * K + j) := nI_ge (by omega) (by omega)
  have kI := nI_clamp (n := 258 + 140 * K + j) (by omega)
  have iI := in_' (c := 258 + 140 * K + j) (N := 1394) (by omega) (by decide)
  have ei : nI (258 + 140 * K + j) + 1 = nI (258 + 140 * K + (j + 1)) := nI_1 _
  have tI := neg200 hw
  have c7 : -200 - (-200 - nI w) = nI w := by
    rw [fa_eq, fb_subI (by rw [tI]; show _ ≤ (-200 : Int) - _; omega) (by rw [tI]; show (-200 : Int) - _ < _; omega), tI, nI_toInt (by omega)]
    show (-200 : Int) - (-200 - (w : Int)) = _
    omega
  have c1 : -200 - nI w < 0 := by rw [fa_lt, tI]; show _ < (0 : Int); omega
  have c2 : ¬ -200 - nI w = -1 := by rw [fa_eq, tI]; show ¬ _ = (-1 : Int); omega
  have c3 : -200 - nI w ≤ -10 := by rw [fa_le, tI]; show _ ≤ (-10 : Int); omega
  have c4 : ¬ -200 - nI w = -400 := by rw [fa_eq, tI]; show ¬ _ = (-400 : Int); omega
  have c5 : -200 - nI w ≤ -200 := by rw [fa_le, tI]; show _ ≤ (-200 : Int); omega
  have c6 : ¬ -200 < -200 - nI w := by rw [fa_lt, tI]; show ¬ (-200 : Int) < _; omega
  have c8 : ¬ -200 - nI w ≤ -400 := by rw [fa_le, tI]; show ¬ _ ≤ (-400 : Int); omega
  generalize -200 - nI w = s at es c1 c2 c3 c4 c5 c6 c7 c8
  by_cases q : tr 0 = 0
  · have hb : bb (tr 0) = 0 := by unfold bb; rw [if_pos q]
    rw [hb, Nat.mul_zero, Nat.add_zero]
    by_cases qs : S = 0
    · have hs : sm_ S = 0 := by unfold sm_; rw [if_pos qs]
      simp only [fX12_looks_L25, k250, i250, e250, eEnd_, cE, kI, iI, es, c1, c2, c3, c4, hs, q, fX12_looks_b298, fX12_looks_b299, fX12_looks_b330, fX12_looks_b331, fX12_looks_b374, ei, if_true, if_false, Int32.add_zero]
      rfl
    · have hs : sm_ S = 1 := by unfold sm_; rw [if_neg qs]
      simp only [fX12_looks_L25, k250, i250, e250, eEnd_, cE, kI, iI, es, c1, c2, c3, c4, hs, q, fX12_looks_b294, fX12_looks_b299, fX12_looks_b330, fX12_looks_b331, fX12_looks_b374, ei, if_true, if_false, Int32.add_zero, show ¬ (1 : Int32) = 0 from by decide]
      rfl
  · have hb : bb (tr 0) = 1 := by unfold bb; rw [if_neg q]
    rw [hb, Nat.mul_one]
    by_cases qs : S = 0
    · have hs : sm_ S = 0 := by unfold sm_; rw [if_pos qs]
      simp only [fX12_looks_L25, k250, i250, e250, eEnd_, cE, kI, iI, es, c1, c2, c3, c4, c5, c6, c7, c8, hs, q, fX12_looks_b298, fX12_looks_b299, fX12_looks_b330, fX12_looks_b331, fX12_looks_b374, ei, if_true, if_false, Int32.add_zero, nI_add]
      rfl
    · have hs : sm_ S = 1 := by unfold sm_; rw [if_neg qs]
      simp only [fX12_looks_L25, k250, i250, e250, eEnd_, cE, kI, iI, es, c1, c2, c3, c4, c5, c6, c7, c8, hs, q, fX12_looks_b294, fX12_looks_b299, fX12_looks_b330, fX12_looks_b331, fX12_looks_b374, ei, if_true, if_false, Int32.add_zero, nI_add, show ¬ (1 : Int32) = 0 from by decide]
      rfl
theorem m_skip {T L S : Nat} (hK : K < 8) (hj : j < n) (hn : n < 120) (e250 : f (250 + K) = nI n) (es : f (258 + 140 * K + j) = -400) : fX12_looks_L25 km fb f (nI K) (v + 1) (nI T) (nI L) tr (sm_ S) (nI 1) (nI (258 + 140 * K + j)) = fX12_looks_L25 km fb f (nI K) v (nI T) (nI L) tr (sm_ (S + bb (tr 0))) (nI 0) (nI (258 + 140 * K + (j + 1))) := by
  have k250 := cl_ (K := 250) (n := K) (by omega)
  have i250 := ix_' (K := 250) (n := K) (N := 1394) (by omega) (by decide)
  have cE : ¬ nI (258 + 140 * K + n) ≤ nI (258 + 140 * K + j) := nI_ge (by omega) (by omega)
  have kI := nI_clamp (n := 258 + 140 * K + j) (by omega)
  have iI := in_' (c := 258 + 140 * K + j) (N := 1394) (by omega) (by decide)
  have ei : nI (258 + 140 * K + j) + 1 = nI (258 + 140 * K + (j + 1)) := nI_1 _
  have c1 : (-400 : Int32) < 0 := by decide
  have c2 : ¬ (-400 : Int32) = -1 := by decide
  have c3 : (-400 : Int32) ≤ -10 := by decide
  have c5 : (-400 : Int32) ≤ -200 := by decide
  have c6 : ¬ (-200 : Int32) < -400 := by decide
  have c8 : (-400 : Int32) ≤ -400 := by decide
  by_cases q : tr 0 = 0
  · have hb : bb (tr 0) = 0 := by unfold bb; rw [if_pos q]
    have hS0 : sm_ (S + bb (tr 0)) = sm_ S := by rw [hb]; rfl
    rw [hS0]
    by_cases qs : S = 0
    · have hs : sm_ S = 0 := by unfold sm_; rw [if_pos qs]
      simp only [fX12_looks_L25, k250, i250, e250, eEnd_, cE, kI, iI, es, c1, c2, c3, hs, q, fX12_looks_b298, fX12_looks_b299, fX12_looks_b330, fX12_looks_b331, fX12_looks_b374, ei, if_true, if_false, Int32.add_zero]
      rfl
    · have hs : sm_ S = 1 := by unfold sm_; rw [if_neg qs]
      simp only [fX12_looks_L25, k250, i250, e250, eEnd_, cE, kI, iI, es, c1, c2, c3, hs, q, fX12_looks_b294, fX12_looks_b299, fX12_looks_b330, fX12_looks_b331, fX12_looks_b374, ei, if_true, if_false, Int32.add_zero, show ¬ (1 : Int32) = 0 from by decide]
      rfl
  · have hb : bb (tr 0) = 1 := by unfold bb; rw [if_neg q]
    have hs1 : sm_ (S + bb (tr 0)) = 1 := by unfold sm_; rw [hb, if_neg (by omega)]
    rw [hs1]
    by_cases qs : S = 0
    · have hs : sm_ S = 0 := by unfold sm_; rw [if_pos qs]
      simp only [fX12_looks_L25, k250, i250, e250, eEnd_, cE, kI, iI, es, c1, c2, c3, c5, c6, c8, hs, q, fX12_looks_b294, fX12_looks_b299, fX12_looks_b330, fX12_looks_b331, fX12_looks_b374, ei, if_true, if_false, Int32.add_zero]
      rfl
    · have hs : sm_ S = 1 := by unfold sm_; rw [if_neg qs]
      simp only [fX12_looks_L25, k250, i250, e250, eEnd_, cE, kI, iI, es, c1, c2, c3, c5, c6, c8, hs, q, fX12_looks_b294, fX12_looks_b299, fX12_looks_b330, fX12_looks_b331, fX12_looks_b374, ei, if_true, if_false, Int32.add_zero, show ¬ (1 : Int32) = 0 from by decide]
      rfl
end MS
end LK
