/-! the reader and the reference's parser: bytes, numbers, letters, words -/
section RD
variable {size p : Nat} {ta f : Nat → Int32}
def cC (size : Nat) (ta : Nat → Int32) (p : Nat) : Int32 := if p < size then ta p else 0
def cM (size : Nat) (ta : Nat → Int32) (p : Nat) : Int32 := if p < size then ta p else -1
theorem c_next (hs : size ≤ 120) (hp : p ≤ size) : fX3_nextByte (nI size) (nI p) ta = some (cC size ta p) := by
  unfold fX3_nextByte cC
  by_cases q : p < size
  · rw [if_neg (nI_ge q (by omega)), if_neg (nI_in (c := p) (N := 120) (by omega) (by decide)), nI_clamp (by omega), if_pos q]
  · rw [if_pos (nI_le (by omega) (by omega)), if_neg q]
theorem m_here (hs : size ≤ 120) (hp : p ≤ size) (hag : agr 120 10 ta f) : fX12_here (nI p) (nI size) f = some (cM size ta p) := by
  unfold fX12_here cM
  by_cases q : p < size
  · rw [if_neg (nI_ge q (by omega)), if_neg (ix_ (K := 10) (n := p) (N := 1394) (by omega) (by decide)), cl_ (K := 10) (n := p) (by omega), if_pos q, hag p (by omega)]
  · rw [if_pos (nI_le (by omega) (by omega)), if_neg q]
theorem ch_iff {x : Int32} (h0 : ¬ (0 : Int32) = x) (h1 : ¬ (-1 : Int32) = x) : cC size ta p = x ↔ cM size ta p = x := by
  unfold cC cM
  by_cases q : p < size
  · rw [if_pos q, if_pos q]
  · rw [if_neg q, if_neg q]
    exact ⟨fun e => absurd e h0, fun e => absurd e h1⟩
theorem ch_lt {x : Int32} (h0 : ¬ (0 : Int32) = x) (h : cC size ta p = x) : p < size := by
  unfold cC at h
  by_cases q : p < size
  · exact q
  · rw [if_neg q] at h
    exact absurd h h0
theorem cC_byte (hs : size ≤ 120) (hta : upto 120 255 ta) : ∃ b : Nat, b < 256 ∧ cC size ta p = nI b := by
  unfold cC
  by_cases q : p < size
  · obtain ⟨b, hb, e⟩ := hta p (by omega)
    exact ⟨b, by omega, by rw [if_pos q, e]⟩
  · exact ⟨0, by omega, by rw [if_neg q]; rfl⟩
theorem c_pass_y (hs : size ≤ 120) (hp : p ≤ size) {x : Int32} (h : cC size ta p = x) : fX3_passes (nI size) (nI p) ta x = some (1, nI (p + 1)) := by
  unfold fX3_passes
  rw [c_next hs hp, ob, if_pos h, nI_1]
theorem c_pass_n (hs : size ≤ 120) (hp : p ≤ size) {x : Int32} (h : ¬ cC size ta p = x) : fX3_passes (nI size) (nI p) ta x = some (0, nI p) := by
  unfold fX3_passes
  rw [c_next hs hp, ob, if_neg h]
theorem m_must_y (hs : size ≤ 120) (hp : p ≤ size) (hag : agr 120 10 ta f) {x : Int32} (h : cM size ta p = x) : fX12_must (nI p) (nI size) 0 f x = some (nI (p + 1), 0) := by
  unfold fX12_must fX12_must_b21
  rw [if_pos rfl, m_here hs hp hag, ob, if_pos h, if_neg (by decide), if_pos rfl, nI_1]
theorem m_must_n (hs : size ≤ 120) (hp : p ≤ size) (hag : agr 120 10 ta f) {x : Int32} (h : ¬ cM size ta p = x) : fX12_must (nI p) (nI size) 0 f x = some (nI p, 1) := by
  unfold fX12_must fX12_must_b16 fX12_must_b21
  rw [if_pos rfl, m_here hs hp hag, ob, if_neg h, if_neg (by decide), if_neg (by decide), Int32.add_zero]
theorem m_must_w (s e x : Int32) : fX12_must s e 1 f x = some (s, 1) := by
  unfold fX12_must fX12_must_b16 fX12_must_b21
  rw [if_neg (by decide), if_neg (by decide), if_neg (by decide), Int32.add_zero]
theorem m_fig_w (s e : Int32) : fX12_figures s e 1 f = some (0, s, 1) := by
  unfold fX12_figures fX12_figures_b22 fX12_figures_b27
  rw [if_neg (by decide), if_neg (by decide), show (2000 : Nat) = 1999 + 1 from rfl, fX12_figures_L34, if_neg (by decide), if_neg (by decide)]
theorem m_emit_w (a s : Int32) : fX12_emits a 1 f s = some f := by
  unfold fX12_emits
  rw [if_neg (by decide)]
/-! a number -/
theorem dg_no : ∀ b : Fin 256, (48 ≤ b.val ∧ b.val ≤ 57) ∨ (wI (nI b.val - 48) 0 9 = 0 ∧ wI (nI b.val) 48 57 = 0) := by decide +kernel
theorem dg_ya : ∀ d : Fin 10, ¬ wI (nI (48 + d.val) - 48) 0 9 = 0 ∧ ¬ wI (nI (48 + d.val)) 48 57 = 0 ∧ nI (48 + d.val) - 48 = nI d.val := by decide +kernel
theorem digit_or (hs : size ≤ 120) (hta : upto 120 255 ta) : (∃ d : Nat, d < 10 ∧ p < size ∧ cC size ta p = nI (48 + d) ∧ cM size ta p = nI (48 + d)) ∨ (wI (cC size ta p - 48) 0 9 = 0 ∧ wI (cM size ta p) 48 57 = 0) := by
  unfold cC cM
  by_cases q : p < size
  · obtain ⟨b, hb, e⟩ := hta p (by omega)
    rw [if_pos q, if_pos q, e]
    rcases dg_no ⟨b, by omega⟩ with ⟨h1, h2⟩ | h
    · have h1' : 48 ≤ b := h1
      have h2' : b ≤ 57 := h2
      exact Or.inl ⟨b - 48, by omega, q, by rw [show 48 + (b - 48) = b from by omega], by rw [show 48 + (b - 48) = b from by omega]⟩
    · exact Or.inr h
  · rw [if_neg q, if_neg q]
    exact Or.inr ⟨by decide, by decide⟩
theorem num_eq (hs : size ≤ 120) (hp : p ≤ size) (hta : upto 120 255 ta) (hag : agr 120 10 ta f) (num : Int32) : (fX3_readsNumber (nI size) (nI p) num ta = some (0, nI p, num) ∧ fX12_figures (nI p) (nI size) 0 f = some (0, nI p, 1)) ∨ ∃ v p' : Nat, v < 100 ∧ p < p' ∧ p' ≤ size ∧ fX3_readsNumber (nI size) (nI p) num ta = some (1, nI p', nI v) ∧ fX12_figures (nI p) (nI size) 0 f = some (nI v, nI p', 0) := by
  rcases digit_or (p := p) hs hta with ⟨d, hd, hp1, e1, e2⟩ | ⟨h1, h2⟩
  · obtain ⟨w1, w2, w3⟩ := dg_ya ⟨d, hd⟩
    have w1' : ¬ wI (nI (48 + d) - 48) 0 9 = 0 := w1
    have w2' : ¬ wI (nI (48 + d)) 48 57 = 0 := w2
    have w3' : nI (48 + d) - 48 = nI d := w3
    have hv0 : ((10 * (0 : Int32)) + nI (48 + d)) - 48 = nI d := by
      rw [show (10 * (0 : Int32)) = 0 from by decide, Int32.zero_add, w3']
    have hf : ∀ X, fX12_figures_L34 (nI size) 0 f (1998 + 1) (nI (p + 1)) (nI d) 1 = X → fX12_figures (nI p) (nI size) 0 f = X := by
      intro X hX
      unfold fX12_figures fX12_figures_b27
      rw [if_pos rfl, m_here hs hp hag, ob, wI_in, ob, e2, if_neg w2', if_neg (by decide), show (2000 : Nat) = 1998 + 1 + 1 from rfl, fX12_figures_L34, if_neg (by decide), if_pos rfl, m_here hs hp hag, ob, wI_in, ob, e2, if_neg w2', if_pos rfl]
      unfold fX12_figures_b68
      rw [m_here hs hp hag, ob, e2, hv0, nI_1, show (0 : Int32) + 1 = 1 from by decide]
      exact hX
    by_cases q0 : d = 0
    · subst q0
      refine Or.inr ⟨0, p + 1, by omega, by omega, by omega, ?_, hf _ ?_⟩
      · unfold fX3_readsNumber
        rw [c_next hs hp, ob, wI_is, ob, e1, if_neg w1', nI_1, c_next hs (by omega), ob, w3', if_pos (by decide)]
      · rw [fX12_figures_L34, if_neg (by decide), if_pos rfl, m_here hs (by omega) hag, ob, wI_in, ob]
        by_cases q : wI (cM size ta (p + 1)) 48 57 = 0
        · rw [if_pos q]
        · rw [if_neg q, if_neg (by decide), if_pos (by decide)]
    · have hd0 : ¬ nI d ≤ 0 := nI_nle (by omega) (by omega)
      rcases digit_or (p := p + 1) hs hta with ⟨d2, hd2, hp2, e3, e4⟩ | ⟨h3, h4⟩
      · obtain ⟨y1, y2, y3⟩ := dg_ya ⟨d2, hd2⟩
        have y1' : ¬ wI (nI (48 + d2) - 48) 0 9 = 0 := y1
        have y2' : ¬ wI (nI (48 + d2)) 48 57 = 0 := y2
        have y3' : nI (48 + d2) - 48 = nI d2 := y3
        have hv : ((10 * nI d) + nI (48 + d2)) - 48 = nI (10 * d + d2) := by
          rw [show (10 : Int32) * nI d = nI (10 * d) from pk_mul 10 d, nI_add]
          exact (pk_sub (a := 10 * d + (48 + d2)) (b := 48) (by omega)).trans (congrArg nI (by omega))
        have hv2 : (10 * nI d) + nI d2 = nI (10 * d + d2) := by
          rw [show (10 : Int32) * nI d = nI (10 * d) from pk_mul 10 d, nI_add]
        refine Or.inr ⟨10 * d + d2, p + 2, by omega, by omega, by omega, ?_, hf _ ?_⟩
        · unfold fX3_readsNumber
          rw [c_next hs hp, ob, wI_is, ob, e1, if_neg w1', nI_1, c_next hs (by omega), ob, w3', if_neg hd0, wI_is, ob, e3, if_neg y1', y3', hv2, nI_1]
        · rw [fX12_figures_L34, if_neg (by decide), if_pos rfl, m_here hs (by omega) hag, ob, wI_in, ob, e4, if_neg y2', if_neg (by decide), if_neg hd0]
          unfold fX12_figures_b68
          rw [m_here hs (by omega) hag, ob, e4, hv, nI_1, show (1998 : Nat) = 1997 + 1 from rfl, fX12_figures_L34, if_pos (by decide)]
      · refine Or.inr ⟨d, p + 1, by omega, by omega, by omega, ?_, hf _ ?_⟩
        · unfold fX3_readsNumber
          rw [c_next hs hp, ob, wI_is, ob, e1, if_neg w1', nI_1, c_next hs (by omega), ob, w3', if_neg hd0, wI_is, ob, if_pos h3]
        · rw [fX12_figures_L34, if_neg (by decide), if_pos rfl, m_here hs (by omega) hag, ob, wI_in, ob, if_pos h4]
  · refine Or.inl ⟨?_, ?_⟩
    · unfold fX3_readsNumber
      rw [c_next hs hp, ob, wI_is, ob, if_pos h1]
    · unfold fX12_figures fX12_figures_b22 fX12_figures_b27
      rw [if_pos rfl, m_here hs hp hag, ob, wI_in, ob, if_pos h2, if_neg (by decide), show (2000 : Nat) = 1999 + 1 from rfl, fX12_figures_L34, if_neg (by decide), if_neg (by decide)]
/-! letters -/
def lkL (x : Int32) : Option Nat := if x = 114 then some 0 else if x = 101 then some 1 else if x = 98 then some 2 else if x = 104 then some 3 else if x = 116 then some 4 else none
def lkS (x : Int32) : Option Nat := if x = 60 then some 0 else if x = 61 then some 1 else if x = 62 then some 2 else none
def lkI (o : Option Nat) : Int32 := match o with | some k => nI k | none => -1
theorem lkL_c : ∀ b : Fin 256, fJ0_indexOf 4 (((nI b.val).toUInt32 % 65536).toInt32) = some (lkI (lkL (nI b.val))) := by decide +kernel
theorem lkS_c : ∀ b : Fin 256, fJ0_indexOf 5 (((nI b.val).toUInt32 % 65536).toInt32) = some (lkI (lkS (nI b.val))) := by decide +kernel
theorem lkL_m {s e x : Int32} (hh : fX12_here s e f = some x) : fX12_among 6 s e f = some (match lkL x with | some k => (nI k, s + 1) | none => (-1, s)) := by
  unfold fX12_among
  rw [show (2000 : Nat) = 1994 + 1 + 1 + 1 + 1 + 1 + 1 from rfl]
  unfold lkL
  rw [fX12_among_L2, if_neg (by decide), hh, ob, if_neg (by decide), show js_ch 6 (0 : Int32).toNatClampNeg = 114 from by decide, show (0 : Int32) + 1 = 1 from by decide]
  by_cases q0 : x = 114
  · rw [if_pos q0, if_pos q0]; rfl
  rw [if_neg q0, if_neg q0, fX12_among_L2, if_neg (by decide), hh, ob, if_neg (by decide), show js_ch 6 (1 : Int32).toNatClampNeg = 101 from by decide, show (1 : Int32) + 1 = 2 from by decide]
  by_cases q1 : x = 101
  · rw [if_pos q1, if_pos q1]; rfl
  rw [if_neg q1, if_neg q1, fX12_among_L2, if_neg (by decide), hh, ob, if_neg (by decide), show js_ch 6 (2 : Int32).toNatClampNeg = 98 from by decide, show (2 : Int32) + 1 = 3 from by decide]
  by_cases q2 : x = 98
  · rw [if_pos q2, if_pos q2]; rfl
  rw [if_neg q2, if_neg q2, fX12_among_L2, if_neg (by decide), hh, ob, if_neg (by decide), show js_ch 6 (3 : Int32).toNatClampNeg = 104 from by decide, show (3 : Int32) + 1 = 4 from by decide]
  by_cases q3 : x = 104
  · rw [if_pos q3, if_pos q3]; rfl
  rw [if_neg q3, if_neg q3, fX12_among_L2, if_neg (by decide), hh, ob, if_neg (by decide), show js_ch 6 (4 : Int32).toNatClampNeg = 116 from by decide, show (4 : Int32) + 1 = 5 from by decide]
  by_cases q4 : x = 116
  · rw [if_pos q4, if_pos q4]; rfl
  rw [if_neg q4, if_neg q4, fX12_among_L2, if_pos (by decide)]
theorem lkS_m {s e x : Int32} (hh : fX12_here s e f = some x) : fX12_among 7 s e f = some (match lkS x with | some k => (nI k, s + 1) | none => (-1, s)) := by
  unfold fX12_among
  rw [show (2000 : Nat) = 1996 + 1 + 1 + 1 + 1 from rfl]
  unfold lkS
  rw [fX12_among_L2, if_neg (by decide), hh, ob, if_neg (by decide), show js_ch 7 (0 : Int32).toNatClampNeg = 60 from by decide, show (0 : Int32) + 1 = 1 from by decide]
  by_cases q0 : x = 60
  · rw [if_pos q0, if_pos q0]; rfl
  rw [if_neg q0, if_neg q0, fX12_among_L2, if_neg (by decide), hh, ob, if_neg (by decide), show js_ch 7 (1 : Int32).toNatClampNeg = 61 from by decide, show (1 : Int32) + 1 = 2 from by decide]
  by_cases q1 : x = 61
  · rw [if_pos q1, if_pos q1]; rfl
  rw [if_neg q1, if_neg q1, fX12_among_L2, if_neg (by decide), hh, ob, if_neg (by decide), show js_ch 7 (2 : Int32).toNatClampNeg = 62 from by decide, show (2 : Int32) + 1 = 3 from by decide]
  by_cases q2 : x = 62
  · rw [if_pos q2, if_pos q2]; rfl
  rw [if_neg q2, if_neg q2, fX12_among_L2, if_pos (by decide)]
theorem lkL_lt {x : Int32} {k : Nat} (h : lkL x = some k) : k < 5 := by
  unfold lkL at h
  split at h
  · cases h; decide
  split at h
  · cases h; decide
  split at h
  · cases h; decide
  split at h
  · cases h; decide
  split at h
  · cases h; decide
  · cases h
theorem lkS_lt {x : Int32} {k : Nat} (h : lkS x = some k) : k < 3 := by
  unfold lkS at h
  split at h
  · cases h; decide
  split at h
  · cases h; decide
  split at h
  · cases h; decide
  · cases h
theorem let_eq (hs : size ≤ 120) (hp : p ≤ size) (hta : upto 120 255 ta) (hag : agr 120 10 ta f) : (fJ0_indexOf 4 (((cC size ta p).toUInt32 % 65536).toInt32) = some (-1) ∧ fX12_among 6 (nI p) (nI size) f = some (-1, nI p)) ∨ ∃ t : Nat, t < 5 ∧ p < size ∧ fJ0_indexOf 4 (((cC size ta p).toUInt32 % 65536).toInt32) = some (nI t) ∧ fX12_among 6 (nI p) (nI size) f = some (nI t, nI (p + 1)) := by
  have hm := lkL_m (m_here hs hp hag)
  obtain ⟨b, hb, eb⟩ := cC_byte (p := p) hs hta
  have hc : fJ0_indexOf 4 (((nI b).toUInt32 % 65536).toInt32) = some (lkI (lkL (nI b))) := lkL_c ⟨b, hb⟩
  rw [← eb] at hc
  unfold cC cM at *
  by_cases q : p < size
  · rw [if_pos q] at hc hm ⊢
    cases hk : lkL (ta p) with
    | none => rw [hk] at hc hm; exact Or.inl ⟨hc, hm⟩
    | some t => rw [hk] at hc hm; exact Or.inr ⟨t, lkL_lt hk, q, hc, by rw [hm]; show some (nI t, nI p + 1) = _; rw [nI_1]⟩
  · rw [if_neg q] at hc hm ⊢
    exact Or.inl ⟨hc, hm⟩
theorem sgn_eq (hs : size ≤ 120) (hp : p ≤ size) (hta : upto 120 255 ta) (hag : agr 120 10 ta f) : (fJ0_indexOf 5 (((cC size ta p).toUInt32 % 65536).toInt32) = some (-1) ∧ fX12_among 7 (nI p) (nI size) f = some (-1, nI p)) ∨ ∃ t : Nat, t < 3 ∧ p < size ∧ fJ0_indexOf 5 (((cC size ta p).toUInt32 % 65536).toInt32) = some (nI t) ∧ fX12_among 7 (nI p) (nI size) f = some (nI t, nI (p + 1)) := by
  have hm := lkS_m (m_here hs hp hag)
  obtain ⟨b, hb, eb⟩ := cC_byte (p := p) hs hta
  have hc : fJ0_indexOf 5 (((nI b).toUInt32 % 65536).toInt32) = some (lkI (lkS (nI b))) := lkS_c ⟨b, hb⟩
  rw [← eb] at hc
  unfold cC cM at *
  by_cases q : p < size
  · rw [if_pos q] at hc hm ⊢
    cases hk : lkS (ta p) with
    | none => rw [hk] at hc hm; exact Or.inl ⟨hc, hm⟩
    | some t => rw [hk] at hc hm; exact Or.inr ⟨t, lkS_lt hk, q, hc, by rw [hm]; show some (nI t, nI p + 1) = _; rw [nI_1]⟩
  · rw [if_neg q] at hc hm ⊢
    exact Or.inl ⟨hc, hm⟩
/-! words -/
theorem spell_w (tm : Nat) (s e : Int32) (hl : js_len tm ≤ 20) : ∀ (m i v : Nat), i + m = js_len tm → m < v → fX12_spells_L2 tm e f v s 1 (nI i) = some (s, 1)
  | m, i, 0, _, h => absurd h (by omega)
  | 0, i, v + 1, h, _ => by
    have e1 : Int32.ofNat (js_len tm) = nI (js_len tm) := rfl
    rw [fX12_spells_L2, e1, if_pos (nI_le (by omega) (by omega))]
  | m + 1, i, v + 1, h, hv => by
    have e1 : Int32.ofNat (js_len tm) = nI (js_len tm) := rfl
    rw [fX12_spells_L2, e1, if_neg (nI_ge (by omega) (by omega)), if_neg (nI_in (c := i) (N := js_len tm) (by omega) (by omega)), m_must_w, ob, nI_1]
    exact spell_w tm s e hl m (i + 1) v (by omega) (by omega)
theorem spell_L (hs : size ≤ 120) (hag : agr 120 10 ta f) {tc tm off : Nat} (hlen : js_len tm = js_len tc + off) (hl : js_len tm ≤ 20) (hch : ∀ j, j < js_len tc → js_ch tm (j + off) = js_ch tc j ∧ (¬ (0 : Int32) = js_ch tc j) ∧ ¬ (-1 : Int32) = js_ch tc j) :
    ∀ (m i u v p : Nat), i + m = js_len tc → m < u → m < v → p ≤ size →
    (p + m ≤ size ∧ fX3_passesAll_L2 tc (nI size) ta u (nI p) (nI i) = some (1, nI (p + m)) ∧ fX12_spells_L2 tm (nI size) f v (nI p) 0 (nI (i + off)) = some (nI (p + m), 0)) ∨ (∃ p' : Nat, p' ≤ size ∧ fX3_passesAll_L2 tc (nI size) ta u (nI p) (nI i) = some (0, nI p') ∧ fX12_spells_L2 tm (nI size) f v (nI p) 0 (nI (i + off)) = some (nI p', 1)) := by
  have e1 : Int32.ofNat (js_len tc) = nI (js_len tc) := rfl
  have e2 : Int32.ofNat (js_len tm) = nI (js_len tm) := rfl
  intro m
  induction m with
  | zero =>
    intro i u v p hi hu hv hp
    obtain ⟨u, rfl⟩ : ∃ w, u = w + 1 := ⟨u - 1, by omega⟩
    obtain ⟨v, rfl⟩ : ∃ w, v = w + 1 := ⟨v - 1, by omega⟩
    refine Or.inl ⟨by omega, ?_, ?_⟩
    · rw [fX3_passesAll_L2, e1, if_pos (nI_le (by omega) (by omega))]; rfl
    · rw [fX12_spells_L2, e2, if_pos (nI_le (by omega) (by omega))]; rfl
  | succ m ih =>
    intro i u v p hi hu hv hp
    obtain ⟨u, rfl⟩ : ∃ w, u = w + 1 := ⟨u - 1, by omega⟩
    obtain ⟨v, rfl⟩ : ∃ w, v = w + 1 := ⟨v - 1, by omega⟩
    obtain ⟨h1, h2, h3⟩ := hch i (by omega)
    by_cases q : cC size ta p = js_ch tc i
    · have hlt := ch_lt h2 q
      have qm : cM size ta p = js_ch tc i := (ch_iff h2 h3).mp q
      have hc : fX3_passesAll_L2 tc (nI size) ta (u + 1) (nI p) (nI i) = fX3_passesAll_L2 tc (nI size) ta u (nI (p + 1)) (nI (i + 1)) := by
        rw [fX3_passesAll_L2, e1, if_neg (nI_ge (by omega) (by omega)), if_neg (nI_in (c := i) (N := js_len tc) (by omega) (by omega)), nI_clamp (by omega), c_pass_y hs hp q, ob, if_neg (show ¬ ((1 : Int32), nI (p + 1)).1 = 0 from (by decide : ¬ (1 : Int32) = 0)), nI_1]
      have hm : fX12_spells_L2 tm (nI size) f (v + 1) (nI p) 0 (nI (i + off)) = fX12_spells_L2 tm (nI size) f v (nI (p + 1)) 0 (nI (i + 1 + off)) := by
        rw [fX12_spells_L2, e2, if_neg (nI_ge (by omega) (by omega)), if_neg (nI_in (c := i + off) (N := js_len tm) (by omega) (by omega)), nI_clamp (by omega), h1, m_must_y hs hp hag qm, ob, nI_1, show i + off + 1 = i + 1 + off from by omega]
      rcases ih (i + 1) u v (p + 1) (by omega) (by omega) (by omega) (by omega) with ⟨a1, a2, a3⟩ | ⟨p', a1, a2, a3⟩
      · exact Or.inl ⟨by omega, by rw [hc, a2, show p + 1 + m = p + (m + 1) from by omega], by rw [hm, a3, show p + 1 + m = p + (m + 1) from by omega]⟩
      · exact Or.inr ⟨p', a1, by rw [hc, a2], by rw [hm, a3]⟩
    · have qm : ¬ cM size ta p = js_ch tc i := fun e => q ((ch_iff h2 h3).mpr e)
      refine Or.inr ⟨p, hp, ?_, ?_⟩
      · rw [fX3_passesAll_L2, e1, if_neg (nI_ge (by omega) (by omega)), if_neg (nI_in (c := i) (N := js_len tc) (by omega) (by omega)), nI_clamp (by omega), c_pass_n hs hp q, ob, if_pos rfl]
      · rw [fX12_spells_L2, e2, if_neg (nI_ge (by omega) (by omega)), if_neg (nI_in (c := i + off) (N := js_len tm) (by omega) (by omega)), nI_clamp (by omega), h1, m_must_n hs hp hag qm, ob, nI_1]
        exact spell_w tm (nI p) (nI size) hl m (i + off + 1) v (by omega) (by omega)
end RD
