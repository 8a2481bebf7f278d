/-! E, T, F: the reader and the reference's parser -/
section EX
theorem ne10 : ¬ (1 : Int32) = 0 := by decide
variable {size K : Nat} {ta : Nat → Int32}
abbrev RC : Type := Option (Int32 × Int32 × Int32 × Int32 × (Nat → Int32))
abbrev RM : Type := Option (Int32 × Int32 × Int32 × (Nat → Int32))
/-- nothing but law K's steps has changed -/
def frm (K : Nat) (f g : Nat → Int32) : Prop := ∀ j, j ≠ 250 + K → (j < 258 + 140 * K ∨ 258 + 140 * (K + 1) ≤ j) → g j = f j
theorem frm_refl (K : Nat) (f : Nat → Int32) : frm K f f := fun _ _ _ => rfl
theorem frm_trans {f g h : Nat → Int32} (a : frm K f g) (b : frm K g h) : frm K f h := fun j h1 h2 => (b j h1 h2).trans (a j h1 h2)
theorem frm_tape {f g : Nat → Int32} (a : frm K f g) (h : agr 120 10 ta f) : agr 120 10 ta g := fun j hj => (h j hj).trans (a (10 + j) (by omega) (by omega)).symm
/-- a state in which all is well: n steps are written, d answers wait -/
def GS (K n d : Nat) (sc f : Nat → Int32) : Prop := f (250 + K) = nI n ∧ stepsR n d (fun j => f (258 + 140 * K + j)) sc
/-- what comes of reading from p on -/
def PP (size K p n : Nat) (o : Int32) (f : Nat → Int32) (d' : Nat) (rc : RC) (rm : RM) : Prop :=
  (∃ (p' n' : Nat) (num : Int32) (sc' f' : Nat → Int32), p ≤ p' ∧ p' ≤ size ∧ n' + p ≤ p' + n ∧ rc = some (1, nI p', nI n', num, sc') ∧ rm = some (nI p', 0, o, f') ∧ GS K n' d' sc' f' ∧ frm K f f')
  ∨ (∃ (p' : Nat) (x1 x2 : Int32) (x3 f' : Nat → Int32), p' ≤ size ∧ rc = some (0, nI p', x1, x2, x3) ∧ rm = some (nI p', 1, o, f') ∧ frm K f f')
theorem emit_eq {n : Nat} {f : Nat → Int32} (hK : K < 8) (hn : n < 130) (e : f (250 + K) = nI n) (s : Int32) : fX12_emits (nI K) 0 f s = some (upd (upd f (258 + 140 * K + n) s) (250 + K) (nI (n + 1))) := by
  unfold fX12_emits
  rw [if_pos rfl, if_neg (ix_ (K := 250) (n := K) (N := 1394) (by omega) (by decide)), cl_ (K := 250) (n := K) (by omega), e, eEnd_, if_neg (nI_in (by omega) (by decide)), nI_clamp (by omega), pk_un (by omega), e, nI_1]
theorem adds_eq {n : Nat} (hn : n < 120) (sc : Nat → Int32) (a b : Int32) : fX3_adds (nI n) sc a b = some (1, nI (n + 1), upd sc n (a * 100 + b)) := by
  unfold fX3_adds
  rw [if_pos (r_lt (N := 120) hn (by decide)), if_neg (nI_in (c := n) (N := 120) hn (by decide)), nI_clamp (by omega), nI_1]
theorem emit_frm {n : Nat} {f : Nat → Int32} (hn : n < 140) (s x : Int32) : frm K f (upd (upd f (258 + 140 * K + n) s) (250 + K) x) := by
  intro j h1 h2
  rw [pk_un h1, pk_un (by omega)]
theorem GS_add {n d e : Nat} {sc f : Nat → Int32} {s c : Int32} (h : GS K n d sc f) (hn : n < 130) (hs : stepR s c d e) (he : e ≤ 30) : GS K (n + 1) e (upd sc n c) (upd (upd f (258 + 140 * K + n) s) (250 + K) (nI (n + 1))) := by
  obtain ⟨h1, dep, h2, h3, h4⟩ := h
  refine ⟨pk_us, fun j => if j = n + 1 then e else dep j, ?_, ?_, ?_⟩
  · show (if 0 = n + 1 then e else dep 0) = 0
    rw [if_neg (by omega)]; exact h2
  · show (if n + 1 = n + 1 then e else dep (n + 1)) = e
    rw [if_pos rfl]
  · intro j hj
    have e0 : (upd (upd f (258 + 140 * K + n) s) (250 + K) (nI (n + 1))) (258 + 140 * K + j) = upd f (258 + 140 * K + n) s (258 + 140 * K + j) := pk_un (by omega)
    show stepR ((upd (upd f (258 + 140 * K + n) s) (250 + K) (nI (n + 1))) (258 + 140 * K + j)) (upd sc n c j) (if j = n + 1 then e else dep j) (if j + 1 = n + 1 then e else dep (j + 1)) ∧ (if j + 1 = n + 1 then e else dep (j + 1)) ≤ 30
    rw [e0, if_neg (show ¬ j = n + 1 by omega)]
    by_cases q : j = n
    · subst q
      rw [pk_us, pk_us, if_pos rfl, h3]
      exact ⟨hs, he⟩
    · rw [pk_un (by omega), pk_un q, if_neg (show ¬ j + 1 = n + 1 by omega)]
      exact h4 j (by omega)
/-! a TEST -/
theorem test_c {n p d : Nat} {sc f : Nat → Int32} {o : Int32} (hK : K < 8) (hs : size ≤ 120) (hta : upto 120 255 ta) (hag : agr 120 10 ta f) (hp : p ≤ size) (hn : n ≤ p) (hd : d ≤ 20) (hG : GS K n d sc f) (num : Int32) (g1 g2 g3 : Int32 → Int32 → Int32 → Int32 → (Nat → Int32) → (Nat → Int32) → Int32 → RC) (k1 k2 k3 : Int32 → Int32 → Int32 → Int32 → Int32 → (Nat → Int32) → RM) :
    PP size K p n o f (d + 1) (fX3_readsOne_b79 g1 g2 g3 (nI size) (nI p) (nI n) num sc ta) (Option.bind (fX12_among 6 (nI p) (nI size) f) (fun r18 => (if r18.1 = (-1) then (fX12_factor_b130 k1 k2 k3 (nI K) r18.2 (nI size) 0 o f r18.1 (1 : Int32)) else (fX12_factor_b130 k1 k2 k3 (nI K) r18.2 (nI size) 0 o f r18.1 (0 : Int32))))) := by
  have hneg : ∀ t : Nat, t < 5 → ¬ nI t = -1 := by
    intro t ht e
    rw [fa_eq, nI_toInt (by omega)] at e
    have e' : (t : Int) = -1 := e
    omega
  have h0m1 : ¬ (0 : Int32) ≤ -1 := by decide
  rcases let_eq hs hp hta hag with ⟨a1, a2⟩ | ⟨t, ht, hp1, a1, a2⟩
  · refine Or.inr ⟨p, nI n, num, sc, f, hp, ?_, ?_, frm_refl K f⟩
    · unfold fX3_readsOne_b79
      rw [c_next hs hp, ob, a1, ob, if_neg h0m1]
    · rw [a2, ob, if_pos rfl]
      unfold fX12_factor_b130 fX12_factor_b150 fX12_factor_b164 fX12_factor_b169
      rw [if_neg (by decide), if_neg (by decide), if_neg (by decide), if_neg (by decide), m_fig_w, ob, m_emit_w, ob]
  · have ht0 : (0 : Int32) ≤ nI t := nI_pos' (by omega)
    rcases sgn_eq (p := p + 1) hs (by omega) hta hag with ⟨b1, b2⟩ | ⟨g, hg, hp2, b1, b2⟩
    · refine Or.inr ⟨p + 1, nI n, num, sc, f, by omega, ?_, ?_, frm_refl K f⟩
      · unfold fX3_readsOne_b79
        rw [c_next hs hp, ob, a1, ob, if_pos ht0, nI_1, c_next hs (by omega), ob, b1, ob, if_neg h0m1]
      · rw [a2, ob, if_neg (show ¬ (nI t, nI (p + 1)).1 = -1 from hneg t ht)]
        unfold fX12_factor_b130 fX12_factor_b150 fX12_factor_b164 fX12_factor_b169
        rw [if_neg (by decide), if_pos rfl, b2, ob, if_pos rfl, if_pos rfl, if_neg (by decide), m_fig_w, ob, m_emit_w, ob]
    · have hg0 : (0 : Int32) ≤ nI g := nI_pos' (by omega)
      have hmod : ∀ X, Option.bind (fX12_figures (nI (p + 2)) (nI size) 0 f) (fun r27 => (Option.bind (fX12_emits (nI K) r27.2.2 f ((nI t + (8 * nI g)) + (32 * r27.1))) (fun r29 => some (r27.2.1, r27.2.2, o, r29)))) = X → (Option.bind (fX12_among 6 (nI p) (nI size) f) (fun r18 => (if r18.1 = (-1) then (fX12_factor_b130 k1 k2 k3 (nI K) r18.2 (nI size) 0 o f r18.1 (1 : Int32)) else (fX12_factor_b130 k1 k2 k3 (nI K) r18.2 (nI size) 0 o f r18.1 (0 : Int32))))) = X := by
        intro X hX
        rw [a2, ob, if_neg (show ¬ (nI t, nI (p + 1)).1 = -1 from hneg t ht)]
        unfold fX12_factor_b130 fX12_factor_b150 fX12_factor_b169
        rw [if_neg (by decide), if_pos rfl, b2, ob, if_pos rfl, if_neg (show ¬ (nI g, nI (p + 1 + 1)).1 = -1 from hneg g (by omega)), if_neg (by decide)]
        exact hX
      have hcl : ∀ X, Option.bind (fX3_readsNumber (nI size) (nI (p + 2)) num ta) (fun r13 => (if r13.1 = 0 then some ((0 : Int32), r13.2.1, nI n, r13.2.2, sc) else (Option.bind (fX3_adds (nI n) sc ((nI t * 3) + nI g) r13.2.2) (fun r16 => (if r16.1 = 0 then some ((0 : Int32), r13.2.1, r16.2.1, r13.2.2, r16.2.2) else some ((1 : Int32), r13.2.1, r16.2.1, r13.2.2, r16.2.2)))))) = X → fX3_readsOne_b79 g1 g2 g3 (nI size) (nI p) (nI n) num sc ta = X := by
        intro X hX
        unfold fX3_readsOne_b79
        rw [c_next hs hp, ob, a1, ob, if_pos ht0, nI_1, c_next hs (by omega), ob, b1, ob, if_pos hg0, nI_1]
        exact hX
      rcases num_eq (p := p + 2) hs (by omega) hta hag num with ⟨c1, c2⟩ | ⟨v, p', hv, hp3, hp4, c1, c2⟩
      · refine Or.inr ⟨p + 2, nI n, num, sc, f, by omega, hcl _ ?_, hmod _ ?_, frm_refl K f⟩
        · rw [c1, ob, if_pos rfl]
        · rw [c2, ob]
          show Option.bind (fX12_emits (nI K) 1 f _) _ = _
          rw [m_emit_w, ob]
      · have en : nI t * 3 + nI g = nI (t * 3 + g) := by
          rw [show nI t * (3 : Int32) = nI (t * 3) from pk_mul t 3, nI_add]
        have ec : nI (t * 3 + g) * 100 + nI v = nI ((t * 3 + g) * 100 + v) := by
          rw [show nI (t * 3 + g) * (100 : Int32) = nI ((t * 3 + g) * 100) from pk_mul _ 100, nI_add]
        have em : (nI t + (8 * nI g)) + (32 * nI v) = nI (t + 8 * g + 32 * v) := by
          rw [show (8 : Int32) * nI g = nI (8 * g) from pk_mul 8 g, show (32 : Int32) * nI v = nI (32 * v) from pk_mul 32 v, nI_add, nI_add]
        refine Or.inl ⟨p', n + 1, nI v, upd sc n (nI ((t * 3 + g) * 100 + v)), _, by omega, hp4, by omega, hcl _ ?_, hmod _ ?_, GS_add (s := nI (t + 8 * g + 32 * v)) hG (by omega) (Or.inl ⟨t, g, v, ht, hg, hv, rfl, rfl, rfl⟩) (by omega), emit_frm (by omega) _ _⟩
        · rw [c1, ob, if_neg (show ¬ ((1 : Int32), nI p', nI v).1 = 0 from (by decide : ¬ (1 : Int32) = 0))]
          show Option.bind (fX3_adds (nI n) sc ((nI t * 3) + nI g) (nI v)) _ = _
          rw [en, adds_eq (by omega), ob, ec, if_neg ne10]
        · rw [c2, ob]
          show Option.bind (fX12_emits (nI K) 0 f ((nI t + (8 * nI g)) + (32 * nI v))) _ = _
          rw [em, emit_eq hK (by omega) hG.1, ob]
/-! where all is wrong already -/
theorem tM_w0 {n : Nat} (hn : 1 ≤ n) (a s e o : Int32) (f : Nat → Int32) : tM n 0 a s e 1 o f = some (s, 1, o, f) := by
  obtain ⟨n, rfl⟩ : ∃ q, n = q + 1 := ⟨n - 1, by omega⟩
  rw [tM, if_pos rfl]
  unfold fX12_factor
  rw [if_neg (by decide)]
theorem tM_w1 {n : Nat} (hn : 2 ≤ n) (a s e o : Int32) (f : Nat → Int32) : tM n 1 a s e 1 o f = some (s, 1, o, f) := by
  obtain ⟨n, rfl⟩ : ∃ q, n = q + 1 := ⟨n - 1, by omega⟩
  rw [tM, if_neg (by decide), if_pos rfl]
  unfold fX12_every
  rw [tM_w0 (by omega), ob, show (2000 : Nat) = 1999 + 1 from rfl, fX12_every_L4, if_neg ne10]
theorem tM_w2 {n : Nat} (hn : 3 ≤ n) (a s e o : Int32) (f : Nat → Int32) : tM n 2 a s e 1 o f = some (s, 1, o, f) := by
  obtain ⟨n, rfl⟩ : ∃ q, n = q + 1 := ⟨n - 1, by omega⟩
  rw [tM, if_neg (by decide), if_neg (by decide)]
  unfold fX12_some
  rw [tM_w1 (by omega), ob, show (2000 : Nat) = 1999 + 1 from rfl, fX12_some_L4, if_neg ne10]
/-- what is owed of F, T and E: kind k, so many open, with so much fuel -/
def PO (size K : Nat) (ta : Nat → Int32) (k o lo : Nat) (m : Nat) : Prop :=
  ∀ (fuel p n d : Nat) (num : Int32) (sc f : Nat → Int32), m ≤ fuel → agr 120 10 ta f → p ≤ size → n ≤ p → d ≤ lo → GS K n d sc f → PP size K p n (nI o) f (d + 1) (tR fuel k (nI size) (nI p) (nI n) num sc ta (nI o)) (tM fuel k (nI K) (nI p) (nI size) 0 (nI o) f)
theorem F_5 (hK : K < 8) (hs : size ≤ 120) (hta : upto 120 255 ta) : PO size K ta 0 5 12 4 := by
  intro fuel p n d num sc f hfu hag hp hn hd hG
  obtain ⟨fuel, rfl⟩ : ∃ q, fuel = q + 1 := ⟨fuel - 1, by omega⟩
  rw [tR, if_pos rfl, tM, if_pos rfl]
  have hc : fX3_readsOne (tR fuel 0) (tR fuel 1) (tR fuel 2) (nI size) (nI p) (nI n) num sc ta (nI 5) = fX3_readsOne_b79 (tR fuel 0) (tR fuel 1) (tR fuel 2) (nI size) (nI p) (nI n) num sc ta := by
    unfold fX3_readsOne fX3_readsOne_b40
    rw [if_pos (by decide), if_pos (by decide)]
  rw [hc]
  have hT := test_c (o := nI 5) hK hs hta hag hp hn (by omega) hG num (tR fuel 0) (tR fuel 1) (tR fuel 2) (tM fuel 0) (tM fuel 1) (tM fuel 2)
  have bad : ∀ x : Int32, x = 33 ∨ x = 40 → cM size ta p = x → PP size K p n (nI 5) f (d + 1) (fX3_readsOne_b79 (tR fuel 0) (tR fuel 1) (tR fuel 2) (nI size) (nI p) (nI n) num sc ta) (some (nI p, 1, nI 5, f)) := by
    intro x hx hcm
    have hcc : cC size ta p = x := (ch_iff (by rcases hx with rfl | rfl <;> decide) (by rcases hx with rfl | rfl <;> decide)).mpr hcm
    refine Or.inr ⟨p, nI n, num, sc, f, hp, ?_, rfl, frm_refl K f⟩
    unfold fX3_readsOne_b79
    rw [c_next hs hp, ob, hcc]
    rcases hx with rfl | rfl
    · rw [show fJ0_indexOf 4 (((33 : Int32).toUInt32 % 65536).toInt32) = some (-1) from by decide +kernel, ob, if_neg (by decide)]
    · rw [show fJ0_indexOf 4 (((40 : Int32).toUInt32 % 65536).toInt32) = some (-1) from by decide +kernel, ob, if_neg (by decide)]
  unfold fX12_factor
  rw [if_pos rfl, m_here hs hp hag, ob]
  by_cases q1 : cM size ta p = 33
  · rw [if_pos q1]
    unfold fX12_factor_b25 fX12_factor_b39 fX12_factor_b69
    rw [if_pos (show nI 5 = 5 from rfl), if_neg (by decide), if_neg (by decide), if_pos q1, tM_w0 (by omega), ob]
    show PP _ _ _ _ _ _ _ _ (Option.bind (fX12_emits (nI K) 1 f (-1)) _)
    rw [m_emit_w, ob, Int32.add_zero]
    show PP _ _ _ _ _ _ _ _ (some (nI p, 1, nI 5 + 1 - 1, f))
    rw [show nI 5 + 1 - 1 = nI 5 from by decide]
    exact bad 33 (Or.inl rfl) q1
  · rw [if_neg q1]
    by_cases q2 : cM size ta p = 40
    · rw [if_pos q2]
      unfold fX12_factor_b25 fX12_factor_b39 fX12_factor_b69
      rw [if_pos (show nI 5 = 5 from rfl), if_neg (by decide), if_neg (by decide), if_neg q1, tM_w2 (by omega), ob]
      show PP _ _ _ _ _ _ _ _ (Option.bind (fX12_must (nI p + 0) (nI size) 1 f 41) _)
      rw [m_must_w, ob, Int32.add_zero]
      show PP _ _ _ _ _ _ _ _ (some (nI p, 1, nI 5 + 1 - 1, f))
      rw [show nI 5 + 1 - 1 = nI 5 from by decide]
      exact bad 40 (Or.inr rfl) q2
    · rw [if_neg q2]
      exact hT
theorem F_o {o : Nat} (ho : o < 5) (hK : K < 8) (hs : size ≤ 120) (hta : upto 120 255 ta) {m : Nat} (hF : PO size K ta 0 (o + 1) (2 * o + 4) m) (hE : PO size K ta 2 (o + 1) (2 * o + 2) m) : PO size K ta 0 o (2 * o + 2) (m + 1) := by
  intro fuel p n d num sc f hfu hag hp hn hd hG
  obtain ⟨fuel, rfl⟩ : ∃ q, fuel = q + 1 := ⟨fuel - 1, by omega⟩
  rw [tR, if_pos rfl, tM, if_pos rfl]
  have o5 : ¬ (5 : Int32) ≤ nI o := q_ge (N := 5) ho (by decide)
  have o5' : ¬ nI o = 5 := ne_lit (N := 5) ho (by decide)
  have oi : nI o + 1 = nI (o + 1) := nI_1 o
  have od : nI (o + 1) - 1 = nI o := nI_pred o
  unfold fX12_factor
  rw [if_pos rfl, m_here hs hp hag, ob]
  by_cases q1 : cM size ta p = 33
  · have c1 : cC size ta p = 33 := (ch_iff (by decide) (by decide)).mpr q1
    have hlt := ch_lt (by decide) c1
    have hcl : ∀ X, (Option.bind (tR fuel 0 (nI size) (nI (p + 1)) (nI n) num sc ta (nI (o + 1))) (fun r31 => (if r31.1 = 0 then some ((0 : Int32), r31.2.1, r31.2.2.1, r31.2.2.2.1, r31.2.2.2.2) else (Option.bind (fX3_adds r31.2.2.1 r31.2.2.2.2 (15 : Int32) (0 : Int32)) (fun r34 => (if r34.1 = 0 then some ((0 : Int32), r31.2.1, r34.2.1, r31.2.2.2.1, r34.2.2) else some ((1 : Int32), r31.2.1, r34.2.1, r31.2.2.2.1, r34.2.2))))))) = X → fX3_readsOne (tR fuel 0) (tR fuel 1) (tR fuel 2) (nI size) (nI p) (nI n) num sc ta (nI o) = X := by
      intro X hX
      unfold fX3_readsOne
      rw [if_neg o5, c_pass_y hs hp c1, ob, if_neg (show ¬ ((1 : Int32), nI (p + 1)).1 = 0 from (by decide : ¬ (1 : Int32) = 0)), oi]
      exact hX
    have hml : ∀ X, (Option.bind (tM fuel 0 (nI K) (nI (p + 1)) (nI size) 0 (nI (o + 1)) f) (fun r13 => (Option.bind (fX12_emits (nI K) r13.2.1 r13.2.2.2 ((-1) : Int32)) (fun r15 => some (r13.1, r13.2.1, (r13.2.2.1 - 1), r15))))) = X → fX12_factor_b25 (tM fuel 0) (tM fuel 1) (tM fuel 2) (nI K) (nI p) (nI size) 0 (nI o) f (cM size ta p) = X := by
      intro X hX
      unfold fX12_factor_b25 fX12_factor_b39 fX12_factor_b69
      rw [if_neg o5', if_neg (by decide), if_pos rfl, if_pos q1, oi, nI_1]
      exact hX
    rw [if_pos q1]
    rcases hF fuel (p + 1) n d num sc f (by omega) hag (by omega) (by omega) (by omega) hG with ⟨p', n', num', sc', f', h1, h2, h3, h4, h5, h6, h7⟩ | ⟨p', x1, x2, x3, f', h1, h2, h3, h4⟩
    · refine Or.inl ⟨p', n' + 1, num', upd sc' n' (nI 1500), _, by omega, h2, by omega, hcl _ ?_, hml _ ?_, GS_add (s := -1) h6 (by omega) (Or.inr (Or.inl ⟨rfl, rfl, by omega, rfl⟩)) (by omega), frm_trans h7 (emit_frm (by omega) _ _)⟩
      · rw [h4, ob, if_neg ne10]
        show Option.bind (fX3_adds (nI n') sc' 15 0) _ = _
        rw [adds_eq (by omega), ob, if_neg ne10]
        rfl
      · rw [h5, ob]
        show Option.bind (fX12_emits (nI K) 0 f' (-1)) _ = _
        rw [emit_eq hK (by omega) h6.1, ob]
        show some (nI p', (0 : Int32), nI (o + 1) - 1, _) = _
        rw [od]
    · refine Or.inr ⟨p', x1, x2, x3, f', h1, hcl _ ?_, hml _ ?_, h4⟩
      · rw [h2, ob, if_pos rfl]
      · rw [h3, ob]
        show Option.bind (fX12_emits (nI K) 1 f' (-1)) _ = _
        rw [m_emit_w, ob]
        show some (nI p', (1 : Int32), nI (o + 1) - 1, _) = _
        rw [od]
  · have c1 : ¬ cC size ta p = 33 := fun e => q1 ((ch_iff (by decide) (by decide)).mp e)
    have hc1 : fX3_readsOne (tR fuel 0) (tR fuel 1) (tR fuel 2) (nI size) (nI p) (nI n) num sc ta (nI o) = fX3_readsOne_b40 (tR fuel 0) (tR fuel 1) (tR fuel 2) (nI size) (nI p) (nI n) num sc ta (nI o) := by
      unfold fX3_readsOne
      rw [if_neg o5, c_pass_n hs hp c1, ob, if_pos rfl]
    rw [if_neg q1, hc1]
    by_cases q2 : cM size ta p = 40
    · have c2 : cC size ta p = 40 := (ch_iff (by decide) (by decide)).mpr q2
      have hlt := ch_lt (by decide) c2
      have hcl : ∀ X, (Option.bind (tR fuel 2 (nI size) (nI (p + 1)) (nI n) num sc ta (nI (o + 1))) (fun r22 => (if r22.1 = 0 then some ((0 : Int32), r22.2.1, r22.2.2.1, r22.2.2.2.1, r22.2.2.2.2) else (Option.bind (fX3_passes (nI size) r22.2.1 ta (41 : Int32)) (fun r25 => (if r25.1 = 0 then some ((0 : Int32), r25.2, r22.2.2.1, r22.2.2.2.1, r22.2.2.2.2) else some ((1 : Int32), r25.2, r22.2.2.1, r22.2.2.2.1, r22.2.2.2.2))))))) = X → fX3_readsOne_b40 (tR fuel 0) (tR fuel 1) (tR fuel 2) (nI size) (nI p) (nI n) num sc ta (nI o) = X := by
        intro X hX
        unfold fX3_readsOne_b40
        rw [if_neg o5, c_pass_y hs hp c2, ob, if_neg (show ¬ ((1 : Int32), nI (p + 1)).1 = 0 from (by decide : ¬ (1 : Int32) = 0)), oi]
        exact hX
      have hml : ∀ X, (Option.bind (tM fuel 2 (nI K) (nI (p + 1)) (nI size) 0 (nI (o + 1)) f) (fun r9 => (Option.bind (fX12_must r9.1 (nI size) r9.2.1 r9.2.2.2 (41 : Int32)) (fun r11 => some (r11.1, r11.2, (r9.2.2.1 - 1), r9.2.2.2))))) = X → fX12_factor_b25 (tM fuel 0) (tM fuel 1) (tM fuel 2) (nI K) (nI p) (nI size) 0 (nI o) f (cM size ta p) = X := by
        intro X hX
        unfold fX12_factor_b25 fX12_factor_b39 fX12_factor_b69
        rw [if_neg o5', if_neg (by decide), if_pos rfl, if_neg q1, oi, nI_1]
        exact hX
      rw [if_pos q2]
      rcases hE fuel (p + 1) n d num sc f (by omega) hag (by omega) (by omega) (by omega) hG with ⟨p', n', num', sc', f', h1, h2, h3, h4, h5, h6, h7⟩ | ⟨p', x1, x2, x3, f', h1, h2, h3, h4⟩
      · have hag' := frm_tape h7 hag
        by_cases q3 : cM size ta p' = 41
        · have c3 : cC size ta p' = 41 := (ch_iff (by decide) (by decide)).mpr q3
          have hlt3 := ch_lt (by decide) c3
          refine Or.inl ⟨p' + 1, n', num', sc', f', by omega, by omega, by omega, hcl _ ?_, hml _ ?_, h6, h7⟩
          · rw [h4, ob, if_neg ne10]
            show Option.bind (fX3_passes (nI size) (nI p') ta 41) _ = _
            rw [c_pass_y hs h2 c3, ob, if_neg (show ¬ ((1 : Int32), nI (p' + 1)).1 = 0 from (by decide : ¬ (1 : Int32) = 0))]
          · rw [h5, ob]
            show Option.bind (fX12_must (nI p') (nI size) 0 f' 41) _ = _
            rw [m_must_y hs h2 hag' q3, ob]
            show some (nI (p' + 1), (0 : Int32), nI (o + 1) - 1, _) = _
            rw [od]
        · have c3 : ¬ cC size ta p' = 41 := fun e => q3 ((ch_iff (by decide) (by decide)).mp e)
          refine Or.inr ⟨p', nI n', num', sc', f', h2, hcl _ ?_, hml _ ?_, h7⟩
          · rw [h4, ob, if_neg ne10]
            show Option.bind (fX3_passes (nI size) (nI p') ta 41) _ = _
            rw [c_pass_n hs h2 c3, ob, if_pos rfl]
          · rw [h5, ob]
            show Option.bind (fX12_must (nI p') (nI size) 0 f' 41) _ = _
            rw [m_must_n hs h2 hag' q3, ob]
            show some (nI p', (1 : Int32), nI (o + 1) - 1, _) = _
            rw [od]
      · refine Or.inr ⟨p', x1, x2, x3, f', h1, hcl _ ?_, hml _ ?_, h4⟩
        · rw [h2, ob, if_pos rfl]
        · rw [h3, ob]
          show Option.bind (fX12_must (nI p') (nI size) 1 f' 41) _ = _
          rw [m_must_w, ob]
          show some (nI p', (1 : Int32), nI (o + 1) - 1, _) = _
          rw [od]
    · have c2 : ¬ cC size ta p = 40 := fun e => q2 ((ch_iff (by decide) (by decide)).mp e)
      have hc2 : fX3_readsOne_b40 (tR fuel 0) (tR fuel 1) (tR fuel 2) (nI size) (nI p) (nI n) num sc ta (nI o) = fX3_readsOne_b79 (tR fuel 0) (tR fuel 1) (tR fuel 2) (nI size) (nI p) (nI n) num sc ta := by
        unfold fX3_readsOne_b40
        rw [if_neg o5, c_pass_n hs hp c2, ob, if_pos rfl]
      rw [if_neg q2, hc2]
      exact test_c hK hs hta hag hp hn (by omega) hG num _ _ _ _ _ _
/-! T_o: a loop over F, with & between -/
theorem T_o_L {o : Nat} (hK : K < 8) (hs : size ≤ 120) (hta : upto 120 255 ta) {lo m : Nat} (hF : PO size K ta 0 o (lo + 1) m) (hlo : lo ≤ 20) {d : Nat} (hd : d ≤ lo) {fuel : Nat} (hfu : m ≤ fuel) :
    ∀ (q p k n u v : Nat) (num : Int32) (sc f : Nat → Int32), p + q = size → q + 1 < u → q + 1 < v → k ≤ p → agr 120 10 ta f → n ≤ p → GS K n (d + 1) sc f →
    PP size K p n (nI o) f (d + 1) (fX3_readsAll_L8 (tR fuel 0) (tR fuel 1) (tR fuel 2) (nI size) ta (nI o) u (nI p) (nI n) num sc 1 (nI k)) (fX12_every_L4 (tM fuel 0) (tM fuel 1) (tM fuel 2) (nI K) (nI size) v (nI p) 0 (nI o) f) := by
  intro q
  induction q using Nat.strongRecOn with
  | _ q ih =>
    intro p k n u v num sc f hpq hu hv hk hag hn hG
    obtain ⟨u, rfl⟩ : ∃ w, u = w + 1 := ⟨u - 1, by omega⟩
    obtain ⟨v, rfl⟩ : ∃ w, v = w + 1 := ⟨v - 1, by omega⟩
    have hp : p ≤ size := by omega
    by_cases c1 : cC size ta p = 38
    · have q1 : cM size ta p = 38 := (ch_iff (by decide) (by decide)).mp c1
      have hlt := ch_lt (by decide) c1
      have hks : ¬ nI size ≤ nI k := nI_ge (by omega) (by omega)
      have hcl : ∀ X, (Option.bind (tR fuel 0 (nI size) (nI (p + 1)) (nI n) num sc ta (nI o)) (fun r11 => (if r11.1 = 0 then (fX3_readsAll_L8 (tR fuel 0) (tR fuel 1) (tR fuel 2) (nI size) ta (nI o) u r11.2.1 r11.2.2.1 r11.2.2.2.1 r11.2.2.2.2 (0 : Int32) (nI (k + 1))) else (Option.bind (fX3_adds r11.2.2.1 r11.2.2.2.2 (16 : Int32) (0 : Int32)) (fun r14 => (if r14.1 = 0 then (fX3_readsAll_L8 (tR fuel 0) (tR fuel 1) (tR fuel 2) (nI size) ta (nI o) u r11.2.1 r14.2.1 r11.2.2.2.1 r14.2.2 (0 : Int32) (nI (k + 1))) else (fX3_readsAll_L8 (tR fuel 0) (tR fuel 1) (tR fuel 2) (nI size) ta (nI o) u r11.2.1 r14.2.1 r11.2.2.2.1 r14.2.2 (1 : Int32) (nI (k + 1))))))))) = X → fX3_readsAll_L8 (tR fuel 0) (tR fuel 1) (tR fuel 2) (nI size) ta (nI o) (u + 1) (nI p) (nI n) num sc 1 (nI k) = X := by
        intro X hX
        rw [fX3_readsAll_L8, if_neg hks, if_neg (by decide), c_pass_y hs hp c1, ob, if_neg (show ¬ ((1 : Int32), nI (p + 1)).1 = 0 from (by decide : ¬ (1 : Int32) = 0)), nI_1]
        exact hX
      have hml : ∀ X, (Option.bind (tM fuel 0 (nI K) (nI (p + 1)) (nI size) 0 (nI o) f) (fun r7 => (Option.bind (fX12_emits (nI K) r7.2.1 r7.2.2.2 ((-2) : Int32)) (fun r9 => (fX12_every_L4 (tM fuel 0) (tM fuel 1) (tM fuel 2) (nI K) (nI size) v r7.1 r7.2.1 r7.2.2.1 r9))))) = X → fX12_every_L4 (tM fuel 0) (tM fuel 1) (tM fuel 2) (nI K) (nI size) (v + 1) (nI p) 0 (nI o) f = X := by
        intro X hX
        rw [fX12_every_L4, if_pos rfl, m_here hs hp hag, ob, if_pos q1, nI_1]
        exact hX
      rcases hF fuel (p + 1) n (d + 1) num sc f hfu hag (by omega) (by omega) (by omega) hG with ⟨p', n', num', sc', f', h1, h2, h3, h4, h5, h6, h7⟩ | ⟨p', x1, x2, x3, f', h1, h2, h3, h4⟩
      · have hG' := GS_add (s := -2) (c := nI 1600) (e := d + 1) h6 (by omega) (Or.inr (Or.inr (Or.inl ⟨rfl, rfl, by omega, by omega⟩))) (by omega)
        have hf' := frm_trans h7 (emit_frm (K := K) (n := n') (by omega) (-2) (nI (n' + 1)))
        have hag' := frm_tape hf' hag
        have hr := ih (size - p') (by omega) p' (k + 1) (n' + 1) u v num' _ _ (by omega) (by omega) (by omega) (by omega) hag' (by omega) hG'
        have e1 : fX3_readsAll_L8 (tR fuel 0) (tR fuel 1) (tR fuel 2) (nI size) ta (nI o) (u + 1) (nI p) (nI n) num sc 1 (nI k) = fX3_readsAll_L8 (tR fuel 0) (tR fuel 1) (tR fuel 2) (nI size) ta (nI o) u (nI p') (nI (n' + 1)) num' (upd sc' n' (nI 1600)) 1 (nI (k + 1)) := hcl _ (by
          rw [h4, ob, if_neg ne10]
          show Option.bind (fX3_adds (nI n') sc' 16 0) _ = _
          rw [adds_eq (by omega), ob, if_neg ne10]
          rfl)
        have e2 : fX12_every_L4 (tM fuel 0) (tM fuel 1) (tM fuel 2) (nI K) (nI size) (v + 1) (nI p) 0 (nI o) f = fX12_every_L4 (tM fuel 0) (tM fuel 1) (tM fuel 2) (nI K) (nI size) v (nI p') 0 (nI o) (upd (upd f' (258 + 140 * K + n') (-2)) (250 + K) (nI (n' + 1))) := hml _ (by
          rw [h5, ob]
          show Option.bind (fX12_emits (nI K) 0 f' (-2)) _ = _
          rw [emit_eq hK (by omega) h6.1, ob])
        rw [e1, e2]
        rcases hr with ⟨p2, n2, num2, sc2, f2, r1, r2, r3, r4, r5, r6, r7⟩ | ⟨p2, y1, y2, y3, f2, r1, r2, r3, r4⟩
        · exact Or.inl ⟨p2, n2, num2, sc2, f2, by omega, r2, by omega, r4, r5, r6, frm_trans hf' r7⟩
        · exact Or.inr ⟨p2, y1, y2, y3, f2, r1, r2, r3, frm_trans hf' r4⟩
      · obtain ⟨u, rfl⟩ : ∃ w, u = w + 1 := ⟨u - 1, by omega⟩
        obtain ⟨v, rfl⟩ : ∃ w, v = w + 1 := ⟨v - 1, by omega⟩
        refine Or.inr ⟨p', x1, x2, x3, f', h1, hcl _ ?_, hml _ ?_, h4⟩
        · rw [h2, ob, if_pos rfl]
          show fX3_readsAll_L8 (tR fuel 0) (tR fuel 1) (tR fuel 2) (nI size) ta (nI o) (u + 1) (nI p') x1 x2 x3 0 (nI (k + 1)) = _
          rw [fX3_readsAll_L8]
          by_cases z : nI size ≤ nI (k + 1)
          · rw [if_pos z, if_neg (by decide)]
          · rw [if_neg z, if_pos rfl, if_neg (by decide)]
        · rw [h3, ob]
          show Option.bind (fX12_emits (nI K) 1 f' (-2)) _ = _
          rw [m_emit_w, ob]
          show fX12_every_L4 (tM fuel 0) (tM fuel 1) (tM fuel 2) (nI K) (nI size) (v + 1) (nI p') 1 (nI o) f' = _
          rw [fX12_every_L4, if_neg (by decide)]
    · have q1 : ¬ cM size ta p = 38 := fun e => c1 ((ch_iff (by decide) (by decide)).mpr e)
      refine Or.inl ⟨p, n, num, sc, f, by omega, hp, by omega, ?_, ?_, hG, frm_refl K f⟩
      · rw [fX3_readsAll_L8]
        by_cases z : nI size ≤ nI k
        · rw [if_pos z, if_neg (by decide)]
        · rw [if_neg z, if_neg (by decide), c_pass_n hs hp c1, ob, if_pos rfl, if_neg (by decide)]
      · rw [fX12_every_L4, if_pos rfl, m_here hs hp hag, ob, if_neg q1]
theorem T_o {o : Nat} (hK : K < 8) (hs : size ≤ 120) (hta : upto 120 255 ta) {lo m : Nat} (hF : PO size K ta 0 o (lo + 1) m) (hlo : lo ≤ 20) : PO size K ta 1 o lo (m + 1) := by
  intro fuel p n d num sc f hfu hag hp hn hd hG
  obtain ⟨fuel, rfl⟩ : ∃ q, fuel = q + 1 := ⟨fuel - 1, by omega⟩
  have ec : tR (fuel + 1) 1 (nI size) (nI p) (nI n) num sc ta (nI o) = (Option.bind (tR fuel 0 (nI size) (nI p) (nI n) num sc ta (nI o)) (fun r1 => (fX3_readsAll_L8 (tR fuel 0) (tR fuel 1) (tR fuel 2) (nI size) ta (nI o) 2000 r1.2.1 r1.2.2.1 r1.2.2.2.1 r1.2.2.2.2 r1.1 (0 : Int32)))) := by
    rw [tR, if_neg (by decide), if_pos rfl]
    rfl
  have em : tM (fuel + 1) 1 (nI K) (nI p) (nI size) 0 (nI o) f = (Option.bind (tM fuel 0 (nI K) (nI p) (nI size) 0 (nI o) f) (fun r1 => (fX12_every_L4 (tM fuel 0) (tM fuel 1) (tM fuel 2) (nI K) (nI size) 2000 r1.1 r1.2.1 r1.2.2.1 r1.2.2.2))) := by
    rw [tM, if_neg (by decide), if_pos rfl]
    rfl
  rw [ec, em]
  rcases hF fuel p n d num sc f (by omega) hag hp hn (by omega) hG with ⟨p', n', num', sc', f', h1, h2, h3, h4, h5, h6, h7⟩ | ⟨p', x1, x2, x3, f', h1, h2, h3, h4⟩
  · have hr := T_o_L hK hs hta hF hlo hd (fuel := fuel) (by omega) (size - p') p' 0 n' 2000 2000 num' sc' f' (by omega) (by omega) (by omega) (by omega) (frm_tape h7 hag) (by omega) h6
    rw [h4, ob, h5, ob]
    rcases hr with ⟨p2, n2, num2, sc2, f2, r1, r2, r3, r4, r5, r6, r7⟩ | ⟨p2, y1, y2, y3, f2, r1, r2, r3, r4⟩
    · exact Or.inl ⟨p2, n2, num2, sc2, f2, by omega, r2, by omega, r4, r5, r6, frm_trans h7 r7⟩
    · exact Or.inr ⟨p2, y1, y2, y3, f2, r1, r2, r3, frm_trans h7 r4⟩
  · refine Or.inr ⟨p', x1, x2, x3, f', h1, ?_, ?_, h4⟩
    · rw [h2, ob]
      show fX3_readsAll_L8 (tR fuel 0) (tR fuel 1) (tR fuel 2) (nI size) ta (nI o) (1999 + 1) (nI p') x1 x2 x3 0 0 = _
      rw [fX3_readsAll_L8]
      by_cases z : nI size ≤ 0
      · rw [if_pos z, if_neg (by decide)]
      · rw [if_neg z, if_pos rfl, if_neg (by decide)]
    · rw [h3, ob]
      show fX12_every_L4 (tM fuel 0) (tM fuel 1) (tM fuel 2) (nI K) (nI size) (1999 + 1) (nI p') 1 (nI o) f' = _
      rw [fX12_every_L4, if_neg (by decide)]
/-! E_o: a loop over T, with | between -/
theorem E_o_L {o : Nat} (hK : K < 8) (hs : size ≤ 120) (hta : upto 120 255 ta) {lo m : Nat} (hF : PO size K ta 1 o (lo + 1) m) (hlo : lo ≤ 20) {d : Nat} (hd : d ≤ lo) {fuel : Nat} (hfu : m ≤ fuel) :
    ∀ (q p k n u v : Nat) (num : Int32) (sc f : Nat → Int32), p + q = size → q + 1 < u → q + 1 < v → k ≤ p → agr 120 10 ta f → n ≤ p → GS K n (d + 1) sc f →
    PP size K p n (nI o) f (d + 1) (fX3_readsAny_L8 (tR fuel 0) (tR fuel 1) (tR fuel 2) (nI size) ta (nI o) u (nI p) (nI n) num sc 1 (nI k)) (fX12_some_L4 (tM fuel 0) (tM fuel 1) (tM fuel 2) (nI K) (nI size) v (nI p) 0 (nI o) f) := by
  intro q
  induction q using Nat.strongRecOn with
  | _ q ih =>
    intro p k n u v num sc f hpq hu hv hk hag hn hG
    obtain ⟨u, rfl⟩ : ∃ w, u = w + 1 := ⟨u - 1, by omega⟩
    obtain ⟨v, rfl⟩ : ∃ w, v = w + 1 := ⟨v - 1, by omega⟩
    have hp : p ≤ size := by omega
    by_cases c1 : cC size ta p = 124
    · have q1 : cM size ta p = 124 := (ch_iff (by decide) (by decide)).mp c1
      have hlt := ch_lt (by decide) c1
      have hks : ¬ nI size ≤ nI k := nI_ge (by omega) (by omega)
      have hcl : ∀ X, (Option.bind (tR fuel 1 (nI size) (nI (p + 1)) (nI n) num sc ta (nI o)) (fun r11 => (if r11.1 = 0 then (fX3_readsAny_L8 (tR fuel 0) (tR fuel 1) (tR fuel 2) (nI size) ta (nI o) u r11.2.1 r11.2.2.1 r11.2.2.2.1 r11.2.2.2.2 (0 : Int32) (nI (k + 1))) else (Option.bind (fX3_adds r11.2.2.1 r11.2.2.2.2 (17 : Int32) (0 : Int32)) (fun r14 => (if r14.1 = 0 then (fX3_readsAny_L8 (tR fuel 0) (tR fuel 1) (tR fuel 2) (nI size) ta (nI o) u r11.2.1 r14.2.1 r11.2.2.2.1 r14.2.2 (0 : Int32) (nI (k + 1))) else (fX3_readsAny_L8 (tR fuel 0) (tR fuel 1) (tR fuel 2) (nI size) ta (nI o) u r11.2.1 r14.2.1 r11.2.2.2.1 r14.2.2 (1 : Int32) (nI (k + 1))))))))) = X → fX3_readsAny_L8 (tR fuel 0) (tR fuel 1) (tR fuel 2) (nI size) ta (nI o) (u + 1) (nI p) (nI n) num sc 1 (nI k) = X := by
        intro X hX
        rw [fX3_readsAny_L8, if_neg hks, if_neg (by decide), c_pass_y hs hp c1, ob, if_neg (show ¬ ((1 : Int32), nI (p + 1)).1 = 0 from (by decide : ¬ (1 : Int32) = 0)), nI_1]
        exact hX
      have hml : ∀ X, (Option.bind (tM fuel 1 (nI K) (nI (p + 1)) (nI size) 0 (nI o) f) (fun r7 => (Option.bind (fX12_emits (nI K) r7.2.1 r7.2.2.2 ((-3) : Int32)) (fun r9 => (fX12_some_L4 (tM fuel 0) (tM fuel 1) (tM fuel 2) (nI K) (nI size) v r7.1 r7.2.1 r7.2.2.1 r9))))) = X → fX12_some_L4 (tM fuel 0) (tM fuel 1) (tM fuel 2) (nI K) (nI size) (v + 1) (nI p) 0 (nI o) f = X := by
        intro X hX
        rw [fX12_some_L4, if_pos rfl, m_here hs hp hag, ob, if_pos q1, nI_1]
        exact hX
      rcases hF fuel (p + 1) n (d + 1) num sc f hfu hag (by omega) (by omega) (by omega) hG with ⟨p', n', num', sc', f', h1, h2, h3, h4, h5, h6, h7⟩ | ⟨p', x1, x2, x3, f', h1, h2, h3, h4⟩
      · have hG' := GS_add (s := -3) (c := nI 1700) (e := d + 1) h6 (by omega) (Or.inr (Or.inr (Or.inr (Or.inl ⟨rfl, rfl, by omega, by omega⟩)))) (by omega)
        have hf' := frm_trans h7 (emit_frm (K := K) (n := n') (by omega) (-3) (nI (n' + 1)))
        have hag' := frm_tape hf' hag
        have hr := ih (size - p') (by omega) p' (k + 1) (n' + 1) u v num' _ _ (by omega) (by omega) (by omega) (by omega) hag' (by omega) hG'
        have e1 : fX3_readsAny_L8 (tR fuel 0) (tR fuel 1) (tR fuel 2) (nI size) ta (nI o) (u + 1) (nI p) (nI n) num sc 1 (nI k) = fX3_readsAny_L8 (tR fuel 0) (tR fuel 1) (tR fuel 2) (nI size) ta (nI o) u (nI p') (nI (n' + 1)) num' (upd sc' n' (nI 1700)) 1 (nI (k + 1)) := hcl _ (by
          rw [h4, ob, if_neg ne10]
          show Option.bind (fX3_adds (nI n') sc' 17 0) _ = _
          rw [adds_eq (by omega), ob, if_neg ne10]
          rfl)
        have e2 : fX12_some_L4 (tM fuel 0) (tM fuel 1) (tM fuel 2) (nI K) (nI size) (v + 1) (nI p) 0 (nI o) f = fX12_some_L4 (tM fuel 0) (tM fuel 1) (tM fuel 2) (nI K) (nI size) v (nI p') 0 (nI o) (upd (upd f' (258 + 140 * K + n') (-3)) (250 + K) (nI (n' + 1))) := hml _ (by
          rw [h5, ob]
          show Option.bind (fX12_emits (nI K) 0 f' (-3)) _ = _
          rw [emit_eq hK (by omega) h6.1, ob])
        rw [e1, e2]
        rcases hr with ⟨p2, n2, num2, sc2, f2, r1, r2, r3, r4, r5, r6, r7⟩ | ⟨p2, y1, y2, y3, f2, r1, r2, r3, r4⟩
        · exact Or.inl ⟨p2, n2, num2, sc2, f2, by omega, r2, by omega, r4, r5, r6, frm_trans hf' r7⟩
        · exact Or.inr ⟨p2, y1, y2, y3, f2, r1, r2, r3, frm_trans hf' r4⟩
      · obtain ⟨u, rfl⟩ : ∃ w, u = w + 1 := ⟨u - 1, by omega⟩
        obtain ⟨v, rfl⟩ : ∃ w, v = w + 1 := ⟨v - 1, by omega⟩
        refine Or.inr ⟨p', x1, x2, x3, f', h1, hcl _ ?_, hml _ ?_, h4⟩
        · rw [h2, ob, if_pos rfl]
          show fX3_readsAny_L8 (tR fuel 0) (tR fuel 1) (tR fuel 2) (nI size) ta (nI o) (u + 1) (nI p') x1 x2 x3 0 (nI (k + 1)) = _
          rw [fX3_readsAny_L8]
          by_cases z : nI size ≤ nI (k + 1)
          · rw [if_pos z, if_neg (by decide)]
          · rw [if_neg z, if_pos rfl, if_neg (by decide)]
        · rw [h3, ob]
          show Option.bind (fX12_emits (nI K) 1 f' (-3)) _ = _
          rw [m_emit_w, ob]
          show fX12_some_L4 (tM fuel 0) (tM fuel 1) (tM fuel 2) (nI K) (nI size) (v + 1) (nI p') 1 (nI o) f' = _
          rw [fX12_some_L4, if_neg (by decide)]
    · have q1 : ¬ cM size ta p = 124 := fun e => c1 ((ch_iff (by decide) (by decide)).mpr e)
      refine Or.inl ⟨p, n, num, sc, f, by omega, hp, by omega, ?_, ?_, hG, frm_refl K f⟩
      · rw [fX3_readsAny_L8]
        by_cases z : nI size ≤ nI k
        · rw [if_pos z, if_neg (by decide)]
        · rw [if_neg z, if_neg (by decide), c_pass_n hs hp c1, ob, if_pos rfl, if_neg (by decide)]
      · rw [fX12_some_L4, if_pos rfl, m_here hs hp hag, ob, if_neg q1]
theorem E_o {o : Nat} (hK : K < 8) (hs : size ≤ 120) (hta : upto 120 255 ta) {lo m : Nat} (hF : PO size K ta 1 o (lo + 1) m) (hlo : lo ≤ 20) : PO size K ta 2 o lo (m + 1) := by
  intro fuel p n d num sc f hfu hag hp hn hd hG
  obtain ⟨fuel, rfl⟩ : ∃ q, fuel = q + 1 := ⟨fuel - 1, by omega⟩
  have ec : tR (fuel + 1) 2 (nI size) (nI p) (nI n) num sc ta (nI o) = (Option.bind (tR fuel 1 (nI size) (nI p) (nI n) num sc ta (nI o)) (fun r1 => (fX3_readsAny_L8 (tR fuel 0) (tR fuel 1) (tR fuel 2) (nI size) ta (nI o) 2000 r1.2.1 r1.2.2.1 r1.2.2.2.1 r1.2.2.2.2 r1.1 (0 : Int32)))) := by
    rw [tR, if_neg (by decide), if_neg (by decide)]
    rfl
  have em : tM (fuel + 1) 2 (nI K) (nI p) (nI size) 0 (nI o) f = (Option.bind (tM fuel 1 (nI K) (nI p) (nI size) 0 (nI o) f) (fun r1 => (fX12_some_L4 (tM fuel 0) (tM fuel 1) (tM fuel 2) (nI K) (nI size) 2000 r1.1 r1.2.1 r1.2.2.1 r1.2.2.2))) := by
    rw [tM, if_neg (by decide), if_neg (by decide)]
    rfl
  rw [ec, em]
  rcases hF fuel p n d num sc f (by omega) hag hp hn (by omega) hG with ⟨p', n', num', sc', f', h1, h2, h3, h4, h5, h6, h7⟩ | ⟨p', x1, x2, x3, f', h1, h2, h3, h4⟩
  · have hr := E_o_L hK hs hta hF hlo hd (fuel := fuel) (by omega) (size - p') p' 0 n' 2000 2000 num' sc' f' (by omega) (by omega) (by omega) (by omega) (frm_tape h7 hag) (by omega) h6
    rw [h4, ob, h5, ob]
    rcases hr with ⟨p2, n2, num2, sc2, f2, r1, r2, r3, r4, r5, r6, r7⟩ | ⟨p2, y1, y2, y3, f2, r1, r2, r3, r4⟩
    · exact Or.inl ⟨p2, n2, num2, sc2, f2, by omega, r2, by omega, r4, r5, r6, frm_trans h7 r7⟩
    · exact Or.inr ⟨p2, y1, y2, y3, f2, r1, r2, r3, frm_trans h7 r4⟩
  · refine Or.inr ⟨p', x1, x2, x3, f', h1, ?_, ?_, h4⟩
    · rw [h2, ob]
      show fX3_readsAny_L8 (tR fuel 0) (tR fuel 1) (tR fuel 2) (nI size) ta (nI o) (1999 + 1) (nI p') x1 x2 x3 0 0 = _
      rw [fX3_readsAny_L8]
      by_cases z : nI size ≤ 0
      · rw [if_pos z, if_neg (by decide)]
      · rw [if_neg z, if_pos rfl, if_neg (by decide)]
    · rw [h3, ob]
      show fX12_some_L4 (tM fuel 0) (tM fuel 1) (tM fuel 2) (nI K) (nI size) (1999 + 1) (nI p') 1 (nI o) f' = _
      rw [fX12_some_L4, if_neg (by decide)]
/-- all of E with nothing open -/
theorem E_0 (hK : K < 8) (hs : size ≤ 120) (hta : upto 120 255 ta) : PO size K ta 2 0 0 40 := by
  have step : ∀ o : Nat, o < 5 → PO size K ta 0 (o + 1) (2 * o + 4) (19 - 3 * (o + 1)) → PO size K ta 2 (o + 1) (2 * o + 2) (19 - 3 * (o + 1) + 2) → PO size K ta 0 o (2 * o + 2) (19 - 3 * o) := by
    intro o ho h1 h2
    have h3 := F_o ho hK hs hta (m := 19 - 3 * (o + 1) + 2) (fun fuel p n d num sc f hfu => h1 fuel p n d num sc f (by omega)) h2
    exact fun fuel p n d num sc f hfu => h3 fuel p n d num sc f (by omega)
  have up : ∀ o : Nat, o ≤ 5 → PO size K ta 0 o (2 * o + 2) (19 - 3 * o) → PO size K ta 2 o (2 * o) (19 - 3 * o + 2) := by
    intro o ho h1
    exact E_o hK hs hta (T_o hK hs hta h1 (by omega)) (by omega)
  have f5 : PO size K ta 0 5 (2 * 5 + 2) (19 - 3 * 5) := F_5 hK hs hta
  have e5 := up 5 (by omega) f5
  have f4 := step 4 (by omega) f5 e5
  have e4 := up 4 (by omega) f4
  have f3 := step 3 (by omega) f4 e4
  have e3 := up 3 (by omega) f3
  have f2 := step 2 (by omega) f3 e3
  have e2 := up 2 (by omega) f2
  have f1 := step 1 (by omega) f2 e2
  have e1 := up 1 (by omega) f1
  have f0 := step 0 (by omega) f1 e1
  have e0 := up 0 (by omega) f0
  exact fun fuel p n d num sc f hfu => e0 fuel p n d num sc f (by omega)
end EX
