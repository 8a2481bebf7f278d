/-! law, image, undo -/
section PL
variable {size K : Nat} {ta : Nat → Int32}
abbrev RK : Type := Option (Int32 × Int32 × Int32 × Int32 × Int32 × Int32 × (Nat → Int32))
/-- behind j clauses: the class's reading and the reference's go on -/
theorem law_L (hK : K < 8) (hs : size ≤ 120) (hta : upto 120 255 ta) (k : Int32 → Int32 → Int32 → (Nat → Int32) → RK) :
    ∀ (m j u v p n c : Nat) (num : Int32) (sc f : Nat → Int32), j + m = 8 → 1 ≤ j → m < u → m < v → agr 120 10 ta f → p ≤ size → n + 4 ≤ p → c ≤ 99 → GS K n 0 sc f → f (242 + K) = nI c →
    (∃ (n' c' : Nat) (num' : Int32) (sc' f' : Nat → Int32), n' + 4 ≤ size ∧ c' ≤ 99 ∧ (if nI p < nI size then fX3_reads_L32 (nI size) ta u (nI p) (nI n) num (nI c) sc (nI j) else some (1, nI size, nI p, nI n, num, nI c, sc)) = some (1, nI size, nI size, nI n', num', nI c', sc') ∧ fX12_law_L143 k (nI K) (nI size) v (nI p) 0 0 f (nI j) = k (nI size) 0 0 f' ∧ GS K n' 0 sc' f' ∧ f' (242 + K) = nI c' ∧ frC K f f')
    ∨ (∃ (p' : Nat) (w x1 x2 x3 : Int32) (x4 f' : Nat → Int32), p' ≤ size ∧ (w = 1 ∨ (w = 0 ∧ p' < size)) ∧ (if nI p < nI size then fX3_reads_L32 (nI size) ta u (nI p) (nI n) num (nI c) sc (nI j) else some (1, nI size, nI p, nI n, num, nI c, sc)) = some (0, nI size, nI p', x1, x2, x3, x4) ∧ fX12_law_L143 k (nI K) (nI size) v (nI p) 0 0 f (nI j) = k (nI p') w 0 f' ∧ frC K f f') := by
  intro m
  induction m with
  | zero =>
    intro j u v p n c num sc f hj h1 hu hv hag hp hn hc hG e242
    obtain ⟨u, rfl⟩ : ∃ w, u = w + 1 := ⟨u - 1, by omega⟩
    obtain ⟨v, rfl⟩ : ∃ w, v = w + 1 := ⟨v - 1, by omega⟩
    have hj8 : (8 : Int32) ≤ nI j := q_le (N := 8) (by omega) (by omega)
    have em : fX12_law_L143 k (nI K) (nI size) (v + 1) (nI p) 0 0 f (nI j) = k (nI p) 0 0 f := by
      rw [fX12_law_L143, if_pos rfl, if_pos hj8]
    by_cases q : p < size
    · refine Or.inr ⟨p, 0, nI n, num, nI c, sc, f, hp, Or.inr ⟨rfl, q⟩, ?_, em, frC_refl f⟩
      rw [if_pos (nI_lt q (by omega)), fX3_reads_L32, if_pos hj8]
    · have e : p = size := by omega
      subst e
      refine Or.inl ⟨n, c, num, sc, f, hn, hc, ?_, em, hG, e242, frC_refl f⟩
      rw [if_neg (nI_nlt (Nat.le_refl _) (by omega))]
  | succ m ih =>
    intro j u v p n c num sc f hj h1 hu hv hag hp hn hc hG e242
    obtain ⟨u, rfl⟩ : ∃ w, u = w + 1 := ⟨u - 1, by omega⟩
    obtain ⟨v, rfl⟩ : ∃ w, v = w + 1 := ⟨v - 1, by omega⟩
    have hj8 : ¬ (8 : Int32) ≤ nI j := q_ge (N := 8) (by omega) (by omega)
    have hj0 : ¬ nI j ≤ 0 := nI_nle (by omega) (by omega)
    by_cases q : p < size
    · by_cases c1 : cC size ta p = 59
      · have q1 : cM size ta p = 59 := (ch_iff (by decide) (by decide)).mp c1
        have hcl : ∀ X, fX3_reads_b53 (fX3_reads_L32 (nI size) ta u) (nI size) (nI (p + 1)) (nI n) num (nI c) sc ta (nI j) = X → (if nI p < nI size then fX3_reads_L32 (nI size) ta (u + 1) (nI p) (nI n) num (nI c) sc (nI j) else some (1, nI size, nI p, nI n, num, nI c, sc)) = X := by
          intro X hX
          rw [if_pos (nI_lt q (by omega)), fX3_reads_L32, if_neg hj8, if_neg hj0, c_pass_y hs hp c1, ob, if_neg (show ¬ ((1 : Int32), nI (p + 1)).1 = 0 from ne10)]
          exact hX
        have hml : ∀ X, Option.bind (fX12_clauseHere (nI K) (nI (p + 1)) (nI size) 0 0 f) (fun r19 => (fX12_law_L143 k (nI K) (nI size) v r19.1 r19.2.1 r19.2.2.1 r19.2.2.2 (nI (j + 1)))) = X → fX12_law_L143 k (nI K) (nI size) (v + 1) (nI p) 0 0 f (nI j) = X := by
          intro X hX
          rw [fX12_law_L143, if_pos rfl, if_neg hj8, m_here hs hp hag, ob, if_pos q1, nI_1, nI_1]
          exact hX
        rcases clause_eq hK hs hta hag (show p + 1 ≤ size by omega) (show n ≤ p + 1 by omega) hc hG e242 num with ⟨p', n', c', num', sc', f', h1', h2', h3', h4', h5', h6', h7', h8'⟩ | ⟨p', x1, x2, x3, x4, f', h1', h2', h3', h4'⟩
        · have ec : (if nI p < nI size then fX3_reads_L32 (nI size) ta (u + 1) (nI p) (nI n) num (nI c) sc (nI j) else some (1, nI size, nI p, nI n, num, nI c, sc)) = (if nI p' < nI size then fX3_reads_L32 (nI size) ta u (nI p') (nI n') num' (nI c') sc' (nI (j + 1)) else some (1, nI size, nI p', nI n', num', nI c', sc')) := hcl _ (by
            unfold fX3_reads_b53
            rw [h4', ob, if_neg ne10, nI_1])
          have em : fX12_law_L143 k (nI K) (nI size) (v + 1) (nI p) 0 0 f (nI j) = fX12_law_L143 k (nI K) (nI size) v (nI p') 0 0 f' (nI (j + 1)) := hml _ (by rw [h5', ob])
          rw [ec, em]
          rcases ih (j + 1) u v p' n' c' num' sc' f' (by omega) (by omega) (by omega) (by omega) (frC_tape h8' hag) h1' (by omega) h3' h6' h7' with ⟨n2, c2, num2, sc2, f2, r1, r2, r3, r4, r5, r6, r7⟩ | ⟨p2, w, y1, y2, y3, y4, f2, r1, r2, r3, r4, r5⟩
          · exact Or.inl ⟨n2, c2, num2, sc2, f2, r1, r2, r3, r4, r5, r6, frC_trans h8' r7⟩
          · exact Or.inr ⟨p2, w, y1, y2, y3, y4, f2, r1, r2, r3, r4, frC_trans h8' r5⟩
        · obtain ⟨v, rfl⟩ : ∃ w, v = w + 1 := ⟨v - 1, by omega⟩
          refine Or.inr ⟨p', 1, x1, x2, x3, x4, f', h1', Or.inl rfl, hcl _ ?_, hml _ ?_, h4'⟩
          · unfold fX3_reads_b53
            rw [h2', ob, if_pos rfl]
          · rw [h3', ob]
            show fX12_law_L143 k (nI K) (nI size) (v + 1) (nI p') 1 0 f' (nI (j + 1)) = _
            rw [fX12_law_L143, if_neg ne10]
      · have q1 : ¬ cM size ta p = 59 := fun e => c1 ((ch_iff (by decide) (by decide)).mpr e)
        refine Or.inr ⟨p, 0, nI n, num, nI c, sc, f, hp, Or.inr ⟨rfl, q⟩, ?_, ?_, frC_refl f⟩
        · rw [if_pos (nI_lt q (by omega)), fX3_reads_L32, if_neg hj8, if_neg hj0, c_pass_n hs hp c1, ob, if_pos rfl]
        · rw [fX12_law_L143, if_pos rfl, if_neg hj8, m_here hs hp hag, ob, if_neg q1]
    · have e : p = size := by omega
      subst e
      refine Or.inl ⟨n, c, num, sc, f, hn, hc, ?_, ?_, hG, e242, frC_refl f⟩
      · rw [if_neg (nI_nlt (Nat.le_refl _) (by omega))]
      · have q1 : ¬ cM p ta p = 59 := by
          unfold cM
          rw [if_neg (Nat.lt_irrefl p)]
          decide
        rw [fX12_law_L143, if_pos rfl, if_neg hj8, m_here hs hp hag, ob, if_neg q1]
/-- the whole text -/
theorem reads_eq {f : Nat → Int32} (hK : K < 8) (hs : size ≤ 120) (hta : upto 120 255 ta) (hag : agr 120 10 ta f) (e250 : f (250 + K) = 0) (e242 : f (242 + K) = 0) (k : Int32 → Int32 → Int32 → (Nat → Int32) → RK) (x1 x2 x3 num x5 : Int32) (sc : Nat → Int32) :
    (∃ (n' c' : Nat) (num' : Int32) (sc' f' : Nat → Int32), n' + 4 ≤ size ∧ c' ≤ 99 ∧ fX3_reads x1 x2 x3 num x5 sc ta (nI size) = some (1, nI size, nI size, nI n', num', nI c', sc') ∧ Option.bind (fX12_clauseHere (nI K) 0 (nI size) 0 0 f) (fun r12 => (fX12_law_L143 k (nI K) (nI size) 2000 r12.1 r12.2.1 r12.2.2.1 r12.2.2.2 (1 : Int32))) = k (nI size) 0 0 f' ∧ GS K n' 0 sc' f' ∧ f' (242 + K) = nI c' ∧ frC K f f')
    ∨ (∃ (p' : Nat) (w y1 y2 y3 : Int32) (y4 f' : Nat → Int32), p' ≤ size ∧ (w = 1 ∨ (w = 0 ∧ p' < size)) ∧ fX3_reads x1 x2 x3 num x5 sc ta (nI size) = some (0, nI size, nI p', y1, y2, y3, y4) ∧ Option.bind (fX12_clauseHere (nI K) 0 (nI size) 0 0 f) (fun r12 => (fX12_law_L143 k (nI K) (nI size) 2000 r12.1 r12.2.1 r12.2.2.1 r12.2.2.2 (1 : Int32))) = k (nI p') w 0 f' ∧ frC K f f') := by
  have hsz : (if 120 < nI size then (120 : Int32) else nI size) = nI size := if_neg (q_nlt (N := 120) hs (by decide))
  have hG : GS K 0 0 sc f := ⟨e250, fun _ => 0, rfl, rfl, fun j hj => absurd hj (by omega)⟩
  have hcl : ∀ X, fX3_reads_b53 (fX3_reads_L32 (nI size) ta 1999) (nI size) (nI 0) (nI 0) num (nI 0) sc ta 0 = X → fX3_reads x1 x2 x3 num x5 sc ta (nI size) = X := by
    intro X hX
    unfold fX3_reads
    rw [hsz, show (2000 : Nat) = 1999 + 1 from rfl, fX3_reads_L32, if_neg (by decide), if_pos (by decide)]
    exact hX
  rcases clause_eq (p := 0) (n := 0) (c := 0) hK hs hta hag (by omega) (by omega) (by omega) hG e242 num with ⟨p', n', c', num', sc', f', h1', h2', h3', h4', h5', h6', h7', h8'⟩ | ⟨p', z1, z2, z3, z4, f', h1', h2', h3', h4'⟩
  · have h5'' : fX12_clauseHere (nI K) 0 (nI size) 0 0 f = some (nI p', 0, 0, f') := h5'
    have ec : fX3_reads x1 x2 x3 num x5 sc ta (nI size) = (if nI p' < nI size then fX3_reads_L32 (nI size) ta 1999 (nI p') (nI n') num' (nI c') sc' (nI 1) else some (1, nI size, nI p', nI n', num', nI c', sc')) := hcl _ (by
      unfold fX3_reads_b53
      rw [h4', ob, if_neg ne10]
      rfl)
    rw [ec, h5'', ob]
    rcases law_L hK hs hta k 7 1 1999 2000 p' n' c' num' sc' f' (by omega) (by omega) (by omega) (by omega) (frC_tape h8' hag) h1' (by omega) h3' h6' h7' with ⟨n2, c2, num2, sc2, f2, r1, r2, r3, r4, r5, r6, r7⟩ | ⟨p2, w, y1, y2, y3, y4, f2, r1, r2, r3, r4, r5⟩
    · exact Or.inl ⟨n2, c2, num2, sc2, f2, r1, r2, r3, r4, r5, r6, frC_trans h8' r7⟩
    · exact Or.inr ⟨p2, w, y1, y2, y3, y4, f2, r1, r2, r3, r4, frC_trans h8' r5⟩
  · have h3'' : fX12_clauseHere (nI K) 0 (nI size) 0 0 f = some (nI p', 1, 0, f') := h3'
    refine Or.inr ⟨p', 1, z1, z2, z3, z4, f', h1', Or.inl rfl, hcl _ ?_, ?_, h4'⟩
    · unfold fX3_reads_b53
      rw [h2', ob, if_pos rfl]
    · rw [h3'', ob]
      show fX12_law_L143 k (nI K) (nI size) (1999 + 1) (nI p') 1 0 f' 1 = _
      rw [fX12_law_L143, if_neg ne10]
section SL
variable {Ls : List LR} {nc nh nl nb ns : Nat} {al be ed : Nat → Int32} {lw : Nat → Option Nat} {ri sd th wa f : Nat → Int32}
theorem p_law (h : SS Ls nc nh nl nb ns al be ed lw ri sd ta th wa f) (l1 l2 : Int32) (x1 x2 x3 x4 x5 : Int32) (rst : Nat → Int32) (a1 a2 a3 a4 a5 : Int32) :
    (∃ (z : Int32) (nb' : Nat) (y1 y2 y3 y4 y5 : Int32) (yst : Nat → Int32) (b1 b2 b3 b4 b5 : Int32) (f' : Nat → Int32), fX11_law_n (nI nl) (nI nb) x1 x2 x3 x4 x5 ta rst l1 l2 = some (z, nI nb', y1, y2, y3, y4, y5, yst) ∧ fX12_law a1 a2 a3 a4 a5 f l1 l2 = some (z, b1, b2, b3, b4, b5, f') ∧ SS Ls nc nh nl nb' ns al be ed lw ri sd ta th wa f')
    ∨ (∃ (z y1 y2 y4 : Int32) (n' : Nat) (c' : Int32) (sc' : Nat → Int32) (b1 b2 b3 b4 b5 : Int32) (f' : Nat → Int32), n' < 120 ∧ nl < 8 ∧ fX11_law_y (nI nl) (nI nb) x1 x2 x3 x4 x5 lw ta rst l1 l2 = some (z, nI (nl + 1), 0, y1, y2, nI n', y4, c', sc') ∧ fX12_law a1 a2 a3 a4 a5 f l1 l2 = some (z, b1, b2, b3, b4, b5, f') ∧ ∀ q u : Nat, SS ((tK l1, q, l1, nI nl, l2, c', u, n', va_cpy sc' (fun _ => 0) 0 0 n') :: Ls) nc nh (nl + 1) 0 ns al be ed (va_up lw nl (some q)) ri sd ta th wa f') := by
  have hS := h
  obtain ⟨⟨hc, hh, hl, hb, hs, e0, e1, e2, e4, e3⟩, ⟨g1, g2, g3, g4, g5, g6, g7, g8⟩, ⟨v1, v2, v3, v4, v5, v6, v7⟩, hL⟩ := h
  by_cases q1 : wI l1 0 6 = 0
  · exact Or.inl ⟨-1, nb, x1, x2, x3, x4, x5, rst, a1, a2, a3, a4, a5, f, by simp only [fX11_law_n, wI_is, ob, q1, if_true], by simp only [fX12_law, wI_in, ob, q1, if_true], hS⟩
  by_cases q2 : wI l2 0 9 = 0
  · exact Or.inl ⟨-2, nb, x1, x2, x3, x4, x5, rst, a1, a2, a3, a4, a5, f, by simp only [fX11_law_n, wI_is, ob, q1, q2, if_true, if_false], by simp only [fX12_law, wI_in, ob, q1, q2, if_true, if_false], hS⟩
  by_cases q3 : nl = 8
  · have c8 : ¬ nI nl < 8 := r_nlt (N := 8) (by omega) (by omega)
    have c8' : nI nl = 8 := by rw [q3]; rfl
    exact Or.inl ⟨-4, nb, x1, x2, x3, x4, x5, rst, a1, a2, a3, a4, a5, f, by simp only [fX11_law_n, wI_is, ob, q1, q2, c8, if_false], by rw [← e2] at c8'; simp only [fX12_law, wI_in, ob, q1, q2, c8', if_true, if_false], hS⟩
  have q1' := q1
  have q2' := q2
  obtain ⟨κ, -, hκ, rfl⟩ := wI_ge (a := 0) (b := 6) (by decide) (by decide) q1
  obtain ⟨vv, -, hvv, rfl⟩ := wI_ge (a := 0) (b := 9) (by decide) (by decide) q2
  have hK : nl < 8 := by omega
  have c8 : nI nl < 8 := r_lt (N := 8) hK (by decide)
  have c8' : ¬ nI nl = 8 := ne_lit (N := 8) hK (by decide)
  have i226 := ix_ (K := 226) (n := nl) (N := 1394) (by omega) (by decide)
  have k226 := cl_ (K := 226) (n := nl) (by omega)
  have i234 := ix_ (K := 234) (n := nl) (N := 1394) (by omega) (by decide)
  have k234 := cl_ (K := 234) (n := nl) (by omega)
  have i242 := ix_ (K := 242) (n := nl) (N := 1394) (by omega) (by decide)
  have k242 := cl_ (K := 242) (n := nl) (by omega)
  have i250 := ix_ (K := 250) (n := nl) (N := 1394) (by omega) (by decide)
  have k250 := cl_ (K := 250) (n := nl) (by omega)
  -- the reference's state as the reading begins
  obtain ⟨f0, hf0⟩ : ∃ f0, f0 = upd (upd (upd (upd (upd f 4 0) (226 + nl) (nI κ)) (234 + nl) (nI vv)) (242 + nl) 0) (250 + nl) 0 := ⟨_, rfl⟩
  have z250 : f0 (250 + nl) = 0 := by rw [hf0]; exact pk_us
  have z242 : f0 (242 + nl) = 0 := by rw [hf0, pk_un (by omega)]; exact pk_us
  have z234 : f0 (234 + nl) = nI vv := by rw [hf0, pk_un (by omega), pk_un (by omega)]; exact pk_us
  have z226 : f0 (226 + nl) = nI κ := by rw [hf0, pk_un (by omega), pk_un (by omega), pk_un (by omega)]; exact pk_us
  have z4 : f0 4 = 0 := by rw [hf0, pk_un (by omega), pk_un (by omega), pk_un (by omega), pk_un (by omega)]; exact pk_us
  have zo : ∀ j, j ≠ 4 → j ≠ 226 + nl → j ≠ 234 + nl → j ≠ 242 + nl → j ≠ 250 + nl → f0 j = f j := by
    intro j j1 j2 j3 j4 j5
    rw [hf0, pk_un j5, pk_un j4, pk_un j3, pk_un j2, pk_un j1]
  have hag0 : agr 120 10 ta f0 := fun j hj => (g6 j hj).trans (zo (10 + j) (by omega) (by omega) (by omega) (by omega) (by omega)).symm
  have hml : ∀ X, Option.bind (fX12_clauseHere (nI nl) 0 (nI nb) 0 0 f0) (fun r12 => (fX12_law_L143 (fun x_spot_21 x_isWrong_22 x_open_23 f_s_24 => (fX12_law_b185 (nI nl) x_spot_21 (nI nb) x_isWrong_22 x_open_23 f_s_24)) (nI nl) (nI nb) 2000 r12.1 r12.2.1 r12.2.2.1 r12.2.2.2 (1 : Int32))) = X → fX12_law a1 a2 a3 a4 a5 f (nI κ) (nI vv) = X := by
    intro X hX
    unfold fX12_law
    rw [wI_in, ob, if_neg q1', wI_in, ob, if_neg q2', e2, if_neg c8', if_neg i226, if_neg i234, if_neg i242, if_neg i250, k226, k234, k242, k250, e4, ← hf0]
    exact hX
  -- what is kept of the relation, whatever the reading wrote
  have keep : ∀ (f' : Nat → Int32), frC nl f0 f' → ∀ j, j < 226 ∨ 1378 ≤ j → j ≠ 4 → f' j = f j := by
    intro f' hf j hj j4
    rw [hf j (by omega) (by omega) (by omega), zo j j4 (by omega) (by omega) (by omega) (by omega)]
  have arr : ∀ (f' : Nat → Int32), (∀ j, 10 ≤ j → j < 226 ∨ 1378 ≤ j → f' j = f j) → SSarr al be ed ri sd ta th wa f' := by
    intro f' hf
    exact ⟨fun j hj => (g1 j hj).trans (hf _ (by omega) (by omega)).symm, fun j hj => (g2 j hj).trans (hf _ (by omega) (by omega)).symm, fun j hj => (g3 j hj).trans (hf _ (by omega) (by omega)).symm, fun j hj => (g4 j hj).trans (hf _ (by omega) (by omega)).symm, fun j hj => (g5 j hj).trans (hf _ (by omega) (by omega)).symm, fun j hj => (g6 j hj).trans (hf _ (by omega) (by omega)).symm, fun j hj => (g7 j hj).trans (hf _ (by omega) (by omega)).symm, fun j hj => (g8 j hj).trans (hf _ (by omega) (by omega)).symm⟩
  have old : ∀ (f' : Nat → Int32), frC nl f0 f' → ∀ k, k < nl → ∀ r, lawR r f k → lawR r f' k := by
    intro f' hf k hk r hr
    refine lawR_congr (fun j hj => ?_) hr
    rw [hf j (by omega) (by omega) (by omega), zo j (by omega) (by omega) (by omega) (by omega) (by omega)]
  rcases reads_eq hK hb v5 hag0 z250 z242 (fun x_spot_21 x_isWrong_22 x_open_23 f_s_24 => (fX12_law_b185 (nI nl) x_spot_21 (nI nb) x_isWrong_22 x_open_23 f_s_24)) x1 x2 x3 x4 x5 rst with ⟨n', c', num', sc', f', h1, h2, h3, h4, h5, h6, h7⟩ | ⟨p', w, y1, y2, y3, y4, f', h1, h2, h3, h4, h5⟩
  · refine Or.inr ⟨nI nl, nI nb, nI nb, num', n', nI c', sc', nI nl, nI nb, nI nb, 0, 0, upd f' 2 (nI (nl + 1)), by omega, hK, ?_, hml _ (h4.trans ?_), fun q u => ?_⟩
    · have cn : ¬ (nI n' < 0 ∨ ¬ nI n' < 120) := by
        rintro (a | a)
        · exact nI_pos (by omega) a
        · exact a (r_lt (N := 120) (by omega) (by decide))
      unfold fX11_law_y
      rw [wI_is, ob, if_neg q1', wI_is, ob, if_neg q2', if_pos c8, h3, ob, if_neg ne10]
      show (if nI n' < 0 ∨ ¬ nI n' < 120 then none else _) = _
      rw [if_neg cn, if_neg (nI_in (c := nl) (N := 8) hK (by decide)), nI_1]
    · show fX12_law_b185 (nI nl) (nI nb) (nI nb) 0 0 f' = _
      unfold fX12_law_b185
      have f2 : f' 2 = nI nl := by rw [keep f' h7 2 (by omega) (by omega)]; exact e2
      rw [if_pos rfl, if_pos rfl, f2, nI_1]
    · have kp : ∀ j, j < 226 ∨ 1378 ≤ j → j ≠ 4 → j ≠ 2 → upd f' 2 (nI (nl + 1)) j = f j := by
        intro j j1 j2 j3
        rw [pk_un j3, keep f' h7 j j1 j2]
      refine ⟨⟨hc, hh, by omega, by omega, hs, ?_, ?_, pk_us, ?_, ?_⟩, arr _ (fun j j1 j2 => kp j j2 (by omega) (by omega)), ⟨v1, v2, v3, v4, v5, v6, v7⟩, ?_, ?_⟩
      · rw [kp 0 (by omega) (by omega) (by omega)]; exact e0
      · rw [kp 1 (by omega) (by omega) (by omega)]; exact e1
      · rw [pk_un (by decide), h7 4 (by omega) (by omega) (by omega), z4]; rfl
      · rw [kp 3 (by omega) (by omega) (by omega)]; exact e3
      · intro k hk
        by_cases qk : k = nl
        · subst qk
          refine ⟨_, List.mem_cons_self, va_up_self _ _ _, ⟨⟨κ, vv, c', hκ, hvv, h2, ?_, ?_, ?_, rfl, rfl, rfl, rfl, rfl⟩, n', 0, by omega, rfl, ?_, ?_⟩⟩
          · rw [pk_un (by omega), h7 _ (by omega) (by omega) (by omega)]; exact z226
          · rw [pk_un (by omega), h7 _ (by omega) (by omega) (by omega)]; exact z234
          · rw [pk_un (by omega)]; exact h6
          · rw [pk_un (by omega)]; exact h5.1
          · obtain ⟨-, dep, d1, d2, d3⟩ := h5
            refine ⟨dep, d1, d2, fun j hj => ?_⟩
            have ej : upd f' 2 (nI (k + 1)) (258 + 140 * k + j) = f' (258 + 140 * k + j) := pk_un (by omega)
            show stepR (upd f' 2 (nI (k + 1)) (258 + 140 * k + j)) (va_cpy sc' (fun _ => 0) 0 0 n' j) _ _ ∧ _
            rw [ej, pk_cpy_in (by omega) (by omega), show 0 + (j - 0) = j from by omega]
            exact d3 j hj
        · obtain ⟨r, r1, r2, r3⟩ := hL.1 k (by omega)
          refine ⟨r, List.mem_cons_of_mem _ r1, by rw [va_up_ne _ _ qk]; exact r2, ?_⟩
          exact lawR_congr (fun j hj => pk_un (by omega)) (old f' h7 k (by omega) r r3)
      · intro j q' hq'
        by_cases qj : j = nl
        · subst qj
          rw [va_up_self] at hq'
          exact ⟨_, List.mem_cons_self, Option.some.inj hq'⟩
        · rw [va_up_ne _ _ qj] at hq'
          obtain ⟨r, r1, r2⟩ := hL.2 j q' hq'
          exact ⟨r, List.mem_cons_of_mem _ r1, r2⟩
  · refine Or.inl ⟨-10 - nI p', 0, nI nb, nI p', y1, y2, y3, y4, nI nl, nI p', nI nb, w, 0, f', ?_, hml _ (h4.trans ?_), ?_⟩
    · unfold fX11_law_n
      rw [wI_is, ob, if_neg q1', wI_is, ob, if_neg q2', if_pos c8, h3, ob, if_pos rfl]
      rfl
    · show fX12_law_b185 (nI nl) (nI p') (nI nb) w 0 f' = _
      unfold fX12_law_b185
      rcases h2 with h2 | ⟨h2, h2'⟩
      · subst h2
        rw [if_neg ne10]
      · subst h2
        have hne : ¬ nI p' = nI nb := fun e => by
          have := (nI_eq (by omega) (by omega)).mp e
          omega
        rw [if_pos rfl, if_neg hne]
    · refine ⟨⟨hc, hh, hl, by omega, hs, ?_, ?_, ?_, ?_, ?_⟩, arr _ (fun j j1 j2 => keep f' h5 j j2 (by omega)), ⟨v1, v2, v3, v4, v5, v6, v7⟩, fun k hk => ?_, hL.2⟩
      · rw [keep f' h5 0 (by omega) (by omega)]; exact e0
      · rw [keep f' h5 1 (by omega) (by omega)]; exact e1
      · rw [keep f' h5 2 (by omega) (by omega)]; exact e2
      · rw [h5 4 (by omega) (by omega) (by omega), z4]; rfl
      · rw [keep f' h5 3 (by omega) (by omega)]; exact e3
      · obtain ⟨r, r1, r2, r3⟩ := hL.1 k hk
        exact ⟨r, r1, r2, old f' h5 k hk r r3⟩
end SL
end PL
