/-! the public methods that use a law -/
section CA
variable {Ls : List LR} {nc nh nl nb ns : Nat} {al be ed : Nat → Int32} {lw : Nat → Option Nat} {ri sd ta th wa f : Nat → Int32}
/-! told -/
theorem p_told_n (h : SS Ls nc nh nl nb ns al be ed lw ri sd ta th wa f) {l1 : Int32} (h1 : wI l1 0 (nI nl - 1) = 0) (l2 : Int32) : ∃ z : Int32, fX11_told_n (nI nl) lw l1 l2 = some z ∧ fX12_told f l1 l2 = some z := by
  have e2 := h.1.2.2.2.2.2.2.2.1
  exact ⟨-1, rfl, by simp only [fX12_told, i12_law, ob, e2, h1, if_true]⟩
theorem p_told_s (h : SS Ls nc nh nl nb ns al be ed lw ri sd ta th wa f) {r : LR} {k : Nat} (hk : k < nl) (hk8 : k < 8) (hr : lawR r f k) (h1 : ¬ wI (nI k) 0 (nI nl - 1) = 0) (l2 : Int32) : ∃ z : Int32, fX11_told_s r.1 r.2.2.1 r.2.2.2.2.1 r.2.2.2.2.2.1 (nI nl) lw (nI k) l2 = some z ∧ fX12_told f (nI k) l2 = some z := by
  have e2 := h.1.2.2.2.2.2.2.2.1
  obtain ⟨κ, vv, cc, hκ, hvv, hcc, e226, e234, e242, er1, er2, er3, er4, er5⟩ := hr.1
  unfold fX12_told fX11_told_s
  rw [i12_law, ob, e2, if_neg h1, wI_in, ob]
  by_cases q : wI l2 0 2 = 0
  · have n0 : ¬ l2 = 0 := fun e => by rw [e] at q; exact absurd q (by decide)
    have n1 : ¬ l2 = 1 := fun e => by rw [e] at q; exact absurd q (by decide)
    have n2 : ¬ l2 = 2 := fun e => by rw [e] at q; exact absurd q (by decide)
    exact ⟨-1, by rw [if_neg n0, if_neg n1, if_neg n2], by rw [if_pos q]⟩
  · have q' := q
    obtain ⟨j, -, hj, rfl⟩ := wI_ge (a := 0) (b := 2) (by decide) (by decide) q
    rw [if_neg q']
    rcases (show j = 0 ∨ j = 1 ∨ j = 2 by omega) with rfl | rfl | rfl
    · have e : (226 + (8 * nI 0)) + nI k = nI (226 + k) := nI_add 226 k
      refine ⟨nI κ, by rw [if_pos (show nI 0 = 0 from rfl), er2], ?_⟩
      rw [e, if_neg (nI_in (by omega) (by decide)), nI_clamp (by omega), e226]
    · have e : (226 + (8 * nI 1)) + nI k = nI (234 + k) := nI_add 234 k
      refine ⟨nI vv, by rw [if_neg (show ¬ nI 1 = 0 from by decide), if_pos (show nI 1 = 1 from rfl), er4], ?_⟩
      rw [e, if_neg (nI_in (by omega) (by decide)), nI_clamp (by omega), e234]
    · have e : (226 + (8 * nI 2)) + nI k = nI (242 + k) := nI_add 242 k
      refine ⟨nI cc, by rw [if_neg (show ¬ nI 2 = 0 from by decide), if_neg (show ¬ nI 2 = 1 from by decide), if_pos (show nI 2 = 2 from rfl), er5], ?_⟩
      rw [e, if_neg (nI_in (by omega) (by decide)), nI_clamp (by omega), e242]
/-! as -/
theorem under_eq : ∀ (κ k : Fin 7), fX11_isOfKind (tK (nI κ.val)) (nI k.val) = fX12_isUnder (nI κ.val) (nI k.val) ∧ (fX12_isUnder (nI κ.val) (nI k.val) = some 0 ∨ fX12_isUnder (nI κ.val) (nI k.val) = some 1) := by decide +kernel
theorem p_as_n (h : SS Ls nc nh nl nb ns al be ed lw ri sd ta th wa f) {l1 : Int32} (h1 : wI l1 0 (nI nl - 1) = 0) (l2 : Int32) : ∃ z : Int32, fX11_as_n (nI nl) lw l1 l2 = some z ∧ fX12_as f l1 l2 = some z := by
  have e2 := h.1.2.2.2.2.2.2.2.1
  exact ⟨-1, rfl, by simp only [fX12_as, i12_law, ob, e2, h1, if_true]⟩
theorem p_as_s (h : SS Ls nc nh nl nb ns al be ed lw ri sd ta th wa f) {r : LR} {k : Nat} (hk : k < nl) (hk8 : k < 8) (hr : lawR r f k) (h1 : ¬ wI (nI k) 0 (nI nl - 1) = 0) (l2 : Int32) : ∃ z : Int32, fX11_as_s r.1 r.2.2.2.2.1 (nI nl) lw (nI k) l2 = some z ∧ fX12_as f (nI k) l2 = some z := by
  have e2 := h.1.2.2.2.2.2.2.2.1
  obtain ⟨κ, vv, cc, hκ, hvv, hcc, e226, e234, e242, er1, er2, er3, er4, er5⟩ := hr.1
  unfold fX12_as fX11_as_s
  rw [i12_law, ob, e2, if_neg h1, wI_in, ob, wI_is, ob, er1, er4]
  by_cases q : wI l2 0 6 = 0
  · exact ⟨-1, by rw [if_pos q], by rw [if_pos q]⟩
  · have q' := q
    obtain ⟨j, -, hj, rfl⟩ := wI_ge (a := 0) (b := 6) (by decide) (by decide) q
    obtain ⟨u1, u2⟩ := under_eq ⟨κ, by omega⟩ ⟨j, by omega⟩
    have u1' : fX11_isOfKind (tK (nI κ)) (nI j) = fX12_isUnder (nI κ) (nI j) := u1
    have u2' : fX12_isUnder (nI κ) (nI j) = some 0 ∨ fX12_isUnder (nI κ) (nI j) = some 1 := u2
    rw [if_neg q', if_neg q', u1', if_neg (ix_ (K := 226) (n := k) (N := 1394) (by omega) (by decide)), cl_ (K := 226) (n := k) (by omega), e226]
    rcases u2' with u | u
    · exact ⟨-6, by rw [u, ob, if_pos rfl], by rw [u, ob, if_pos rfl]⟩
    · exact ⟨nI vv, by rw [u, ob, if_neg (by decide)], by rw [u, ob, if_neg (by decide), if_neg (ix_ (K := 234) (n := k) (N := 1394) (by omega) (by decide)), cl_ (K := 234) (n := k) (by omega), e234]⟩
/-! toss -/
theorem p_toss_n (h : SS Ls nc nh nl nb ns al be ed lw ri sd ta th wa f) {l1 : Int32} (h1 : wI l1 0 (nI nl - 1) = 0) (l2 l3 l4 l5 : Int32) (s1 s2 s3 s4 s5 s6 : Int32) (fb tr : Nat → Int32) : ∃ (z : Int32) (sr : SR), fX11_toss_n (nI nl) lw l1 l2 l3 l4 l5 = some z ∧ fX12_toss s1 s2 s3 s4 s5 s6 fb f tr l1 l2 l3 l4 l5 = some (z, sr) := by
  refine ⟨-1, (s1, s2, s3, s4, s5, s6, fb, tr), rfl, ?_⟩
  unfold fX12_toss
  rw [m_there h, ob, if_pos h1, if_pos rfl]
theorem p_toss_s (h : SS Ls nc nh nl nb ns al be ed lw ri sd ta th wa f) {r : LR} {k : Nat} (hk : k < nl) (hk8 : k < 8) (hr : lawR r f k) (h1 : ¬ wI (nI k) 0 (nI nl - 1) = 0) (l2 l3 l4 l5 : Int32) (p1 p2 p3 p4 p5 p6 p7 p8 : Int32) (s1 s2 s3 s4 s5 s6 : Int32) (fb tr : Nat → Int32) :
    ∃ (z : Int32) (fl : FL) (sr : SR), fX11_toss_s r.2.2.2.2.2.2.2.1 r.1 r.2.2.2.2.1 r.2.2.2.2.2.1 p1 p2 p3 p4 p5 p6 p7 p8 (nI nc) (nI nh) (nI nl) r.2.2.2.2.2.2.2.2 be ed lw (nI k) l2 l3 l4 l5 = some (z, fl) ∧ fX12_toss s1 s2 s3 s4 s5 s6 fb f tr (nI k) l2 l3 l4 l5 = some (z, sr) := by
  have hS := h
  obtain ⟨⟨hc, hh, hl, hb, hs, e0, e1, e2, e4, e3⟩, ⟨g1, g2, g3, g4, g5, g6, g7, g8⟩, ⟨v1, v2, -⟩, -⟩ := h
  by_cases h2 : wI l2 0 (nI nh - 1) = 0
  · exact ⟨-1, (p1, p2, p3, p4, p5, p6, p7, p8), (s1, s2, s3, s4, s5, s6, fb, tr), by simp only [fX11_toss_s, i11_hand, ob, h2, if_true], by simp only [fX12_toss, m_there hS, ob, h1, h2, if_true, if_false]⟩
  by_cases h3 : wI l3 0 (nI nc - 1) = 0
  · exact ⟨-1, (p1, p2, p3, p4, p5, p6, p7, p8), (s1, s2, s3, s4, s5, s6, fb, tr), by simp only [fX11_toss_s, i11_hand, i11_coin, ob, h2, h3, if_true, if_false], by simp only [fX12_toss, m_there hS, ob, h1, h2, h3, if_true, if_false]⟩
  by_cases h5 : wI l5 0 3 = 0
  · exact ⟨-1, (p1, p2, p3, p4, p5, p6, p7, p8), (s1, s2, s3, s4, s5, s6, fb, tr), by simp only [fX11_toss_s, i11_hand, i11_coin, wI_is, ob, h2, h3, h5, if_true, if_false], by simp only [fX12_toss, m_there hS, wI_in, ob, h1, h2, h3, h5, if_true, if_false, show ¬ (1 : Int32) = 0 from by decide]⟩
  by_cases h4 : wI l4 1 40 = 0
  · exact ⟨-2, (p1, p2, p3, p4, p5, p6, p7, p8), (s1, s2, s3, s4, s5, s6, fb, tr), by simp only [fX11_toss_s, i11_hand, i11_coin, wI_is, ob, h2, h3, h5, h4, if_true, if_false], by simp only [fX12_toss, m_there hS, wI_in, ob, h1, h2, h3, h5, h4, if_true, if_false, show ¬ (1 : Int32) = 0 from by decide]⟩
  have n2 := h2
  have n3 := h3
  have n4 := h4
  obtain ⟨hd, hhd, rfl⟩ := wI_lt (by omega) h2
  obtain ⟨c, hcc', rfl⟩ := wI_lt (by omega) h3
  obtain ⟨ρ, hρ1, hρ2, rfl⟩ := wI_ge (a := 1) (b := 40) (by decide) (by decide) h4
  have hc6 : c < 6 := by omega
  obtain ⟨b, hb9, eb⟩ := v1 c hc6
  obtain ⟨κ, vv, cc, hκ, hvv, hcc, e226, e234, e242, er1, er2, er3, er4, er5⟩ := hr.1
  have e130 : f (130 + c) = ed c := (g3 c hc6).symm
  have e136 : f (136 + c) = nI b := (g2 c hc6).symm.trans eb
  have hlast : nI ρ + nI cc = nI (ρ + cc) := nI_add _ _
  obtain ⟨a', L', z, T', as', fb', tr', ha', hz, -, j2, j3, j4⟩ := goes_L (xh := nI hd) (xr := nI ρ) (last := nI (ρ + cc)) (N := ρ + cc) (b := b) (y := 1) hk8 hr hc6 e130 e136 hb9 (by decide) (by omega) (fun _ _ _ => none)
    (fun x_flight_tick_21 x_flight_angle_22 x_flight_lean_23 l7_24 => (if l5 = 0 then (Option.bind (fV_sideUp r.1 (ed c) (nI b) (nI (ρ + cc)) x_flight_tick_21 x_flight_angle_22 x_flight_lean_23 r.2.2.2.2.1 (1 : Int32)) (fun r26 => some (r26, nI hd, ed c, nI b, nI ρ, nI (ρ + cc), x_flight_tick_21, x_flight_angle_22, x_flight_lean_23))) else (if l5 = 1 then some (x_flight_angle_22, nI hd, ed c, nI b, nI ρ, nI (ρ + cc), x_flight_tick_21, x_flight_angle_22, x_flight_lean_23) else (if l5 = 2 then some (l7_24, nI hd, ed c, nI b, nI ρ, nI (ρ + cc), x_flight_tick_21, x_flight_angle_22, x_flight_lean_23) else some (nI (ρ + cc), nI hd, ed c, nI b, nI ρ, nI (ρ + cc), x_flight_tick_21, x_flight_angle_22, x_flight_lean_23)))))
    (nI nc) (nI nh) (nI nl) r.2.2.2.2.2.1 be ed lw l5 (ρ + cc - 1) 0 2000 2000 2000 0 0 s1 s2 s3 0 (upd (upd (upd (upd fb 0 (nI ρ)) 1 (ed c)) 2 (nI b)) 3 (nI hd)) tr (by omega) (by omega) (by omega) (by omega) (by omega) (by rw [pk_un (by decide), pk_un (by decide), pk_un (by decide), pk_us]) (by rw [pk_un (by decide), pk_un (by decide), pk_us]) (by rw [pk_un (by decide), pk_us]) pk_us
  have jt := j2 rfl rfl
  have jm : fX12_goes s1 s2 s3 s4 s5 s6 fb f tr (nI k) (nI hd) (nI c) (nI ρ) (1 : Int32) 0 = some (T', nI L', nI z, nI a', as', nI (ρ + cc), fb', tr') := by
    rw [go_m hk8 hc6, e130, e136, e242, hlast, if_pos rfl]
    exact j3
  have hcl : ∀ X, fX11_toss_s_L70 (fun x_flight_tick_21 x_flight_angle_22 x_flight_lean_23 l7_24 => (if l5 = 0 then (Option.bind (fV_sideUp r.1 (ed c) (nI b) (nI (ρ + cc)) x_flight_tick_21 x_flight_angle_22 x_flight_lean_23 r.2.2.2.2.1 (1 : Int32)) (fun r26 => some (r26, nI hd, ed c, nI b, nI ρ, nI (ρ + cc), x_flight_tick_21, x_flight_angle_22, x_flight_lean_23))) else (if l5 = 1 then some (x_flight_angle_22, nI hd, ed c, nI b, nI ρ, nI (ρ + cc), x_flight_tick_21, x_flight_angle_22, x_flight_lean_23) else (if l5 = 2 then some (l7_24, nI hd, ed c, nI b, nI ρ, nI (ρ + cc), x_flight_tick_21, x_flight_angle_22, x_flight_lean_23) else some (nI (ρ + cc), nI hd, ed c, nI b, nI ρ, nI (ρ + cc), x_flight_tick_21, x_flight_angle_22, x_flight_lean_23))))) r.2.2.2.2.2.2.2.1 r.1 r.2.2.2.2.1 r.2.2.2.2.2.1 (nI hd) (ed c) (nI b) (nI ρ) (nI (ρ + cc)) (nI nc) (nI nh) (nI nl) r.2.2.2.2.2.2.2.2 be ed lw l5 2000 0 0 0 0 1 = X → fX11_toss_s r.2.2.2.2.2.2.2.1 r.1 r.2.2.2.2.1 r.2.2.2.2.2.1 p1 p2 p3 p4 p5 p6 p7 p8 (nI nc) (nI nh) (nI nl) r.2.2.2.2.2.2.2.2 be ed lw (nI k) (nI hd) (nI c) (nI ρ) l5 = X := by
    intro X hX
    unfold fX11_toss_s
    rw [i11_hand, ob, if_neg n2, i11_coin, ob, if_neg n3, wI_is, ob, if_neg h5, wI_is, ob, if_neg n4]
    unfold fX11_begin
    rw [if_neg (nI_in (c := c) (N := 6) hc6 (by decide)), nI_clamp (by omega), ob, er5, hlast, eb]
    rw [er5] at hX
    exact hX
  have hml : ∀ X, (if l5 = 0 then some (nI z, T', nI L', nI z, nI a', as', nI (ρ + cc), fb', tr') else (if l5 = 1 then some (nI a', T', nI L', nI z, nI a', as', nI (ρ + cc), fb', tr') else (if l5 = 2 then some (as', T', nI L', nI z, nI a', as', nI (ρ + cc), fb', tr') else some (nI (ρ + cc), T', nI L', nI z, nI a', as', nI (ρ + cc), fb', tr')))) = X → fX12_toss s1 s2 s3 s4 s5 s6 fb f tr (nI k) (nI hd) (nI c) (nI ρ) l5 = X := by
    intro X hX
    unfold fX12_toss
    rw [m_there hS, ob, if_neg h1, if_neg n2, if_neg n3, if_neg (by decide), wI_in, ob, if_neg h5, wI_in, ob, if_neg n4, jm, ob]
    exact hX
  by_cases q0 : l5 = 0
  · refine ⟨nI z, (nI hd, ed c, nI b, nI ρ, nI (ρ + cc), nI (ρ + cc), nI a', nI L'), (T', nI L', nI z, nI a', as', nI (ρ + cc), fb', tr'), hcl _ (jt.trans ?_), hml _ ?_⟩
    · show (if l5 = 0 then _ else _) = _
      have j4' : fV_sideUp r.1 (ed c) (nI b) (nI (ρ + cc)) (nI (ρ + cc)) (nI a') (nI L') r.2.2.2.2.1 (1 : Int32) = some (nI z) := j4
      rw [if_pos q0, j4', ob]
    · rw [if_pos q0]
  by_cases q1 : l5 = 1
  · refine ⟨nI a', (nI hd, ed c, nI b, nI ρ, nI (ρ + cc), nI (ρ + cc), nI a', nI L'), (T', nI L', nI z, nI a', as', nI (ρ + cc), fb', tr'), hcl _ (jt.trans ?_), hml _ ?_⟩
    · show (if l5 = 0 then _ else (if l5 = 1 then _ else _)) = _
      rw [if_neg q0, if_pos q1]
    · rw [if_neg q0, if_pos q1]
  by_cases q2 : l5 = 2
  · refine ⟨as', (nI hd, ed c, nI b, nI ρ, nI (ρ + cc), nI (ρ + cc), nI a', nI L'), (T', nI L', nI z, nI a', as', nI (ρ + cc), fb', tr'), hcl _ (jt.trans ?_), hml _ ?_⟩
    · show (if l5 = 0 then _ else (if l5 = 1 then _ else (if l5 = 2 then _ else _))) = _
      rw [if_neg q0, if_neg q1, if_pos q2]
    · rw [if_neg q0, if_neg q1, if_pos q2]
  · refine ⟨nI (ρ + cc), (nI hd, ed c, nI b, nI ρ, nI (ρ + cc), nI (ρ + cc), nI a', nI L'), (T', nI L', nI z, nI a', as', nI (ρ + cc), fb', tr'), hcl _ (jt.trans ?_), hml _ ?_⟩
    · show (if l5 = 0 then _ else (if l5 = 1 then _ else (if l5 = 2 then _ else _))) = _
      rw [if_neg q0, if_neg q1, if_neg q2]
    · rw [if_neg q0, if_neg q1, if_neg q2]
/-! up -/
theorem p_up_n (h : SS Ls nc nh nl nb ns al be ed lw ri sd ta th wa f) {l1 : Int32} (h1 : wI l1 0 (nI nl - 1) = 0) (l2 l3 l4 l5 : Int32) (s1 s2 s3 s4 s5 s6 : Int32) (fb tr : Nat → Int32) : ∃ (z : Int32) (sr : SR), fX11_up_n (nI nl) lw l1 l2 l3 l4 l5 = some z ∧ fX12_up s1 s2 s3 s4 s5 s6 fb f tr l1 l2 l3 l4 l5 = some (z, sr) := by
  refine ⟨-1, (s1, s2, s3, s4, s5, s6, fb, tr), rfl, ?_⟩
  unfold fX12_up
  rw [m_there h, ob, if_pos h1, if_pos rfl]
theorem p_up_s (h : SS Ls nc nh nl nb ns al be ed lw ri sd ta th wa f) {r : LR} {k : Nat} (hk : k < nl) (hk8 : k < 8) (hr : lawR r f k) (h1 : ¬ wI (nI k) 0 (nI nl - 1) = 0) (l2 l3 l4 l5 : Int32) (p1 p2 p3 p4 p5 p6 p7 p8 : Int32) (s1 s2 s3 s4 s5 s6 : Int32) (fb tr : Nat → Int32) :
    ∃ (z : Int32) (fl : FL) (sr : SR), fX11_up_s r.2.2.2.2.2.2.2.1 r.1 r.2.2.2.2.1 r.2.2.2.2.2.1 p1 p2 p3 p4 p5 p6 p7 p8 (nI nc) (nI nh) (nI nl) r.2.2.2.2.2.2.2.2 be ed lw (nI k) l2 l3 l4 l5 = some (z, fl) ∧ fX12_up s1 s2 s3 s4 s5 s6 fb f tr (nI k) l2 l3 l4 l5 = some (z, sr) := by
  have hS := h
  obtain ⟨⟨hc, hh, hl, hb, hs, e0, e1, e2, e4, e3⟩, ⟨g1, g2, g3, g4, g5, g6, g7, g8⟩, ⟨v1, v2, -⟩, -⟩ := h
  obtain ⟨κ, vv, cc, hκ, hvv, hcc, e226, e234, e242, er1, er2, er3, er4, er5⟩ := hr.1
  have i242 := ix_ (K := 242) (n := k) (N := 1394) (by omega) (by decide)
  have k242 := cl_ (K := 242) (n := k) (by omega)
  by_cases h2 : wI l2 0 (nI nh - 1) = 0
  · exact ⟨-1, (p1, p2, p3, p4, p5, p6, p7, p8), (s1, s2, s3, s4, s5, s6, fb, tr), by simp only [fX11_up_s, i11_hand, ob, h2, if_true], by simp only [fX12_up, m_there hS, ob, h1, h2, if_true, if_false]⟩
  by_cases h3 : wI l3 0 (nI nc - 1) = 0
  · exact ⟨-1, (p1, p2, p3, p4, p5, p6, p7, p8), (s1, s2, s3, s4, s5, s6, fb, tr), by simp only [fX11_up_s, i11_hand, i11_coin, ob, h2, h3, if_true, if_false], by simp only [fX12_up, m_there hS, ob, h1, h2, h3, if_true, if_false]⟩
  by_cases h4 : wI l4 1 40 = 0
  · exact ⟨-2, (p1, p2, p3, p4, p5, p6, p7, p8), (s1, s2, s3, s4, s5, s6, fb, tr), by simp only [fX11_up_s, i11_hand, i11_coin, wI_is, ob, h2, h3, h4, if_true, if_false], by simp only [fX12_up, m_there hS, wI_in, ob, h1, h2, h3, h4, if_true, if_false, show ¬ (1 : Int32) = 0 from by decide]⟩
  have n2 := h2
  have n3 := h3
  have n4 := h4
  obtain ⟨hd, hhd, rfl⟩ := wI_lt (by omega) h2
  obtain ⟨c, hcc', rfl⟩ := wI_lt (by omega) h3
  obtain ⟨ρ, hρ1, hρ2, rfl⟩ := wI_ge (a := 1) (b := 40) (by decide) (by decide) h4
  have hlast : nI ρ + nI cc = nI (ρ + cc) := nI_add _ _
  have hc6 : c < 6 := by omega
  by_cases h5 : wI l5 1 (nI (ρ + cc)) = 0
  · refine ⟨-2, (p1, p2, p3, p4, p5, p6, p7, p8), (s1, s2, s3, s4, s5, s6, fb, tr), ?_, ?_⟩
    · unfold fX11_up_s
      rw [i11_hand, ob, if_neg n2, i11_coin, ob, if_neg n3, wI_is, ob, if_neg n4, wI_is, ob, er5, hlast, if_pos h5]
    · unfold fX12_up
      rw [m_there hS, ob, if_neg h1, if_neg n2, if_neg n3, if_neg (by decide), wI_in, ob, if_neg n4, if_neg i242, k242, e242, hlast, wI_in, ob, if_pos h5]
  have n5 := h5
  obtain ⟨τ, hτ1, hτ2, rfl⟩ := wI_ge (a := 1) (b := ρ + cc) (by decide) (by omega) h5
  obtain ⟨b, hb9, eb⟩ := v1 c hc6
  have e130 : f (130 + c) = ed c := (g3 c hc6).symm
  have e136 : f (136 + c) = nI b := (g2 c hc6).symm.trans eb
  obtain ⟨a', L', z, T', as', fb', tr', ha', hz, j1, -, j3, j4⟩ := goes_L (xh := nI hd) (xr := nI ρ) (last := nI (ρ + cc)) (N := τ) (b := b) (y := 1) hk8 hr hc6 e130 e136 hb9 (by decide) (by omega) (fun t a l => Option.bind (fV_sideUp r.1 (ed c) (nI b) (nI (ρ + cc)) t a l r.2.2.2.2.1 (1 : Int32)) (fun r7 => some (r7, t, a, l))) (fun _ _ _ _ => none) 0 0 0 0 fb fb (fun _ => none) 0 (τ - 1) 0 2000 2000 2000 0 0 s1 s2 s3 0 (upd (upd (upd (upd fb 0 (nI ρ)) 1 (ed c)) 2 (nI b)) 3 (nI hd)) tr (by omega) (by omega) (by omega) (by omega) (by omega) (by rw [pk_un (by decide), pk_un (by decide), pk_un (by decide), pk_us]) (by rw [pk_un (by decide), pk_un (by decide), pk_us]) (by rw [pk_un (by decide), pk_us]) pk_us
  have jm : fX12_goes s1 s2 s3 s4 s5 s6 fb f tr (nI k) (nI hd) (nI c) (nI ρ) (1 : Int32) (nI τ) = some (T', nI L', nI z, nI a', as', nI (ρ + cc), fb', tr') := by
    rw [go_m hk8 hc6, e130, e136, e242, hlast, if_neg (nI_ne0 (by omega) (by omega))]
    exact j3
  have j4' : fV_sideUp r.1 (ed c) (nI b) (nI (ρ + cc)) (nI τ) (nI a') (nI L') r.2.2.2.2.1 (1 : Int32) = some (nI z) := j4
  have e1 : fX11_sideAt r.2.2.2.2.2.2.2.1 r.1 r.2.2.2.2.1 (nI hd) (ed c) (nI b) (nI ρ) (nI (ρ + cc)) 0 0 0 r.2.2.2.2.2.2.2.2 (nI τ) (1 : Int32) = some (nI z, nI τ, nI a', nI L') := by
    unfold fX11_sideAt
    refine Eq.trans j1 ?_
    show Option.bind (fV_sideUp r.1 (ed c) (nI b) (nI (ρ + cc)) (nI τ) (nI a') (nI L') r.2.2.2.2.1 (1 : Int32)) _ = _
    rw [j4', ob]
  refine ⟨nI z, (nI hd, ed c, nI b, nI ρ, nI (ρ + cc), nI τ, nI a', nI L'), (T', nI L', nI z, nI a', as', nI (ρ + cc), fb', tr'), ?_, ?_⟩
  · unfold fX11_up_s
    rw [i11_hand, ob, if_neg n2, i11_coin, ob, if_neg n3, wI_is, ob, if_neg n4, wI_is, ob, er5, hlast, if_neg n5]
    unfold fX11_begin
    rw [if_neg (nI_in (c := c) (N := 6) hc6 (by decide)), nI_clamp (by omega), ob, hlast, eb]
    show Option.bind (fX11_sideAt r.2.2.2.2.2.2.2.1 r.1 r.2.2.2.2.1 (nI hd) (ed c) (nI b) (nI ρ) (nI (ρ + cc)) 0 0 0 r.2.2.2.2.2.2.2.2 (nI τ) (1 : Int32)) _ = _
    rw [e1, ob]
  · unfold fX12_up
    rw [m_there hS, ob, if_neg h1, if_neg n2, if_neg n3, if_neg (by decide), wI_in, ob, if_neg n4, if_neg i242, k242, e242, hlast, wI_in, ob, if_neg n5, jm, ob]
end CA
