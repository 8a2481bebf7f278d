/-! act -/
section AC
variable {Ls : List LR} {nc nh nl nb ns : Nat} {al be ed : Nat → Int32} {lw : Nat → Option Nat} {ri sd ta th wa f : Nat → Int32}
theorem ob_eta {α β γ : Type} (o : Option (α × β × γ)) : Option.bind o (fun r => some (r.1, r.2.1, r.2.2)) = o := by cases o <;> rfl
theorem turns_eq : ∀ (κ : Nat), κ ≤ 6 → ∀ (ran num : Int32) (b : Nat → Int32) (x : Int32), fV_turns (tK (nI κ)) ran num b x = fX12_turnsActs ran (nI κ) num b x
  | 0, _, ran, num, b, x => by
    rw [show tK (nI 0) = 7 from by decide]
    show fX7_turns 7 ran num b x = _
    unfold fX12_turnsActs
    rw [if_neg (by decide), show fX12_isUnder (nI 0) 1 = some 0 from by decide, ob, if_pos rfl, ob_eta]
    rfl
  | 1, _, ran, num, b, x => by
    rw [show tK (nI 1) = 9 from by decide]
    show fX9_turns 9 ran num b x = _
    unfold fX12_turnsActs
    rw [if_neg (by decide), show fX12_isUnder (nI 1) 1 = some 1 from by decide, ob, if_neg (by decide), ob_eta]
    rfl
  | 2, _, ran, num, b, x => by
    rw [show tK (nI 2) = 10 from by decide]
    show fX9_turns 10 ran num b x = _
    unfold fX12_turnsActs
    rw [if_neg (by decide), show fX12_isUnder (nI 2) 1 = some 1 from by decide, ob, if_neg (by decide), ob_eta]
    rfl
  | 3, _, ran, num, b, x => by
    rw [show tK (nI 3) = 0 from by decide]
    show fX7_turns 0 ran num b x = _
    unfold fX12_turnsActs
    rw [if_neg (by decide), show fX12_isUnder (nI 3) 1 = some 0 from by decide, ob, if_pos rfl, ob_eta]
    rfl
  | 4, _, ran, num, b, x => by
    rw [show tK (nI 4) = 1 from by decide]
    show fX7_turns 1 ran num b x = _
    unfold fX12_turnsActs
    rw [if_neg (by decide), show fX12_isUnder (nI 4) 1 = some 0 from by decide, ob, if_pos rfl, ob_eta]
    rfl
  | 5, _, ran, num, b, x => by
    rw [show tK (nI 5) = 5 from by decide]
    show fX7_turns 5 ran num b x = _
    unfold fX12_turnsActs
    rw [if_neg (by decide), show fX12_isUnder (nI 5) 1 = some 0 from by decide, ob, if_pos rfl, ob_eta]
    rfl
  | 6, _, ran, num, b, x => by
    rw [show tK (nI 6) = 4 from by decide]
    show fX4_turns ran num b x = _
    unfold fX12_turnsActs
    rw [if_pos (by decide)]
    rfl
  | n + 7, h, _, _, _, _ => absurd h (by omega)
theorem plands_eq {κ : Nat} (hκ : κ ≤ 6) (ran num v : Int32) (b : Nat → Int32) (x : Int32) : fX7_lands (tK (nI κ)) ran num v b x = fX12_plainLands ran (nI κ) num v b x := by
  unfold fX7_lands fX12_plainLands
  show Option.bind (fX12_ranBody ran b 2) _ = _
  congr 1
  funext r1
  rw [turns_eq κ hκ]
theorem clands_eq {κ : Nat} (hκ : κ ≤ 6) (ran num v : Int32) (b : Nat → Int32) (x : Int32) : fX0_lands (tK (nI κ)) ran num v b x = fX12_caughtLands ran (nI κ) num v b x := by
  unfold fX0_lands fX12_caughtLands
  show Option.bind (fX12_ranBody ran b 21) _ = _
  congr 1
  funext r1
  rw [plands_eq hκ]
theorem lands_eq : ∀ (κ : Nat), κ ≤ 6 → ∀ (ran num v : Int32) (b : Nat → Int32) (x : Int32), fV_lands (tK (nI κ)) ran num v b x = fX12_landsActs ran (nI κ) num v b x
  | 0, hk, ran, num, v, b, x => by
    have e := plands_eq hk ran num v b x
    unfold fX12_landsActs
    rw [if_neg (by decide), if_neg (by decide), ob_eta, ← e, show tK (nI 0) = 7 from by decide]
    rfl
  | 1, hk, ran, num, v, b, x => by
    have e := plands_eq hk ran num v b x
    unfold fX12_landsActs
    rw [if_neg (by decide), if_neg (by decide), ob_eta, ← e, show tK (nI 1) = 9 from by decide]
    rfl
  | 2, hk, ran, num, v, b, x => by
    have e := plands_eq hk ran num v b x
    unfold fX12_landsActs
    rw [if_neg (by decide), if_neg (by decide), ob_eta, ← e, show tK (nI 2) = 10 from by decide]
    rfl
  | 3, hk, ran, num, v, b, x => by
    have e := clands_eq hk ran num v b x
    unfold fX12_landsActs
    rw [if_neg (by decide), if_pos (by decide), ob_eta, ← e, show tK (nI 3) = 0 from by decide]
    rfl
  | 4, hk, ran, num, v, b, x => by
    unfold fX12_landsActs
    rw [if_pos (by decide), show tK (nI 4) = 1 from by decide]
    show fX1_lands ran num v b x = _
    unfold fX1_lands
    show Option.bind (fX12_ranBody ran b 61) _ = _
    congr 1
    funext r1
    have e := clands_eq hk r1.1 num v r1.2 x
    rw [show tK (nI 4) = 1 from by decide] at e
    rw [e]
  | 5, hk, ran, num, v, b, x => by
    have e := plands_eq hk ran num v b x
    unfold fX12_landsActs
    rw [if_neg (by decide), if_neg (by decide), ob_eta, ← e, show tK (nI 5) = 5 from by decide]
    rfl
  | 6, hk, ran, num, v, b, x => by
    have e := plands_eq hk ran num v b x
    unfold fX12_landsActs
    rw [if_neg (by decide), if_neg (by decide), ob_eta, ← e, show tK (nI 6) = 4 from by decide]
    rfl
  | n + 7, h, _, _, _, _, _ => absurd h (by omega)
theorem pleans_eq {κ : Nat} (hκ : κ ≤ 6) (ran num v : Int32) (b : Nat → Int32) (x : Int32) : fX7_leans (tK (nI κ)) ran num v b x = fX12_plainLeans ran (nI κ) num v b x := by
  unfold fX7_leans fX12_plainLeans
  show Option.bind (fX12_ranBody ran b 3) _ = _
  congr 1
  funext r1
  rw [lands_eq κ hκ]
theorem wleans_eq {κ : Nat} (hκ : κ ≤ 6) (ran num v : Int32) (b : Nat → Int32) (x : Int32) : fX10_leans (tK (nI κ)) ran num v b x = Option.bind (fX12_ranBody ran b (41 : Int32)) (fun r7 => (Option.bind (fX12_plainLeans r7.1 (nI κ) num v r7.2 (x - 1)) (fun r9 => (Option.bind (fX12_turnsActs r9.2.1 (nI κ) num r9.2.2 (2 : Int32)) (fun r11 => some ((r9.1 + r11.1), r11.2.1, r11.2.2)))))) := by
  unfold fX10_leans
  show Option.bind (fX12_ranBody ran b 41) _ = _
  congr 1
  funext r1
  rw [pleans_eq hκ]
  congr 1
  funext r3
  rw [turns_eq κ hκ]
theorem leans_eq : ∀ (κ : Nat), κ ≤ 6 → ∀ (ran num v : Int32) (b : Nat → Int32) (x : Int32), fV_leans (tK (nI κ)) ran num v b x = fX12_leansActs ran (nI κ) num v b x
  | 0, hk, ran, num, v, b, x => by
    have e := pleans_eq hk ran num v b x
    unfold fX12_leansActs
    rw [if_neg (by decide), show fX12_isUnder (nI 0) 2 = some 0 from by decide, ob, if_pos rfl, ob_eta, ← e, show tK (nI 0) = 7 from by decide]
    rfl
  | 1, hk, ran, num, v, b, x => by
    have e := pleans_eq hk ran num v b x
    unfold fX12_leansActs
    rw [if_neg (by decide), show fX12_isUnder (nI 1) 2 = some 0 from by decide, ob, if_pos rfl, ob_eta, ← e, show tK (nI 1) = 9 from by decide]
    rfl
  | 2, hk, ran, num, v, b, x => by
    have e := wleans_eq hk ran num v b x
    unfold fX12_leansActs
    rw [if_neg (by decide), show fX12_isUnder (nI 2) 2 = some 1 from by decide, ob, if_neg (by decide), ← e, show tK (nI 2) = 10 from by decide]
    rfl
  | 3, hk, ran, num, v, b, x => by
    have e := pleans_eq hk ran num v b x
    unfold fX12_leansActs
    rw [if_neg (by decide), show fX12_isUnder (nI 3) 2 = some 0 from by decide, ob, if_pos rfl, ob_eta, ← e, show tK (nI 3) = 0 from by decide]
    rfl
  | 4, hk, ran, num, v, b, x => by
    have e := pleans_eq hk ran num v b x
    unfold fX12_leansActs
    rw [if_neg (by decide), show fX12_isUnder (nI 4) 2 = some 0 from by decide, ob, if_pos rfl, ob_eta, ← e, show tK (nI 4) = 1 from by decide]
    rfl
  | 5, hk, ran, num, v, b, x => by
    unfold fX12_leansActs
    rw [if_pos (by decide), show tK (nI 5) = 5 from by decide]
    show fX5_leans ran num v b x = _
    unfold fX5_leans
    show Option.bind (fX12_ranBody ran b 31) _ = _
    congr 1
    funext r1
    have e := pleans_eq hk r1.1 num v r1.2 x
    rw [show tK (nI 5) = 5 from by decide] at e
    rw [e]
  | 6, hk, ran, num, v, b, x => by
    have e := wleans_eq hk ran num v b x
    unfold fX12_leansActs
    rw [if_neg (by decide), show fX12_isUnder (nI 6) 2 = some 1 from by decide, ob, if_neg (by decide), ← e, show tK (nI 6) = 4 from by decide]
    rfl
  | n + 7, h, _, _, _, _, _ => absurd h (by omega)
/-! how many bodies run -/
def adds_ (d : Nat) (r : Nat) (o : Option (Int32 × Int32 × (Nat → Int32))) : Prop := ∃ (z : Int32) (n : Nat) (b : Nat → Int32), n ≤ r + d ∧ o = some (z, nI n, b)
theorem body_some {r : Nat} (hr : r ≤ 900) (b : Nat → Int32) (k : Int32) : ∃ b' : Nat → Int32, fX12_ranBody (nI r) b k = some (nI (r + 1), b') := by
  unfold fX12_ranBody
  by_cases q : 20 ≤ r
  · exact ⟨b, by rw [if_pos (q_le (N := 20) q (by omega)), nI_1]⟩
  · exact ⟨upd b r k, by rw [if_neg (q_ge (N := 20) (by omega) (by decide)), if_neg (nI_in (c := r) (N := 20) (by omega) (by decide)), nI_clamp (by omega), nI_1]⟩
theorem pt_some {r : Nat} (hr : r ≤ 800) (num : Int32) (b : Nat → Int32) (x : Int32) : adds_ 1 r (fX12_plainTurns (nI r) num b x) := by
  obtain ⟨b', e⟩ := body_some (r := r) (by omega) b 1
  exact ⟨_, r + 1, b', by omega, by unfold fX12_plainTurns; rw [e, ob]⟩
theorem tt_some {r : Nat} (hr : r ≤ 700) (num : Int32) (b : Nat → Int32) (x : Int32) : adds_ 2 r (fX12_turningTurns (nI r) num b x) := by
  obtain ⟨b', e⟩ := body_some (r := r) (by omega) b 11
  obtain ⟨z, n, b2, hn, e2⟩ := pt_some (r := r + 1) (by omega) num b' (x * 3)
  exact ⟨_, n, b2, by omega, by unfold fX12_turningTurns; rw [e, ob]; show Option.bind (fX12_plainTurns (nI (r + 1)) num b' (x * 3)) _ = _; rw [e2, ob]⟩
theorem un_some : ∀ (κ : Fin 7), (fX12_isUnder (nI κ.val) 1 = some 0 ∨ fX12_isUnder (nI κ.val) 1 = some 1) ∧ (fX12_isUnder (nI κ.val) 2 = some 0 ∨ fX12_isUnder (nI κ.val) 2 = some 1) := by decide +kernel
theorem ta_some {κ : Nat} (hκ : κ ≤ 6) {r : Nat} (hr : r ≤ 600) (num : Int32) (b : Nat → Int32) (x : Int32) : adds_ 3 r (fX12_turnsActs (nI r) (nI κ) num b x) := by
  unfold fX12_turnsActs
  by_cases q : nI κ = 6
  · obtain ⟨b', e⟩ := body_some (r := r) (by omega) b 51
    obtain ⟨z, n, b2, hn, e2⟩ := tt_some (r := r + 1) (by omega) num b' x
    exact ⟨_, n, b2, by omega, by rw [if_pos q, e, ob]; show Option.bind (fX12_turningTurns (nI (r + 1)) num b' x) _ = _; rw [e2, ob]⟩
  · have u : fX12_isUnder (nI κ) 1 = some 0 ∨ fX12_isUnder (nI κ) 1 = some 1 := (un_some ⟨κ, by omega⟩).1
    rw [if_neg q]
    rcases u with u | u
    · obtain ⟨z, n, b2, hn, e2⟩ := pt_some (r := r) (by omega) num b x
      exact ⟨_, n, b2, by omega, by rw [u, ob, if_pos rfl, e2, ob]⟩
    · obtain ⟨z, n, b2, hn, e2⟩ := tt_some (r := r) (by omega) num b x
      exact ⟨_, n, b2, by omega, by rw [u, ob, if_neg (by decide), e2, ob]⟩
theorem pl_some {κ : Nat} (hκ : κ ≤ 6) {r : Nat} (hr : r ≤ 500) (num v : Int32) (b : Nat → Int32) (x : Int32) : adds_ 4 r (fX12_plainLands (nI r) (nI κ) num v b x) := by
  obtain ⟨b', e⟩ := body_some (r := r) (by omega) b 2
  obtain ⟨z, n, b2, hn, e2⟩ := ta_some hκ (r := r + 1) (by omega) num b' x
  exact ⟨_, n, b2, by omega, by unfold fX12_plainLands; rw [e, ob]; show Option.bind (fX12_turnsActs (nI (r + 1)) (nI κ) num b' x) _ = _; rw [e2, ob]⟩
theorem cl_some {κ : Nat} (hκ : κ ≤ 6) {r : Nat} (hr : r ≤ 400) (num v : Int32) (b : Nat → Int32) (x : Int32) : adds_ 5 r (fX12_caughtLands (nI r) (nI κ) num v b x) := by
  obtain ⟨b', e⟩ := body_some (r := r) (by omega) b 21
  obtain ⟨z, n, b2, hn, e2⟩ := pl_some hκ (r := r + 1) (by omega) num v b' x
  exact ⟨_, n, b2, by omega, by unfold fX12_caughtLands; rw [e, ob]; show Option.bind (fX12_plainLands (nI (r + 1)) (nI κ) num v b' x) _ = _; rw [e2, ob]⟩
theorem la_some {κ : Nat} (hκ : κ ≤ 6) {r : Nat} (hr : r ≤ 300) (num v : Int32) (b : Nat → Int32) (x : Int32) : adds_ 6 r (fX12_landsActs (nI r) (nI κ) num v b x) := by
  unfold fX12_landsActs
  by_cases q : nI κ = 4
  · obtain ⟨b', e⟩ := body_some (r := r) (by omega) b 61
    obtain ⟨z, n, b2, hn, e2⟩ := cl_some hκ (r := r + 1) (by omega) num v b' x
    exact ⟨_, n, b2, by omega, by rw [if_pos q, e, ob]; show Option.bind (fX12_caughtLands (nI (r + 1)) (nI κ) num v b' x) _ = _; rw [e2, ob]⟩
  · rw [if_neg q]
    by_cases q3 : nI κ = 3
    · obtain ⟨z, n, b2, hn, e2⟩ := cl_some hκ (r := r) (by omega) num v b x
      exact ⟨_, n, b2, by omega, by rw [if_pos q3, e2, ob]⟩
    · obtain ⟨z, n, b2, hn, e2⟩ := pl_some hκ (r := r) (by omega) num v b x
      exact ⟨_, n, b2, by omega, by rw [if_neg q3, e2, ob]⟩
theorem pe_some {κ : Nat} (hκ : κ ≤ 6) {r : Nat} (hr : r ≤ 200) (num v : Int32) (b : Nat → Int32) (x : Int32) : adds_ 7 r (fX12_plainLeans (nI r) (nI κ) num v b x) := by
  obtain ⟨b', e⟩ := body_some (r := r) (by omega) b 3
  obtain ⟨z, n, b2, hn, e2⟩ := la_some hκ (r := r + 1) (by omega) num v b' x
  exact ⟨_, n, b2, by omega, by unfold fX12_plainLeans; rw [e, ob]; show Option.bind (fX12_landsActs (nI (r + 1)) (nI κ) num v b' x) _ = _; rw [e2, ob]⟩
theorem le_some {κ : Nat} (hκ : κ ≤ 6) {r : Nat} (hr : r ≤ 100) (num v : Int32) (b : Nat → Int32) (x : Int32) : adds_ 11 r (fX12_leansActs (nI r) (nI κ) num v b x) := by
  unfold fX12_leansActs
  by_cases q : nI κ = 5
  · obtain ⟨b', e⟩ := body_some (r := r) (by omega) b 31
    obtain ⟨z, n, b2, hn, e2⟩ := pe_some hκ (r := r + 1) (by omega) num v b' x
    exact ⟨_, n, b2, by omega, by rw [if_pos q, e, ob]; show Option.bind (fX12_plainLeans (nI (r + 1)) (nI κ) num v b' x) _ = _; rw [e2, ob]⟩
  · have u : fX12_isUnder (nI κ) 2 = some 0 ∨ fX12_isUnder (nI κ) 2 = some 1 := (un_some ⟨κ, by omega⟩).2
    rw [if_neg q]
    rcases u with u | u
    · obtain ⟨z, n, b2, hn, e2⟩ := pe_some hκ (r := r) (by omega) num v b x
      exact ⟨_, n, b2, by omega, by rw [u, ob, if_pos rfl, e2, ob]⟩
    · obtain ⟨b', e⟩ := body_some (r := r) (by omega) b 41
      obtain ⟨z, n, b2, hn, e2⟩ := pe_some hκ (r := r + 1) (by omega) num v b' (x - 1)
      obtain ⟨z3, n3, b3, hn3, e3⟩ := ta_some hκ (r := n) (by omega) num b2 2
      refine ⟨z + z3, n3, b3, by omega, ?_⟩
      rw [u, ob, if_neg (by decide), e, ob]
      show Option.bind (fX12_plainLeans (nI (r + 1)) (nI κ) num v b' (x - 1)) _ = _
      rw [e2, ob]
      show Option.bind (fX12_turnsActs (nI n) (nI κ) num b2 2) _ = _
      rw [e3, ob]
theorem p_act_n (h : SS Ls nc nh nl nb ns al be ed lw ri sd ta th wa f) {l1 : Int32} (h1 : wI l1 0 (nI nl - 1) = 0) (l2 l3 : Int32) (ra x1 x2 x3 : Int32) (bo : Nat → Int32) : fX11_act_n ra (nI nl) lw l1 l2 l3 = some (0, 0) ∧ fX12_act ra x1 x2 x3 bo f l1 l2 l3 = some (0, 0, x1, x2, x3, bo) := by
  have e2 := h.1.2.2.2.2.2.2.2.1
  exact ⟨rfl, by simp only [fX12_act, i12_law, ob, e2, h1, if_true]⟩
theorem p_act_s (h : SS Ls nc nh nl nb ns al be ed lw ri sd ta th wa f) {r : LR} {k : Nat} (hk : k < nl) (hk8 : k < 8) (hr : lawR r f k) (h1 : ¬ wI (nI k) 0 (nI nl - 1) = 0) (l2 l3 : Int32) (ra x1 x2 x3 : Int32) (bo : Nat → Int32) :
    ∃ (z : Int32) (n : Nat) (bo' : Nat → Int32) (y1 y2 y3 : Int32), n ≤ 100 ∧ fX11_act_s r.1 r.2.2.2.1 r.2.2.2.2.1 ra (nI nl) bo lw (nI k) l2 l3 = some (z, nI n, bo') ∧ fX12_act ra x1 x2 x3 bo f (nI k) l2 l3 = some (z, nI n, y1, y2, y3, bo') := by
  have e2 := h.1.2.2.2.2.2.2.2.1
  obtain ⟨κ, vv, cc, hκ, hvv, hcc, e226, e234, e242, er1, er2, er3, er4, er5⟩ := hr.1
  have i226 := ix_ (K := 226) (n := k) (N := 1394) (by omega) (by decide)
  have k226 := cl_ (K := 226) (n := k) (by omega)
  have i234 := ix_ (K := 234) (n := k) (N := 1394) (by omega) (by decide)
  have k234 := cl_ (K := 234) (n := k) (by omega)
  unfold fX12_act fX11_act_s
  rw [i12_law, ob, e2, if_neg h1, wI_in, ob, er1, er3, er4, if_neg i226, k226, e226, if_neg i234, k234, e234]
  by_cases q : wI l2 0 2 = 0
  · have n0 : ¬ l2 = 0 := fun e => by rw [e] at q; exact absurd q (by decide)
    have n1 : ¬ l2 = 1 := fun e => by rw [e] at q; exact absurd q (by decide)
    have n2 : ¬ l2 = 2 := fun e => by rw [e] at q; exact absurd q (by decide)
    exact ⟨0, 0, bo, x1, x2, x3, by omega, by rw [if_neg n0, if_neg n1, if_neg n2]; rfl, by rw [if_pos q]; rfl⟩
  · have q' := q
    obtain ⟨j, -, hj, rfl⟩ := wI_ge (a := 0) (b := 2) (by decide) (by decide) q
    rw [if_neg q']
    rcases (show j = 0 ∨ j = 1 ∨ j = 2 by omega) with rfl | rfl | rfl
    · obtain ⟨z, n, b, hn, e⟩ := ta_some hκ (r := 0) (by omega) (nI k) bo l3
      have e' : fX12_turnsActs 0 (nI κ) (nI k) bo l3 = some (z, nI n, b) := e
      refine ⟨z, n, b, nI κ, nI k, nI vv, by omega, ?_, ?_⟩
      · rw [if_pos (show nI 0 = 0 from rfl), turns_eq κ hκ, e', ob]
      · rw [if_pos (show nI 0 = 0 from rfl), e', ob]
    · obtain ⟨z, n, b, hn, e⟩ := la_some hκ (r := 0) (by omega) (nI k) (nI vv) bo l3
      have e' : fX12_landsActs 0 (nI κ) (nI k) (nI vv) bo l3 = some (z, nI n, b) := e
      refine ⟨z, n, b, nI κ, nI k, nI vv, by omega, ?_, ?_⟩
      · rw [if_neg (show ¬ nI 1 = 0 from by decide), if_pos (show nI 1 = 1 from rfl), lands_eq κ hκ, e', ob]
      · rw [if_neg (show ¬ nI 1 = 0 from by decide), if_pos (show nI 1 = 1 from rfl), e', ob]
    · obtain ⟨z, n, b, hn, e⟩ := le_some hκ (r := 0) (by omega) (nI k) (nI vv) bo l3
      have e' : fX12_leansActs 0 (nI κ) (nI k) (nI vv) bo l3 = some (z, nI n, b) := e
      refine ⟨z, n, b, nI κ, nI k, nI vv, by omega, ?_, ?_⟩
      · rw [if_neg (show ¬ nI 2 = 0 from by decide), if_neg (show ¬ nI 2 = 1 from by decide), if_pos (show nI 2 = 2 from rfl), leans_eq κ hκ, e', ob]
      · rw [if_neg (show ¬ nI 2 = 0 from by decide), if_neg (show ¬ nI 2 = 1 from by decide), e', ob]
end AC
