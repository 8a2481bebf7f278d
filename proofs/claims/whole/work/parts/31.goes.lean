/-! which side is up; a whole THROW; all that a HAND may make -/
section GS
variable {f : Nat → Int32} {xe xl xa : Int32}
theorem sba (a t l : Int32) : fX7_sideByAngle a t l = some (if t ≤ a then 1 - l else l) := by
  unfold fX7_sideByAngle
  by_cases q : t ≤ a
  · rw [if_pos q, if_pos q]
  · rw [if_neg q, if_neg q]
theorem flip_ {y : Nat} (hy : y < 2) : 1 - nI y = nI (1 - y) := by
  rcases (show y = 0 ∨ y = 1 by omega) with rfl | rfl
  · rfl
  · rfl
theorem side_m {K : Nat} (hK : K < 8) (l2 lay e : Int32) : fX12_sideAt xl xa f (nI K) l2 lay e = fX12_sideAt_b51 xl xa f (nI K) l2 lay e (f (234 + K)) (if 50 ≤ xa then 1 - lay else lay) (if 50 + xl ≤ xa then 1 - lay else lay) := by
  unfold fX12_sideAt
  rw [if_neg (ix_ (K := 234) (n := K) (N := 1394) (by omega) (by decide)), cl_ (K := 234) (n := K) (by omega)]
  unfold fX12_sideAt_b28
  by_cases q : 50 ≤ xa
  · by_cases q2 : 50 + xl ≤ xa
    · simp only [q, q2, if_true]
    · simp only [q, q2, if_true, if_false]
  · by_cases q2 : 50 + xl ≤ xa
    · simp only [q, q2, if_true, if_false]
    · simp only [q, q2, if_false]
def fallC (v b t : Int32) : Option Int32 := Option.bind (if v - v / 2 * 2 = 1 then some (1 - t) else some t) (fun r => if v = 0 then some r else (if v = 0 then none else (if (b / v) - (b / v) / 2 * 2 = 1 then some (1 - r) else some r)))
def fallM (v b t : Int32) : Option Int32 := if v = 0 then (if ((v - v / 2 * 2) + 0) - ((v - v / 2 * 2) + 0) / 2 * 2 = 1 then some (1 - t) else some t) else (if v = 0 then none else (if ((v - v / 2 * 2) + b / v) - ((v - v / 2 * 2) + b / v) / 2 * 2 = 1 then some (1 - t) else some t))
def fallZ (v b t : Nat) : Nat := (t + v % 2 + (if v = 0 then 0 else b / v)) % 2
theorem fall_eq : ∀ (v b : Fin 10) (t : Fin 2), fallC (nI v.val) (nI b.val) (nI t.val) = some (nI (fallZ v.val b.val t.val)) ∧ fallM (nI v.val) (nI b.val) (nI t.val) = some (nI (fallZ v.val b.val t.val)) := by decide +kernel
theorem fall_lt (v b t : Nat) : fallZ v b t < 2 := by unfold fallZ; omega
/-- the side up: the class's and the reference's -/
theorem side_eq {K κ v b c y : Nat} (hK : K < 8) (hκ : κ ≤ 6) (e226 : f (226 + K) = nI κ) (e234 : f (234 + K) = nI v) (hv : v ≤ 9) (hc : c < 6) (e130 : f (130 + c) = xe) (e136 : f (136 + c) = nI b) (hb : b ≤ 9) (hy : y < 2) (last tick : Int32) :
    ∃ z : Nat, z < 2 ∧ fV_sideUp (tK (nI κ)) xe (nI b) last tick xa xl (nI v) (nI y) = some (nI z) ∧ fX12_sideAt xl xa f (nI K) (nI c) (nI y) (if tick = last then 1 else 0) = some (nI z) := by
  have i226 := ix_ (K := 226) (n := K) (N := 1394) (by omega) (by decide)
  have k226 := cl_ (K := 226) (n := K) (by omega)
  have i136 := ix_ (K := 136) (n := c) (N := 1394) (by omega) (by decide)
  have k136 := cl_ (K := 136) (n := c) (by omega)
  have i130 := ix_ (K := 130) (n := c) (N := 1394) (by omega) (by decide)
  have k130 := cl_ (K := 130) (n := c) (by omega)
  obtain ⟨t, ht, et⟩ : ∃ t : Nat, t < 2 ∧ (if 50 ≤ xa then 1 - nI y else nI y) = nI t := by
    by_cases q : 50 ≤ xa
    · exact ⟨1 - y, by omega, by rw [if_pos q, flip_ hy]⟩
    · exact ⟨y, hy, by rw [if_neg q]⟩
  obtain ⟨w, hw, ew⟩ : ∃ t : Nat, t < 2 ∧ (if 50 + xl ≤ xa then 1 - nI y else nI y) = nI t := by
    by_cases q : 50 + xl ≤ xa
    · exact ⟨1 - y, by omega, by rw [if_pos q, flip_ hy]⟩
    · exact ⟨y, hy, by rw [if_neg q]⟩
  rw [side_m hK, et, ew, e234]
  unfold fX12_sideAt_b51
  rw [if_neg i226, k226, e226]
  match κ, hκ with
  | 0, _ =>
    rw [show tK (nI 0) = 7 from by decide]
    refine ⟨y, hy, rfl, ?_⟩
    rw [if_neg (by decide), if_neg (by decide), if_neg (by decide), if_neg (by decide), if_neg (by decide), if_neg (by decide)]
  | 1, _ =>
    rw [show tK (nI 1) = 9 from by decide]
    refine ⟨t, ht, ?_, ?_⟩
    · show fX9_sideUp 9 xa (nI y) = _
      unfold fX9_sideUp
      rw [sba, et, ob]
    · rw [if_pos (by decide)]
  | 2, _ =>
    rw [show tK (nI 2) = 10 from by decide]
    refine ⟨w, hw, ?_, ?_⟩
    · show fX10_sideUp 10 xa xl (nI y) = _
      unfold fX10_sideUp
      rw [sba, ew, ob]
    · rw [if_neg (by decide), if_pos (by decide)]
  | 3, _ =>
    rw [show tK (nI 3) = 0 from by decide]
    by_cases q : tick = last
    · by_cases q2 : nI v - nI v / 2 * 2 = 1
      · refine ⟨1 - t, by omega, ?_, ?_⟩
        · show fX0_sideUp 0 last tick xa (nI v) (nI y) = _
          unfold fX0_sideUp fX2_isAtEnd
          rw [sba, et, ob, if_pos q, ob, if_neg (by decide), if_pos q2, flip_ ht]
        · rw [if_neg (by decide), if_neg (by decide), if_pos (by decide), if_pos q, if_neg (by decide), if_pos q2, flip_ ht]
      · refine ⟨t, ht, ?_, ?_⟩
        · show fX0_sideUp 0 last tick xa (nI v) (nI y) = _
          unfold fX0_sideUp fX2_isAtEnd
          rw [sba, et, ob, if_pos q, ob, if_neg (by decide), if_neg q2]
        · rw [if_neg (by decide), if_neg (by decide), if_pos (by decide), if_pos q, if_neg (by decide), if_neg q2]
    · refine ⟨t, ht, ?_, ?_⟩
      · show fX0_sideUp 0 last tick xa (nI v) (nI y) = _
        unfold fX0_sideUp fX2_isAtEnd
        rw [sba, et, ob, if_neg q, ob, if_pos rfl]
      · rw [if_neg (by decide), if_neg (by decide), if_pos (by decide), if_neg q, if_pos rfl]
  | 4, _ =>
    rw [show tK (nI 4) = 1 from by decide]
    by_cases q : tick = last
    · obtain ⟨z1, z2⟩ := fall_eq ⟨v, by omega⟩ ⟨b, by omega⟩ ⟨t, ht⟩
      refine ⟨fallZ v b t, fall_lt v b t, ?_, ?_⟩
      · show fX1_sideUp (nI b) last tick xa (nI v) (nI y) = _
        unfold fX1_sideUp fX0_sideUp fX2_isAtEnd
        rw [sba, et, ob, if_pos q, ob, if_neg (by decide)]
        refine Eq.trans ?_ z1
        unfold fallC
        congr 1
      · rw [if_neg (by decide), if_neg (by decide), if_neg (by decide), if_pos (by decide), if_pos q, if_neg (by decide), if_neg i136, k136, e136]
        exact z2
    · refine ⟨t, ht, ?_, ?_⟩
      · show fX1_sideUp (nI b) last tick xa (nI v) (nI y) = _
        unfold fX1_sideUp fX0_sideUp fX2_isAtEnd
        rw [sba, et, ob, if_neg q, ob, if_pos rfl, ob, ob, if_pos rfl]
      · rw [if_neg (by decide), if_neg (by decide), if_neg (by decide), if_pos (by decide), if_neg q, if_pos rfl]
        unfold fX12_sideAt_b181
        rw [if_neg (by decide)]
  | 5, _ =>
    rw [show tK (nI 5) = 5 from by decide]
    by_cases q : xe < nI v
    · refine ⟨1, by decide, ?_, ?_⟩
      · show fX5_sideUp xe (nI v) (nI y) = _
        unfold fX5_sideUp
        rw [if_pos q]; rfl
      · rw [if_neg (by decide), if_neg (by decide), if_neg (by decide), if_neg (by decide), if_pos (by decide), if_neg i130, k130, e130, if_pos q]; rfl
    · refine ⟨0, by decide, ?_, ?_⟩
      · show fX5_sideUp xe (nI v) (nI y) = _
        unfold fX5_sideUp
        rw [if_neg q]; rfl
      · rw [if_neg (by decide), if_neg (by decide), if_neg (by decide), if_neg (by decide), if_pos (by decide), if_neg i130, k130, e130, if_neg q]; rfl
  | 6, _ =>
    rw [show tK (nI 6) = 4 from by decide]
    by_cases q : xl < nI v
    · refine ⟨w, hw, ?_, ?_⟩
      · show fX4_sideUp xa xl (nI v) (nI y) = _
        unfold fX4_sideUp fX10_sideUp
        rw [if_pos q, sba, ew, ob, ob]
      · rw [if_neg (by decide), if_neg (by decide), if_neg (by decide), if_neg (by decide), if_neg (by decide), if_pos (by decide), if_pos q]
    · refine ⟨y, hy, ?_, ?_⟩
      · show fX4_sideUp xa xl (nI v) (nI y) = _
        unfold fX4_sideUp
        rw [if_neg q]
      · rw [if_neg (by decide), if_neg (by decide), if_neg (by decide), if_neg (by decide), if_neg (by decide), if_pos (by decide), if_neg q]
  | n + 7, h => exact absurd h (by omega)
/-- the class's two loops over the TICKS, and the reference's -/
theorem goes_L {r : LR} {K c y b N : Nat} {xh xr last : Int32} (hK : K < 8) (hr : lawR r f K) (hc : c < 6) (e130 : f (130 + c) = xe) (e136 : f (136 + c) = nI b) (hb : b ≤ 9) (hy : y < 2) (hN : N ≤ 200) (k26 : Int32 → Int32 → Int32 → Option (Int32 × Int32 × Int32 × Int32)) (k117 : Int32 → Int32 → Int32 → Int32 → Option (Int32 × Int32 × Int32 × Int32 × Int32 × Int32 × Int32 × Int32 × Int32)) (q1 q2 q3 q4 : Int32) (g1 g2 : Nat → Int32) (g3 : Nat → Option Nat) (q5 : Int32) :
    ∀ (m i u v w a : Nat) (xl x1 x2 x3 as : Int32) (fb tr : Nat → Int32), i + (m + 1) = N → m + 1 < u → m + 1 < v → m + 1 < w → a < 100 → fb 0 = xr → fb 1 = xe → fb 2 = nI b → fb 3 = xh →
    ∃ (a' L' z : Nat) (T' as' : Int32) (fb' tr' : Nat → Int32), a' < 100 ∧ z < 2 ∧
      fX11_sideAt_L3 k26 r.2.2.2.2.2.2.2.1 r.1 r.2.2.2.2.1 xh xe (nI b) xr last r.2.2.2.2.2.2.2.2 (nI N) (nI y) u (nI i) (nI a) xl (nI i) = k26 (nI N) (nI a') (nI L') ∧
      (y = 1 → last = nI N → fX11_toss_s_L70 k117 r.2.2.2.2.2.2.2.1 r.1 r.2.2.2.2.1 q4 xh xe (nI b) xr last q1 q2 q3 r.2.2.2.2.2.2.2.2 g1 g2 g3 q5 w (nI i) (nI a) xl as (nI (i + 1)) = k117 (nI N) (nI a') (nI L') as') ∧
      fX12_goes_L93 last f (nI K) (nI c) (nI y) (nI N) v x1 x2 x3 (nI a) as fb tr (nI (i + 1)) = some (T', nI L', nI z, nI a', as', last, fb', tr') ∧
      fV_sideUp r.1 xe (nI b) last (nI N) (nI a') (nI L') r.2.2.2.2.1 (nI y) = some (nI z) := by
  obtain ⟨κ, vv, cc, hκ, hvv, hcc, e226, e234, e242, er1, er2, er3, er4, er5⟩ := hr.1
  intro m
  induction m with
  | zero =>
    intro i u v w a xl x1 x2 x3 as fb tr hi hu hv hw ha b0 b1 b2 b3
    obtain ⟨u, rfl⟩ : ∃ q, u = q + 1 + 1 := ⟨u - 2, by omega⟩
    obtain ⟨v, rfl⟩ : ∃ q, v = q + 1 + 1 := ⟨v - 2, by omega⟩
    obtain ⟨w, rfl⟩ : ∃ q, w = q + 1 + 1 := ⟨w - 2, by omega⟩
    have hby : byR (upd fb 4 (nI (i + 1))) xh xe (nI b) xr (nI i + 1) := ⟨by rw [pk_un (by decide)]; exact b0, by rw [pk_un (by decide)]; exact b1, by rw [pk_un (by decide)]; exact b2, by rw [pk_un (by decide)]; exact b3, by rw [pk_us, nI_1]⟩
    obtain ⟨a', L', T', tr', ha', hL', h1, h2, h3⟩ := tick_eq (xl := xl) hK hr hby ha x1 x2 tr
    rw [nI_1] at h1
    have hN1 : i + 1 = N := by omega
    obtain ⟨z, hz, s1, s2⟩ := side_eq (xa := nI a') (xl := nI L') hK hκ e226 e234 hvv hc e130 e136 hb hy last (nI N)
    rw [← er1, ← er4] at s1
    rw [hN1] at h1 hby h2 ⊢
    have hlt : nI N < nI (N + 1) := nI_lt (by omega) (by omega)
    have e3 : ∀ q : Int32, fX12_goes_b149 (fX12_goes_L93 last f (nI K) (nI c) (nI y) (nI N) (v + 1)) T' (nI L') x3 (nI a') as last (upd fb 4 (nI N)) f tr' (nI K) (nI c) (nI y) (nI N) (nI N) (nI K) (nI c) (nI y) (if nI N = last then 1 else 0) = some (T', nI L', nI z, nI a', (if nI z = nI y then as + 1 else as), last, upd fb 4 (nI N), tr') := by
      intro q
      unfold fX12_goes_b149
      rw [s2, ob]
      by_cases qz : nI z = nI y
      · rw [if_pos qz, if_pos qz, nI_1, fX12_goes_L93, if_pos hlt]
      · rw [if_neg qz, if_neg qz, nI_1, fX12_goes_L93, if_pos hlt, Int32.add_zero]
    refine ⟨a', L', z, T', (if nI z = nI y then as + 1 else as), upd fb 4 (nI N), tr', ha', hz, ?_, ?_, ?_, s1⟩
    · rw [fX11_sideAt_L3, if_neg (nI_ge (by omega) (by omega)), h1, ob, nI_1, hN1, fX11_sideAt_L3, if_pos (nI_le (Nat.le_refl _) (by omega))]
    · intro hy1 hl
      subst hy1
      have s1' : fV_sideUp r.1 xe (nI b) last (nI N) (nI a') (nI L') r.2.2.2.2.1 1 = some (nI z) := s1
      rw [hl] at s1' ⊢
      rw [fX11_toss_s_L70, if_neg (nI_nlt (Nat.le_refl _) (by omega)), h1, ob, s1', ob]
      by_cases qz : nI z = 1
      · rw [if_pos qz, nI_1, fX11_toss_s_L70, if_pos hlt]
        show _ = k117 _ _ _ (if nI z = 1 then as + 1 else as)
        rw [if_pos qz]
      · rw [if_neg qz, nI_1, fX11_toss_s_L70, if_pos hlt]
        show _ = k117 _ _ _ (if nI z = 1 then as + 1 else as)
        rw [if_neg qz]
    · rw [fX12_goes_L93, if_neg (nI_nlt (Nat.le_refl _) (by omega)), h2, ob]
      have e4 := e3 0
      by_cases ql : nI N = last
      · rw [if_pos ql] at e4
        rw [if_pos ql]
        show fX12_goes_b149 _ T' (nI L') x3 ((nI a + T') - (nI a + T') / 100 * 100) as last _ f tr' _ _ _ _ _ _ _ _ _ = _
        rw [h3]
        exact e4
      · rw [if_neg ql] at e4
        rw [if_neg ql]
        show fX12_goes_b149 _ T' (nI L') x3 ((nI a + T') - (nI a + T') / 100 * 100) as last _ f tr' _ _ _ _ _ _ _ _ _ = _
        rw [h3]
        exact e4
  | succ m ih =>
    intro i u v w a xl x1 x2 x3 as fb tr hi hu hv hw ha b0 b1 b2 b3
    obtain ⟨u, rfl⟩ : ∃ q, u = q + 1 := ⟨u - 1, by omega⟩
    obtain ⟨v, rfl⟩ : ∃ q, v = q + 1 := ⟨v - 1, by omega⟩
    obtain ⟨w, rfl⟩ : ∃ q, w = q + 1 := ⟨w - 1, by omega⟩
    have hby : byR (upd fb 4 (nI (i + 1))) xh xe (nI b) xr (nI i + 1) := ⟨by rw [pk_un (by decide)]; exact b0, by rw [pk_un (by decide)]; exact b1, by rw [pk_un (by decide)]; exact b2, by rw [pk_un (by decide)]; exact b3, by rw [pk_us, nI_1]⟩
    obtain ⟨a1, L1, T1, tr1, ha1, hL1, h1, h2, h3⟩ := tick_eq (xl := xl) hK hr hby ha x1 x2 tr
    rw [nI_1] at h1
    obtain ⟨z1, hz1, s1, s2⟩ := side_eq (xa := nI a1) (xl := nI L1) hK hκ e226 e234 hvv hc e130 e136 hb hy last (nI (i + 1))
    rw [← er1, ← er4] at s1
    obtain ⟨a', L', z, T', as', fb', tr', ha', hz, j1, j2, j3, j4⟩ := ih (i + 1) u v w a1 (nI L1) T1 (nI L1) (nI z1) (if nI z1 = nI y then as + 1 else as) (upd fb 4 (nI (i + 1))) tr1 (by omega) (by omega) (by omega) (by omega) ha1 hby.1 hby.2.1 hby.2.2.1 hby.2.2.2.1
    refine ⟨a', L', z, T', as', fb', tr', ha', hz, ?_, ?_, ?_, j4⟩
    · rw [fX11_sideAt_L3, if_neg (nI_ge (by omega) (by omega)), h1, ob, nI_1]
      exact j1
    · intro hy1 hl
      have j2' := j2 hy1 hl
      subst hy1
      have s1' : fV_sideUp r.1 xe (nI b) last (nI (i + 1)) (nI a1) (nI L1) r.2.2.2.2.1 1 = some (nI z1) := s1
      have hlt : ¬ last < nI (i + 1) := by rw [hl]; exact nI_nlt (by omega) (by omega)
      rw [fX11_toss_s_L70, if_neg hlt, h1, ob, s1', ob]
      by_cases qz : nI z1 = 1
      · rw [if_pos qz, nI_1]
        have e5 : (if nI z1 = nI 1 then as + 1 else as) = as + 1 := if_pos qz
        rw [e5] at j2'
        exact j2'
      · rw [if_neg qz, nI_1]
        have e5 : (if nI z1 = nI 1 then as + 1 else as) = as := if_neg qz
        rw [e5] at j2'
        exact j2'
    · have e3 : fX12_goes_b149 (fX12_goes_L93 last f (nI K) (nI c) (nI y) (nI N) v) T1 (nI L1) x3 (nI a1) as last (upd fb 4 (nI (i + 1))) f tr1 (nI K) (nI c) (nI y) (nI N) (nI (i + 1)) (nI K) (nI c) (nI y) (if nI (i + 1) = last then 1 else 0) = some (T', nI L', nI z, nI a', as', last, fb', tr') := by
        unfold fX12_goes_b149
        rw [s2, ob]
        by_cases qz : nI z1 = nI y
        · rw [if_pos qz, nI_1]
          rw [if_pos qz] at j3
          exact j3
        · rw [if_neg qz, nI_1, Int32.add_zero]
          rw [if_neg qz] at j3
          exact j3
      rw [fX12_goes_L93, if_neg (nI_nlt (by omega) (by omega)), h2, ob]
      by_cases ql : nI (i + 1) = last
      · rw [if_pos ql] at e3
        rw [if_pos ql]
        show fX12_goes_b149 _ T1 (nI L1) x3 ((nI a + T1) - (nI a + T1) / 100 * 100) as last _ f tr1 _ _ _ _ _ _ _ _ _ = _
        rw [h3]
        exact e3
      · rw [if_neg ql] at e3
        rw [if_neg ql]
        show fX12_goes_b149 _ T1 (nI L1) x3 ((nI a + T1) - (nI a + T1) / 100 * 100) as last _ f tr1 _ _ _ _ _ _ _ _ _ = _
        rw [h3]
        exact e3
end GS
