/-! what holds between the class's state and the reference's -/
theorem ob {α β : Type} (a : α) (f : α → Option β) : Option.bind (some a) f = f a := rfl
def wI (a b c : Int32) : Int32 := if a < b then 0 else if c < a then 0 else 1
theorem wI_in (a b c : Int32) : fX12_in a b c = some (wI a b c) := by
  unfold fX12_in wI
  by_cases h : a < b
  · rw [if_pos h, if_pos h]
  · rw [if_neg h, if_neg h]
    by_cases h2 : c < a
    · rw [if_pos h2, if_pos h2]
    · rw [if_neg h2, if_neg h2]
theorem wI_is (a b c : Int32) : fX11_isWithin a b c = some (wI a b c) := wI_in a b c
theorem wI_01 (a b c : Int32) : wI a b c = 0 ∨ wI a b c = 1 := by
  unfold wI
  by_cases h : a < b
  · exact Or.inl (if_pos h)
  · rw [if_neg h]
    by_cases h2 : c < a
    · exact Or.inl (if_pos h2)
    · exact Or.inr (if_neg h2)
theorem wI_no {a b c : Int32} (h : ¬ wI a b c = 0) : ¬ a < b ∧ ¬ c < a := by
  unfold wI at h
  by_cases h1 : a < b
  · exact absurd (if_pos h1) h
  · rw [if_neg h1] at h
    by_cases h2 : c < a
    · exact absurd (if_pos h2) h
    · exact ⟨h1, h2⟩
theorem wI_lt {x : Int32} {n : Nat} (hn : n < 2 ^ 30) (h : ¬ wI x 0 (nI n - 1) = 0) : ∃ j : Nat, j < n ∧ x = nI j := by
  obtain ⟨h1, h2⟩ := wI_no h
  obtain ⟨j, hj, rfl⟩ := nI_of h1
  refine ⟨j, ?_, rfl⟩
  rw [fa_lt, nI_toInt hj] at h2
  have e : (nI n - nI 1).toInt = (n : Int) - ((1 : Nat) : Int) := pk_sub_toInt hn (by decide)
  have e2 : (nI n - 1).toInt = (n : Int) - ((1 : Nat) : Int) := e
  rw [e2] at h2
  omega
theorem wI_ge {x : Int32} {a b : Nat} (ha : a < 2 ^ 31) (hb : b < 2 ^ 31) (h : ¬ wI x (nI a) (nI b) = 0) : ∃ j : Nat, a ≤ j ∧ j ≤ b ∧ x = nI j := by
  obtain ⟨h1, h2⟩ := wI_no h
  rw [fa_lt, nI_toInt ha] at h1
  have h0 : ¬ x < 0 := by
    rw [fa_lt]
    show ¬ x.toInt < 0
    omega
  obtain ⟨j, hj, rfl⟩ := nI_of h0
  rw [fa_lt, nI_toInt hj, nI_toInt hb] at h2
  rw [nI_toInt hj] at h1
  exact ⟨j, by omega, by omega, rfl⟩
theorem ix_ {K n N : Nat} (h : K + n < N) (hN : N < 2 ^ 31) : ¬ ((OfNat.ofNat K : Int32) + nI n < 0 ∨ N ≤ ((OfNat.ofNat K : Int32) + nI n).toNatClampNeg) := by
  have e : (OfNat.ofNat K : Int32) + nI n = nI (K + n) := nI_add K n
  rw [e]
  exact nI_in h hN
theorem cl_ {K n : Nat} (h : K + n < 2 ^ 31) : ((OfNat.ofNat K : Int32) + nI n).toNatClampNeg = K + n := by
  have e : (OfNat.ofNat K : Int32) + nI n = nI (K + n) := nI_add K n
  rw [e]
  exact nI_clamp h
theorem i12_hand (f : Nat → Int32) (x : Int32) : fX12_isHand f x = some (wI x 0 (f 1 - 1)) := by
  unfold fX12_isHand; rw [wI_in, ob]; exact if_neg (fun h => h (wI_01 _ _ _))
theorem i12_coin (f : Nat → Int32) (x : Int32) : fX12_isCoin f x = some (wI x 0 (f 0 - 1)) := by
  unfold fX12_isCoin; rw [wI_in, ob]; exact if_neg (fun h => h (wI_01 _ _ _))
theorem i12_law (f : Nat → Int32) (x : Int32) : fX12_isLaw f x = some (wI x 0 (f 2 - 1)) := by
  unfold fX12_isLaw; rw [wI_in, ob]; exact if_neg (fun h => h (wI_01 _ _ _))
theorem i11_hand (n x : Int32) : fX11_isHand n x = some (wI x 0 (n - 1)) := by
  unfold fX11_isHand; rw [wI_is, ob]; exact if_neg (fun h => h (wI_01 _ _ _))
theorem i11_coin (n x : Int32) : fX11_isCoin n x = some (wI x 0 (n - 1)) := by
  unfold fX11_isCoin; rw [wI_is, ob]; exact if_neg (fun h => h (wI_01 _ _ _))
theorem i11_percent (x : Int32) : fX11_isPercent x = some (wI x 0 100) := by
  unfold fX11_isPercent; rw [wI_is, ob]; exact if_neg (fun h => h (wI_01 _ _ _))
theorem i11_part (x : Int32) : fX11_isPart x = some (wI x 0 1) := by
  unfold fX11_isPart; rw [wI_is, ob]; exact if_neg (fun h => h (wI_01 _ _ _))
/-- a law made: class, object, kind, number, v, caught, its steps' address, how many, the steps -/
abbrev LR : Type := Nat × Nat × Int32 × Int32 × Int32 × Int32 × Nat × Nat × (Nat → Int32)
/-- one step, as the reference writes it (s) and as the class does (c); how many answers wait ahead of it (d) and behind it (e) -/
def stepR (s c : Int32) (d e : Nat) : Prop :=
  (∃ t g v : Nat, t < 5 ∧ g < 3 ∧ v < 100 ∧ s = nI (t + 8 * g + 32 * v) ∧ c = nI ((t * 3 + g) * 100 + v) ∧ e = d + 1)
  ∨ (s = -1 ∧ c = nI 1500 ∧ 1 ≤ d ∧ e = d)
  ∨ (s = -2 ∧ c = nI 1600 ∧ 2 ≤ d ∧ e + 1 = d)
  ∨ (s = -3 ∧ c = nI 1700 ∧ 2 ≤ d ∧ e + 1 = d)
  ∨ (∃ v : Nat, v < 100 ∧ s = -10 - nI v ∧ c = nI (1800 + v) ∧ d = 1 ∧ e = 0)
  ∨ (∃ v : Nat, v < 100 ∧ s = -200 - nI v ∧ c = nI (1900 + v) ∧ d = 1 ∧ e = 0)
  ∨ (s = -400 ∧ c = nI 2000 ∧ d = 1 ∧ e = 0)
def stepsR (n d : Nat) (sm sc : Nat → Int32) : Prop := ∃ dep : Nat → Nat, dep 0 = 0 ∧ dep n = d ∧ ∀ j, j < n → stepR (sm j) (sc j) (dep j) (dep (j + 1)) ∧ dep (j + 1) ≤ 30
/-- a law that was made is the reference's law k -/
def lawR (r : LR) (f : Nat → Int32) (k : Nat) : Prop :=
  (∃ κ v c : Nat, κ ≤ 6 ∧ v ≤ 9 ∧ c ≤ 99 ∧ f (226 + k) = nI κ ∧ f (234 + k) = nI v ∧ f (242 + k) = nI c ∧ r.1 = tK (nI κ) ∧ r.2.2.1 = nI κ ∧ r.2.2.2.1 = nI k ∧ r.2.2.2.2.1 = nI v ∧ r.2.2.2.2.2.1 = nI c)
  ∧ ∃ n d : Nat, n < 120 ∧ r.2.2.2.2.2.2.2.1 = n ∧ f (250 + k) = nI n ∧ stepsR n d (fun j => f (258 + 140 * k + j)) r.2.2.2.2.2.2.2.2
def agr (N o : Nat) (a f : Nat → Int32) : Prop := ∀ j, j < N → a j = f (o + j)
def SSnum (nc nh nl nb ns : Nat) (f : Nat → Int32) : Prop := nc ≤ 6 ∧ nh ≤ 6 ∧ nl ≤ 8 ∧ nb ≤ 120 ∧ ns ≤ 16 ∧ f 0 = nI nc ∧ f 1 = nI nh ∧ f 2 = nI nl ∧ f 4 = nI nb ∧ f 3 = nI ns
def SSarr (al be ed ri sd ta th wa f : Nat → Int32) : Prop := agr 36 190 al f ∧ agr 6 136 be f ∧ agr 6 130 ed f ∧ agr 6 142 ri f ∧ agr 16 1378 sd f ∧ agr 120 10 ta f ∧ agr 36 154 th f ∧ agr 6 148 wa f
def upto (N M : Nat) (a : Nat → Int32) : Prop := ∀ j, j < N → ∃ v : Nat, v ≤ M ∧ a j = nI v
def SSval (nc : Nat) (al be ed ri ta th wa : Nat → Int32) : Prop := upto 6 9 be ∧ upto 6 9 ed ∧ upto 6 30 ri ∧ upto 6 9 wa ∧ upto 120 255 ta ∧ (∀ j, j < 36 → ∃ n s : Nat, s ≤ n ∧ n ≤ 999 ∧ th j = nI n ∧ al j = nI s) ∧ (∀ h c, h < 6 → c < 6 → nc ≤ c → th (6 * h + c) = 0 ∧ al (6 * h + c) = 0)
def SSlaw (Ls : List LR) (nl : Nat) (lw : Nat → Option Nat) (f : Nat → Int32) : Prop := (∀ k, k < nl → ∃ r ∈ Ls, lw k = some r.2.1 ∧ lawR r f k) ∧ (∀ j q, lw j = some q → ∃ r ∈ Ls, r.2.1 = q)
def SS (Ls : List LR) (nc nh nl nb ns : Nat) (al be ed : Nat → Int32) (lw : Nat → Option Nat) (ri sd ta th wa f : Nat → Int32) : Prop := SSnum nc nh nl nb ns f ∧ SSarr al be ed ri sd ta th wa f ∧ SSval nc al be ed ri ta th wa ∧ SSlaw Ls nl lw f
theorem agr_upd {N o n : Nat} {a f : Nat → Int32} {x : Int32} (h : agr N o a f) : agr N o (upd a n x) (upd f (o + n) x) := by
  intro j hj
  by_cases e : j = n
  · subst e; rw [pk_us, pk_us]
  · rw [pk_un e, pk_un (by omega)]; exact h j hj
theorem agr_skip {N o k : Nat} {a f : Nat → Int32} {x : Int32} (h : agr N o a f) (hk : k < o ∨ o + N ≤ k) : agr N o a (upd f k x) := by
  intro j hj
  rw [pk_un (by omega)]
  exact h j hj
theorem upto_upd {N M n v : Nat} {a : Nat → Int32} (h : upto N M a) (hv : v ≤ M) : upto N M (upd a n (nI v)) := by
  intro j hj
  by_cases e : j = n
  · subst e; exact ⟨v, hv, pk_us⟩
  · rw [pk_un e]; exact h j hj
theorem lawR_congr {r : LR} {f g : Nat → Int32} {k : Nat} (hg : ∀ j, (j = 226 + k ∨ j = 234 + k ∨ j = 242 + k ∨ j = 250 + k ∨ (258 + 140 * k ≤ j ∧ j < 258 + 140 * (k + 1))) → g j = f j) (h : lawR r f k) : lawR r g k := by
  obtain ⟨⟨κ, v, c, h1, h2, h3, h4, h5, h6, h7⟩, n, d, hn, hr, h8, dep, h9, h10, h11⟩ := h
  refine ⟨⟨κ, v, c, h1, h2, h3, ?_, ?_, ?_, h7⟩, n, d, hn, hr, ?_, dep, h9, h10, fun j hj => ?_⟩
  · rw [hg _ (by omega)]; exact h4
  · rw [hg _ (by omega)]; exact h5
  · rw [hg _ (by omega)]; exact h6
  · rw [hg _ (by omega)]; exact h8
  · have e : g (258 + 140 * k + j) = f (258 + 140 * k + j) := hg _ (by omega)
    show stepR (g (258 + 140 * k + j)) _ _ _ ∧ _
    rw [e]
    exact h11 j hj
theorem SSlaw_congr {Ls : List LR} {nl : Nat} {lw : Nat → Option Nat} {f g : Nat → Int32} (hn : nl ≤ 8) (hg : ∀ j, (226 ≤ j ∧ j < 1378) → g j = f j) (h : SSlaw Ls nl lw f) : SSlaw Ls nl lw g := by
  refine ⟨fun k hk => ?_, h.2⟩
  obtain ⟨r, h1, h2, h3⟩ := h.1 k hk
  exact ⟨r, h1, h2, lawR_congr (fun j hj => hg j (by omega)) h3⟩
theorem SSlaw_upd {Ls : List LR} {nl k : Nat} {lw : Nat → Option Nat} {f : Nat → Int32} {x : Int32} (hn : nl ≤ 8) (hk : k < 226 ∨ 1378 ≤ k) (h : SSlaw Ls nl lw f) : SSlaw Ls nl lw (upd f k x) :=
  SSlaw_congr hn (fun j hj => pk_un (by omega)) h
