/-! a clause, a LAW -/
section LW
variable {size K : Nat} {ta : Nat → Int32}
def frC (K : Nat) (f g : Nat → Int32) : Prop := ∀ j, j ≠ 242 + K → j ≠ 250 + K → (j < 258 + 140 * K ∨ 258 + 140 * (K + 1) ≤ j) → g j = f j
theorem frC_of {f g : Nat → Int32} (h : frm K f g) : frC K f g := fun j _ h2 h3 => h j h2 h3
theorem frC_refl (f : Nat → Int32) : frC K f f := fun _ _ _ _ => rfl
theorem frC_trans {f g h : Nat → Int32} (a : frC K f g) (b : frC K g h) : frC K f h := fun j h1 h2 h3 => (b j h1 h2 h3).trans (a j h1 h2 h3)
theorem frC_tape {f g : Nat → Int32} (a : frC K f g) (h : agr 120 10 ta f) : agr 120 10 ta g := fun j hj => (h j hj).trans (a (10 + j) (by omega) (by omega) (by omega)).symm
theorem frC_242 {f : Nat → Int32} (x : Int32) : frC K f (upd f (242 + K) x) := fun j h1 _ _ => pk_un h1
theorem GS_242 {n d : Nat} {sc f : Nat → Int32} (h : GS K n d sc f) (x : Int32) : GS K n d sc (upd f (242 + K) x) := by
  obtain ⟨h1, dep, h2, h3, h4⟩ := h
  refine ⟨by rw [pk_un (by omega)]; exact h1, dep, h2, h3, fun j hj => ?_⟩
  have e : (upd f (242 + K) x) (258 + 140 * K + j) = f (258 + 140 * K + j) := pk_un (by omega)
  show stepR ((upd f (242 + K) x) (258 + 140 * K + j)) _ _ _ ∧ _
  rw [e]
  exact h4 j hj
abbrev RD : Type := Option (Int32 × Int32 × Int32 × Int32 × Int32 × (Nat → Int32))
/-- what comes of reading a clause -/
def PC (size K p n c : Nat) (f : Nat → Int32) (rc : RD) (rm : RM) : Prop :=
  (∃ (p' n' c' : Nat) (num : Int32) (sc' f' : Nat → Int32), p' ≤ size ∧ n' + p + 4 ≤ p' + n ∧ c' ≤ 99 ∧ rc = some (1, nI p', nI n', num, nI c', sc') ∧ rm = some (nI p', 0, 0, f') ∧ GS K n' 0 sc' f' ∧ f' (242 + K) = nI c' ∧ frC K f f')
  ∨ (∃ (p' : Nat) (x1 x2 x3 : Int32) (x4 f' : Nat → Int32), p' ≤ size ∧ rc = some (0, nI p', x1, x2, x3, x4) ∧ rm = some (nI p', 1, 0, f') ∧ frC K f f')
theorem E_at {p n : Nat} {sc f : Nat → Int32} (hK : K < 8) (hs : size ≤ 120) (hta : upto 120 255 ta) (hag : agr 120 10 ta f) (hp : p ≤ size) (hn : n ≤ p) (hG : GS K n 0 sc f) (num : Int32) : PP size K p n 0 f 1 (tR 40 2 (nI size) (nI p) (nI n) num sc ta 0) (tM 40 2 (nI K) (nI p) (nI size) 0 0 f) :=
  E_0 hK hs hta 40 p n 0 num sc f (Nat.le_refl _) hag hp hn (Nat.le_refl _) hG
theorem much_eq {p n c p1 pc srt : Nat} {sc f : Nat → Int32} {tc tm : Nat} {kd : Int32} (hK : K < 8) (hs : size ≤ 120) (hta : upto 120 255 ta) (hag : agr 120 10 ta f) (hn : n ≤ p) (hc : c ≤ 99) (hG : GS K n 0 sc f) (e242 : f (242 + K) = nI c) (num : Int32) (hst : ∀ v : Nat, v < 100 → stepR (kd - nI v) (nI (srt * 100 + v)) 1 0) (hsrt : srt < 100)
    (H : (p + 5 ≤ p1 ∧ p1 ≤ size ∧ fX3_passesAll tc (nI size) (nI pc) ta = some (1, nI p1) ∧ fX12_spells tm (nI p) (nI size) 0 f = some (nI p1, 0)) ∨ (∃ p' : Nat, p' ≤ size ∧ fX3_passesAll tc (nI size) (nI pc) ta = some (0, nI p') ∧ fX12_spells tm (nI p) (nI size) 0 f = some (nI p', 1))) :
    PC size K p n c f (fX3_readsClause_b110 (nI size) (nI pc) (nI n) num (nI c) sc ta (nI srt) tc) (fX12_much tm (nI K) (nI p) (nI size) 0 0 f kd) := by
  unfold fX3_readsClause_b110 fX12_much
  rcases H with ⟨a1, a2, a3, a4⟩ | ⟨p', a1, a3, a4⟩
  · rw [a3, ob, a4, ob, if_neg ne10]
    show PC _ _ _ _ _ _ (Option.bind (fX3_readsNumber (nI size) (nI p1) num ta) _) (Option.bind (fX12_figures (nI p1) (nI size) 0 f) _)
    rcases num_eq (p := p1) hs a2 hta hag num with ⟨c1, c2⟩ | ⟨v, p2, hv, hp2, hp3, c1, c2⟩
    · rw [c1, ob, c2, ob, if_pos rfl]
      refine Or.inr ⟨p1, nI n, num, nI c, sc, f, a2, rfl, ?_, frC_refl f⟩
      show Option.bind (fX12_must (nI p1) (nI size) 1 f 32) _ = _
      rw [m_must_w, ob]
      show Option.bind (tM 40 2 (nI K) (nI p1) (nI size) 1 0 f) _ = _
      rw [tM_w2 (by decide), ob]
      show Option.bind (fX12_emits (nI K) 1 f _) _ = _
      rw [m_emit_w, ob]
    · rw [c1, ob, c2, ob, if_neg ne10]
      show PC _ _ _ _ _ _ (Option.bind (fX3_passes (nI size) (nI p2) ta 32) _) (Option.bind (fX12_must (nI p2) (nI size) 0 f 32) _)
      by_cases q : cC size ta p2 = 32
      · have qm : cM size ta p2 = 32 := (ch_iff (by decide) (by decide)).mp q
        have hlt := ch_lt (by decide) q
        rw [c_pass_y hs hp3 q, ob, m_must_y hs hp3 hag qm, ob, if_neg (show ¬ ((1 : Int32), nI (p2 + 1)).1 = 0 from ne10)]
        show PC _ _ _ _ _ _ (Option.bind (tR 40 2 (nI size) (nI (p2 + 1)) (nI n) (nI v) sc ta 0) _) (Option.bind (tM 40 2 (nI K) (nI (p2 + 1)) (nI size) 0 0 f) _)
        rcases E_at hK hs hta hag (show p2 + 1 ≤ size by omega) (show n ≤ p2 + 1 by omega) hG (nI v) with ⟨p', n', num', sc', f', h1, h2, h3, h4, h5, h6, h7⟩ | ⟨p', x1, x2, x3, f', h1, h2, h3, h4⟩
        · have es : nI srt * 100 + nI v = nI (srt * 100 + v) := by
            rw [show nI srt * (100 : Int32) = nI (srt * 100) from pk_mul srt 100, nI_add]
          rw [h4, ob, h5, ob, if_neg ne10]
          refine Or.inl ⟨p', n' + 1, c, num', upd sc' n' (nI (srt * 100 + v)), upd (upd f' (258 + 140 * K + n') (kd - nI v)) (250 + K) (nI (n' + 1)), h2, by omega, hc, ?_, ?_, GS_add h6 (by omega) (hst v hv) (by omega), ?_, frC_trans (frC_of h7) (frC_of (emit_frm (by omega) _ _))⟩
          · show Option.bind (fX3_adds (nI n') sc' (nI srt) (nI v)) _ = _
            rw [adds_eq (by omega), ob, es, if_neg ne10]
          · show Option.bind (fX12_emits (nI K) 0 f' (kd - nI v)) _ = _
            rw [emit_eq hK (by omega) h6.1, ob]
          · rw [pk_un (by omega), pk_un (by omega), h7 _ (by omega) (by omega)]
            exact e242
        · rw [h2, ob, h3, ob, if_pos rfl]
          refine Or.inr ⟨p', x1, x2, nI c, x3, f', h1, rfl, ?_, frC_of h4⟩
          show Option.bind (fX12_emits (nI K) 1 f' _) _ = _
          rw [m_emit_w, ob]
      · have qm : ¬ cM size ta p2 = 32 := fun e => q ((ch_iff (by decide) (by decide)).mpr e)
        rw [c_pass_n hs hp3 q, ob, m_must_n hs hp3 hag qm, ob, if_pos rfl]
        refine Or.inr ⟨p2, nI n, nI v, nI c, sc, f, hp3, rfl, ?_, frC_refl f⟩
        show Option.bind (tM 40 2 (nI K) (nI p2) (nI size) 1 0 f) _ = _
        rw [tM_w2 (by decide), ob]
        show Option.bind (fX12_emits (nI K) 1 f _) _ = _
        rw [m_emit_w, ob]
  · rw [a3, ob, a4, ob, if_pos rfl]
    refine Or.inr ⟨p', nI n, num, nI c, sc, f, a1, rfl, ?_, frC_refl f⟩
    show Option.bind (fX12_figures (nI p') (nI size) 1 f) _ = _
    rw [m_fig_w, ob]
    show Option.bind (fX12_must (nI p') (nI size) 1 f 32) _ = _
    rw [m_must_w, ob]
    show Option.bind (tM 40 2 (nI K) (nI p') (nI size) 1 0 f) _ = _
    rw [tM_w2 (by decide), ob]
    show Option.bind (fX12_emits (nI K) 1 f _) _ = _
    rw [m_emit_w, ob]
/-- the first letter of a word, seen already -/
theorem spell_1 {p : Nat} {f : Nat → Int32} (hs : size ≤ 120) (hp : p ≤ size) (hag : agr 120 10 ta f) {tm : Nat} {x : Int32} (h0 : ¬ Int32.ofNat (js_len tm) ≤ 0) (h1 : ¬ ((0 : Int32) < 0 ∨ js_len tm ≤ (0 : Int32).toNatClampNeg)) (h2 : js_ch tm (0 : Int32).toNatClampNeg = x) (h : cM size ta p = x) : fX12_spells tm (nI p) (nI size) 0 f = fX12_spells_L2 tm (nI size) f 1999 (nI (p + 1)) 0 (nI (0 + 1)) := by
  unfold fX12_spells
  rw [show (2000 : Nat) = 1999 + 1 from rfl, fX12_spells_L2, if_neg h0, if_neg h1, h2, m_must_y hs hp hag h, ob]
  rfl
theorem clause_eq {p n c : Nat} {sc f : Nat → Int32} (hK : K < 8) (hs : size ≤ 120) (hta : upto 120 255 ta) (hag : agr 120 10 ta f) (hp : p ≤ size) (hn : n ≤ p) (hc : c ≤ 99) (hG : GS K n 0 sc f) (e242 : f (242 + K) = nI c) (num : Int32) :
    PC size K p n c f (fX3_readsClause (nI size) (nI p) (nI n) num (nI c) sc ta) (fX12_clauseHere (nI K) (nI p) (nI size) 0 0 f) := by
  have i242 := ix_ (K := 242) (n := K) (N := 1394) (by omega) (by decide)
  have k242 := cl_ (K := 242) (n := K) (by omega)
  unfold fX3_readsClause fX12_clauseHere
  rw [m_here hs hp hag, ob]
  by_cases qs : cC size ta p = 115
  · have qm : cM size ta p = 115 := (ch_iff (by decide) (by decide)).mp qs
    have hlt := ch_lt (by decide) qs
    have hsp := spell_1 hs hp hag (tm := 10) (by decide) (by decide) (by decide) qm
    rw [c_pass_y hs hp qs, ob, if_neg (show ¬ ((1 : Int32), nI (p + 1)).1 = 0 from ne10), qm, if_neg (by decide), if_neg (by decide), if_pos rfl, hsp]
    show PC _ _ _ _ _ _ (Option.bind (fX3_passesAll_L2 0 (nI size) ta 2000 (nI (p + 1)) (nI 0)) _) _
    rcases spell_L hs hag (tc := 0) (tm := 10) (off := 1) (by decide) (by decide) (by decide) 4 0 2000 1999 (p + 1) (by decide) (by decide) (by decide) (by omega) with ⟨a1, a2, a3⟩ | ⟨p', a1, a2, a3⟩
    · rw [a2, ob, a3, ob, if_neg ne10]
      show PC _ _ _ _ _ _ (Option.bind (tR 40 2 (nI size) (nI (p + 1 + 4)) (nI n) num sc ta 0) _) (Option.bind (tM 40 2 (nI K) (nI (p + 1 + 4)) (nI size) 0 0 f) _)
      rcases E_at hK hs hta hag a1 (show n ≤ p + 1 + 4 by omega) hG num with ⟨p', n', num', sc', f', h1, h2, h3, h4, h5, h6, h7⟩ | ⟨p', x1, x2, x3, f', h1, h2, h3, h4⟩
      · rw [h4, ob, h5, ob, if_neg ne10]
        refine Or.inl ⟨p', n' + 1, c, num', upd sc' n' (nI 2000), upd (upd f' (258 + 140 * K + n') (-400)) (250 + K) (nI (n' + 1)), h2, by omega, hc, ?_, ?_, GS_add h6 (by omega) (Or.inr (Or.inr (Or.inr (Or.inr (Or.inr (Or.inr ⟨rfl, rfl, rfl, rfl⟩)))))) (by omega), ?_, frC_trans (frC_of h7) (frC_of (emit_frm (by omega) _ _))⟩
        · show Option.bind (fX3_adds (nI n') sc' 20 0) _ = _
          rw [adds_eq (by omega), ob, if_neg ne10]
          rfl
        · show Option.bind (fX12_emits (nI K) 0 f' (-400)) _ = _
          rw [emit_eq hK (by omega) h6.1, ob]
        · rw [pk_un (by omega), pk_un (by omega), h7 _ (by omega) (by omega)]
          exact e242
      · rw [h2, ob, h3, ob, if_pos rfl]
        refine Or.inr ⟨p', x1, x2, nI c, x3, f', h1, rfl, ?_, frC_of h4⟩
        show Option.bind (fX12_emits (nI K) 1 f' _) _ = _
        rw [m_emit_w, ob]
    · rw [a2, ob, a3, ob, if_pos rfl]
      refine Or.inr ⟨p', nI n, num, nI c, sc, f, a1, rfl, ?_, frC_refl f⟩
      show Option.bind (tM 40 2 (nI K) (nI p') (nI size) 1 0 f) _ = _
      rw [tM_w2 (by decide), ob]
      show Option.bind (fX12_emits (nI K) 1 f _) _ = _
      rw [m_emit_w, ob]
  · have ms : ¬ cM size ta p = 115 := fun e => qs ((ch_iff (by decide) (by decide)).mpr e)
    rw [c_pass_n hs hp qs, ob, if_pos rfl]
    show PC _ _ _ _ _ _ (Option.bind (fX3_passes (nI size) (nI p) ta 99) _) _
    by_cases qc : cC size ta p = 99
    · have qm : cM size ta p = 99 := (ch_iff (by decide) (by decide)).mp qc
      have hlt := ch_lt (by decide) qc
      have hsp := spell_1 hs hp hag (tm := 11) (by decide) (by decide) (by decide) qm
      rw [c_pass_y hs hp qc, ob, if_neg (show ¬ ((1 : Int32), nI (p + 1)).1 = 0 from ne10), if_pos qm, hsp]
      show PC _ _ _ _ _ _ (Option.bind (fX3_passesAll_L2 1 (nI size) ta 2000 (nI (p + 1)) (nI 0)) _) _
      have bad : ∀ (p' : Nat), p' ≤ size → Option.bind (some ((0 : Int32), nI p', (1 : Int32))) (fun r6 => (if r6.2.2 = 0 then (fX12_clauseHere_b138 (nI K) r6.2.1 (nI size) r6.2.2 0 f (242 + nI K) r6.1) else (if (242 + nI K) < 0 ∨ 1394 ≤ (242 + nI K).toNatClampNeg then none else (fX12_clauseHere_b138 (nI K) r6.2.1 (nI size) r6.2.2 0 f (242 + nI K) (f (242 + nI K).toNatClampNeg))))) = some (nI p', 1, 0, upd f (242 + K) (f (242 + K))) := by
        intro p' hp'
        rw [ob, if_neg ne10, if_neg i242]
        unfold fX12_clauseHere_b138
        rw [if_neg i242, k242]
      rcases spell_L hs hag (tc := 1) (tm := 11) (off := 1) (by decide) (by decide) (by decide) 5 0 2000 1999 (p + 1) (by decide) (by decide) (by decide) (by omega) with ⟨a1, a2, a3⟩ | ⟨p', a1, a2, a3⟩
      · rw [a2, ob, a3, ob, if_neg ne10]
        show PC _ _ _ _ _ _ (Option.bind (fX3_readsNumber (nI size) (nI (p + 1 + 5)) num ta) _) (Option.bind (fX12_figures (nI (p + 1 + 5)) (nI size) 0 f) _)
        rcases num_eq (p := p + 1 + 5) hs a1 hta hag num with ⟨c1, c2⟩ | ⟨v, p2, hv, hp2, hp3, c1, c2⟩
        · rw [c1, ob, c2, if_pos rfl]
          exact Or.inr ⟨p + 1 + 5, nI n, num, nI c, sc, _, a1, rfl, bad _ a1, frC_242 _⟩
        · rw [c1, ob, c2, ob, if_neg ne10, if_pos rfl]
          refine Or.inl ⟨p2, n, v, nI v, sc, upd f (242 + K) (nI v), hp3, by omega, by omega, rfl, ?_, GS_242 hG _, pk_us, frC_242 _⟩
          unfold fX12_clauseHere_b138
          rw [if_neg i242, k242]
      · rw [a2, ob, a3, ob, if_pos rfl]
        show PC _ _ _ _ _ _ _ (Option.bind (fX12_figures (nI p') (nI size) 1 f) _)
        rw [m_fig_w]
        exact Or.inr ⟨p', nI n, num, nI c, sc, _, a1, rfl, bad _ a1, frC_242 _⟩
    · have mc : ¬ cM size ta p = 99 := fun e => qc ((ch_iff (by decide) (by decide)).mpr e)
      rw [c_pass_n hs hp qc, ob, if_pos rfl]
      show PC _ _ _ _ _ _ (Option.bind (fX3_passes (nI size) (nI p) ta 116) _) _
      have eta4 : ∀ o : RM, Option.bind o (fun r12 => some (r12.1, r12.2.1, r12.2.2.1, r12.2.2.2)) = o := by intro o; cases o <;> rfl
      by_cases qt : cC size ta p = 116
      · have qm : cM size ta p = 116 := (ch_iff (by decide) (by decide)).mp qt
        have hlt := ch_lt (by decide) qt
        have hsp := spell_1 hs hp hag (tm := 8) (by decide) (by decide) (by decide) qm
        rw [c_pass_y hs hp qt, ob, if_neg (show ¬ ((1 : Int32), nI (p + 1)).1 = 0 from ne10), qm, if_neg (by decide), if_neg (by decide), if_neg (by decide), if_pos rfl, eta4]
        unfold fX3_readsClause_b95
        rw [if_pos rfl]
        refine much_eq (srt := 18) (p1 := p + 1 + 4) (pc := p + 1) (kd := -10) hK hs hta hag hn hc hG e242 num (fun v hv => Or.inr (Or.inr (Or.inr (Or.inr (Or.inl ⟨v, hv, rfl, rfl, rfl, rfl⟩))))) (by decide) ?_
        rw [hsp]
        unfold fX3_passesAll
        rcases spell_L hs hag (tc := 2) (tm := 8) (off := 1) (by decide) (by decide) (by decide) 4 0 2000 1999 (p + 1) (by decide) (by decide) (by decide) (by omega) with ⟨a1, a2, a3⟩ | ⟨p', a1, a2, a3⟩
        · exact Or.inl ⟨by omega, a1, a2, a3⟩
        · exact Or.inr ⟨p', a1, a2, a3⟩
      · have mt : ¬ cM size ta p = 116 := fun e => qt ((ch_iff (by decide) (by decide)).mpr e)
        rw [c_pass_n hs hp qt, ob, if_pos rfl, if_neg mc]
        unfold fX3_readsClause_b95
        rw [if_neg (by decide)]
        by_cases ql : cM size ta p = 108
        · rw [if_pos ql, eta4]
          refine much_eq (srt := 19) (p1 := p + 5) (pc := p) (kd := -200) hK hs hta hag hn hc hG e242 num (fun v hv => Or.inr (Or.inr (Or.inr (Or.inr (Or.inr (Or.inl ⟨v, hv, rfl, rfl, rfl, rfl⟩)))))) (by decide) ?_
          unfold fX3_passesAll fX12_spells
          rcases spell_L hs hag (tc := 3) (tm := 9) (off := 0) (by decide) (by decide) (by decide) 5 0 2000 2000 p (by decide) (by decide) (by decide) hp with ⟨a1, a2, a3⟩ | ⟨p', a1, a2, a3⟩
          · exact Or.inl ⟨by omega, a1, a2, a3⟩
          · exact Or.inr ⟨p', a1, a2, a3⟩
        · rw [if_neg ql, if_neg ms, if_neg mt]
          have cl : ¬ cC size ta p = 108 := fun e => ql ((ch_iff (by decide) (by decide)).mp e)
          refine Or.inr ⟨p, nI n, num, nI c, sc, f, hp, ?_, rfl, frC_refl f⟩
          have e1 : fX3_passesAll 3 (nI size) (nI p) ta = some (0, nI p) := by
            unfold fX3_passesAll
            rw [show (2000 : Nat) = 1999 + 1 from rfl, fX3_passesAll_L2, if_neg (by decide), if_neg (by decide), show js_ch 3 (0 : Int32).toNatClampNeg = 108 from by decide, c_pass_n hs hp cl, ob, if_pos rfl]
          unfold fX3_readsClause_b110
          rw [e1, ob, if_pos rfl]
end LW
