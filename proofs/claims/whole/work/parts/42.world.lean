/-! the law's world: what holds at its loop's head -/
def lawCells (G : GG) (r : LR) : va_W := [oT r.1 r.2.1 r.2.2.1 r.2.2.2.1 r.2.2.2.2.1 r.2.2.2.2.2.1 r.2.2.2.2.2.2.1, aI G r.2.2.2.2.2.2.1 r.2.2.2.2.2.2.2.1 r.2.2.2.2.2.2.2.2]
def LW (G : GG) (Ls : List LR) : va_W := Ls.flatMap (lawCells G)
section WO
variable {D : va_G} {cl : List vw_C} {A : Nat → Prop} {ws ws' : va_W} {H : Heap}
theorem wP_perm (h : ws.Perm ws') (hP : va_P D cl ws H) : va_P D cl ws' H := fun k q hq => by
  have hm : q ∈ ws := h.mem_iff.mpr (List.mem_of_getElem? hq)
  obtain ⟨i, hi⟩ := List.mem_iff_getElem?.mp hm
  exact hP i q hi
theorem wD_iff : va_D A ws ↔ (ws.map (fun q => q.1)).Nodup ∧ ∀ q ∈ ws, A q.1 := by
  constructor
  · rintro ⟨h1, h2⟩
    refine ⟨?_, fun q hq => ?_⟩
    · unfold List.Nodup
      rw [List.pairwise_map]
      refine List.pairwise_iff_getElem.mpr (fun i j hi hj hij e => ?_)
      have := h1 i j _ _ (List.getElem?_eq_getElem hi) (List.getElem?_eq_getElem hj) e
      omega
    · obtain ⟨i, hi⟩ := List.mem_iff_getElem?.mp hq
      exact h2 i q hi
  · rintro ⟨h1, h2⟩
    refine ⟨fun i j p q hi hj e => ?_, fun k q hq => h2 q (List.mem_of_getElem? hq)⟩
    unfold List.Nodup at h1
    rw [List.pairwise_map] at h1
    have h3 := List.pairwise_iff_getElem.mp h1
    obtain ⟨li, ei⟩ := List.getElem?_eq_some_iff.mp hi
    obtain ⟨lj, ej⟩ := List.getElem?_eq_some_iff.mp hj
    rcases Nat.lt_trichotomy i j with h | h | h
    · exact absurd (by rw [ei, ej]; exact e) (h3 i j li lj h)
    · exact h
    · exact absurd (by rw [ei, ej]; exact e.symm) (h3 j i lj li h)
theorem wD_perm (h : ws.Perm ws') (hD : va_D A ws) : va_D A ws' := by
  rw [wD_iff] at hD ⊢
  exact ⟨(h.map _).nodup_iff.mp hD.1, fun q hq => hD.2 q (h.mem_iff.mpr hq)⟩
theorem perm_places {α : Type} {fix sel : List α} (is : List Nat) (n : Nat) (hn : fix.length = n) (hp : is.Perm (List.range n)) (h : is.map (fun i => fix[i]?) = sel.map some) : sel.Perm fix := by
  have e1 : (List.range n).map (fun i => fix[i]?) = fix.map some := by
    refine List.ext_getElem? (fun k => ?_)
    rw [List.getElem?_map, List.getElem?_map]
    by_cases hk : k < n
    · rw [List.getElem?_range hk, List.getElem?_eq_getElem (by omega)]
      rw [Option.map_some, Option.map_some, List.getElem?_eq_getElem (by omega)]
    · rw [List.getElem?_eq_none (by simpa using hk), List.getElem?_eq_none (by omega)]
      rfl
  have h2 := hp.map (fun i => fix[i]?)
  rw [h, e1] at h2
  have h3 := h2.filterMap id
  simpa [List.filterMap_map] using h3
theorem LW_split (G : GG) (S T : List LR) (r : LR) : (LW G (S ++ r :: T)).Perm (lawCells G r ++ LW G (S ++ T)) := by
  unfold LW
  rw [List.flatMap_append, List.flatMap_cons, List.flatMap_append, ← List.append_assoc, ← List.append_assoc]
  exact List.Perm.append_right _ List.perm_append_comm
theorem LW_out (G : GG) (FX : va_W) (S T : List LR) (r : LR) : (FX ++ LW G (S ++ r :: T)).Perm (FX ++ (lawCells G r ++ LW G (S ++ T))) := List.Perm.append_left _ (LW_split G S T r)
theorem tl_ok_of {G : GG} {Ls : List LR} {lk : Nat → Option Nat} (h : ∀ j q, lk j = some q → ∃ r ∈ Ls, r.2.1 = q) (hT : ∀ r ∈ Ls, isT r.1) : tl_ok lk (LW G Ls) := by
  intro j q hq
  obtain ⟨r, hr, e⟩ := h j q hq
  have hm : oT r.1 r.2.1 r.2.2.1 r.2.2.2.1 r.2.2.2.2.1 r.2.2.2.2.2.1 r.2.2.2.2.2.2.1 ∈ LW G Ls := List.mem_flatMap.mpr ⟨r, hr, List.mem_cons_self⟩
  obtain ⟨k, hk⟩ := List.mem_iff_getElem?.mp hm
  exact ⟨k, r.1, _, hT r hr, by rw [hk, ← e]⟩
theorem SS_cons {Ls : List LR} {nc nh nl nb ns : Nat} {al be ed : Nat → Int32} {lw : Nat → Option Nat} {ri sd ta th wa f : Nat → Int32} (r : LR) (h : SS Ls nc nh nl nb ns al be ed lw ri sd ta th wa f) : SS (r :: Ls) nc nh nl nb ns al be ed lw ri sd ta th wa f := by
  obtain ⟨h1, h2, h3, h4, h5⟩ := h
  refine ⟨h1, h2, h3, fun k hk => ?_, fun j q hq => ?_⟩
  · obtain ⟨r', a, b⟩ := h4 k hk
    exact ⟨r', List.mem_cons_of_mem _ a, b⟩
  · obtain ⟨r', a, b⟩ := h5 j q hq
    exact ⟨r', List.mem_cons_of_mem _ a, b⟩
theorem lcmp_self (z : Int64) : lg_cmp z z = 0 := by
  unfold lg_cmp
  rw [if_neg (fun h : z > z => by rw [gt_iff_lt, fa_lt64] at h; omega), if_pos rfl]
theorem tl_dis {isF isC : List Nat} {n m : Nat} (h1 : ∀ i ∈ isF, i ∉ isC) (h2 : ∀ i ∈ isC, i < n) : ∀ i ∈ tl_is isF n m, i ∉ isC := by
  intro i hi hc
  rcases List.mem_append.mp hi with h | h
  · exact h1 i h hc
  · obtain ⟨j, -, e⟩ := List.mem_map.mp h
    have := h2 i hc
    omega
theorem pm_tail (R W1 T : va_W) : ((R ++ T) ++ W1).Perm ((R ++ W1) ++ T) := by
  rw [List.append_assoc, List.append_assoc]
  exact List.Perm.append_left _ List.perm_append_comm
theorem isT_cons {r : LR} {Ls : List LR} (h : isT r.1) (hT : ∀ r ∈ Ls, isT r.1) : ∀ r' ∈ r :: Ls, isT r'.1 := by
  intro r' hr
  rcases List.mem_cons.mp hr with rfl | h2
  · exact h
  · exact hT r' h2
end WO
/-- what is kept for THE IMAGE -/
def KP (Ls : List LR) (ik kc kh kl kb ks : Int32) (kal kbe ked : Nat → Int32) (klw : Nat → Option Nat) (kri ksd kta kth kwa fi : Nat → Int32) : Prop :=
  (ik = 0 ∨ (¬ ik = 0 ∧ ∃ mc mh ml mb ms : Nat, kc = nI mc ∧ kh = nI mh ∧ kl = nI ml ∧ kb = nI mb ∧ ks = nI ms ∧ SS Ls mc mh ml mb ms kal kbe ked klw kri ksd kta kth kwa fi)) ∧ ∀ j q, klw j = some q → ∃ r ∈ Ls, r.2.1 = q
theorem KP_cons {Ls : List LR} {ik kc kh kl kb ks : Int32} {kal kbe ked : Nat → Int32} {klw : Nat → Option Nat} {kri ksd kta kth kwa fi : Nat → Int32} (r : LR) (h : KP Ls ik kc kh kl kb ks kal kbe ked klw kri ksd kta kth kwa fi) : KP (r :: Ls) ik kc kh kl kb ks kal kbe ked klw kri ksd kta kth kwa fi := by
  obtain ⟨h1, h2⟩ := h
  refine ⟨?_, fun j q hq => ?_⟩
  · rcases h1 with h1 | ⟨h0, mc, mh, ml, mb, ms, e1, e2, e3, e4, e5, hS⟩
    · exact Or.inl h1
    · exact Or.inr ⟨h0, mc, mh, ml, mb, ms, e1, e2, e3, e4, e5, SS_cons r hS⟩
  · obtain ⟨r', a, b⟩ := h2 j q hq
    exact ⟨r', List.mem_cons_of_mem _ a, b⟩
/-- at the loop's head -/
abbrev INV (G : GG) (A : Nat → Prop) (s : State) (ad : Nat → Nat) (H : Heap) (locs : List Loc) : Prop :=
  ∃ (Ls : List LR) (nc nh nl nb ns : Nat) (al be ed : Nat → Int32) (lw : Nat → Option Nat) (ri sd ta th wa f : Nat → Int32) (ik kc kh kl kb ks : Int32) (kal kbe ked : Nat → Int32) (klw : Nat → Option Nat) (kri ksd kta kth kwa fi : Nat → Int32) (tx : Nat) (r1 r2 r3 r4 r5 : Int32) (rst : Nat → Int32) (g1 g2 g3 g4 g5 g6 g7 g8 : Int32) (ra : Nat) (bo : Nat → Int32) (m0 m1 m2 m3 m4 m5 m6 m7 m8 s1 s2 s3 s4 s5 s6 : Int32) (fb tr : Nat → Int32),
    va_P G.1 vwCl (([o11 (ad 0) (ad 1) (ad 2) ik (ad 3) (ad 4) (ad 5), o6 (ad 1) (nI nc) (nI nh) (nI nl) (nI nb) (nI ns) (ad 6) (ad 7) (ad 8) (ad 9) (ad 10) (ad 11) (ad 12) (ad 13) (ad 14), o6 (ad 2) kc kh kl kb ks (ad 15) (ad 16) (ad 17) (ad 18) (ad 19) (ad 20) (ad 21) (ad 22) (ad 23), o3 (ad 3) tx (ad 24) r1 r2 r3 r4 r5, o2 (ad 4) g1 g2 g3 g4 g5 g6 g7 g8, o8 (ad 5) (ad 25) (nI ra), aI G (ad 6) 6 ed, aI G (ad 7) 6 be, aI G (ad 8) 6 ri, aI G (ad 9) 6 wa, aI G (ad 10) 36 th, aI G (ad 11) 36 al, aT G (ad 12) 8 lw, aI G (ad 13) 120 ta, aI G (ad 14) 16 sd, aI G (ad 15) 6 ked, aI G (ad 16) 6 kbe, aI G (ad 17) 6 kri, aI G (ad 18) 6 kwa, aI G (ad 19) 36 kth, aI G (ad 20) 36 kal, aT G (ad 21) 8 klw, aI G (ad 22) 120 kta, aI G (ad 23) 16 ksd, aI G (ad 24) 120 rst, aI G (ad 25) 20 bo, o12 (ad 26) m0 (ad 27) (ad 28) ik m1 m2 m3 m4 m5 (ad 29) (ad 30) s1 s2 s3 s4 s5 s6 (ad 31) (nI ra) m6 m7 m8, aI G (ad 27) 1394 f, aI G (ad 28) 1394 fi, aI G (ad 29) 5 fb, aZ G (ad 30) 64 tr, aI G (ad 31) 20 bo] : va_W) ++ LW G Ls) H ∧ va_D A (([o11 (ad 0) (ad 1) (ad 2) ik (ad 3) (ad 4) (ad 5), o6 (ad 1) (nI nc) (nI nh) (nI nl) (nI nb) (nI ns) (ad 6) (ad 7) (ad 8) (ad 9) (ad 10) (ad 11) (ad 12) (ad 13) (ad 14), o6 (ad 2) kc kh kl kb ks (ad 15) (ad 16) (ad 17) (ad 18) (ad 19) (ad 20) (ad 21) (ad 22) (ad 23), o3 (ad 3) tx (ad 24) r1 r2 r3 r4 r5, o2 (ad 4) g1 g2 g3 g4 g5 g6 g7 g8, o8 (ad 5) (ad 25) (nI ra), aI G (ad 6) 6 ed, aI G (ad 7) 6 be, aI G (ad 8) 6 ri, aI G (ad 9) 6 wa, aI G (ad 10) 36 th, aI G (ad 11) 36 al, aT G (ad 12) 8 lw, aI G (ad 13) 120 ta, aI G (ad 14) 16 sd, aI G (ad 15) 6 ked, aI G (ad 16) 6 kbe, aI G (ad 17) 6 kri, aI G (ad 18) 6 kwa, aI G (ad 19) 36 kth, aI G (ad 20) 36 kal, aT G (ad 21) 8 klw, aI G (ad 22) 120 kta, aI G (ad 23) 16 ksd, aI G (ad 24) 120 rst, aI G (ad 25) 20 bo, o12 (ad 26) m0 (ad 27) (ad 28) ik m1 m2 m3 m4 m5 (ad 29) (ad 30) s1 s2 s3 s4 s5 s6 (ad 31) (nI ra) m6 m7 m8, aI G (ad 27) 1394 f, aI G (ad 28) 1394 fi, aI G (ad 29) 5 fb, aZ G (ad 30) 64 tr, aI G (ad 31) 20 bo] : va_W) ++ LW G Ls) ∧ va_S A s.heap H locs ∧ SS Ls nc nh nl nb ns al be ed lw ri sd ta th wa f ∧ KP Ls ik kc kh kl kb ks kal kbe ked klw kri ksd kta kth kwa fi ∧ ra ≤ 1000 ∧ ∀ r ∈ Ls, isT r.1
section CU
variable {p : Program} {l : Launch} {e : Env} {R : Room} {s : State} {m : MethodId} {args : Array Value} {below : List Frame} {meth : Method} {c : Code} {H : Heap} {locs : List Loc} {cells slots : Nat} {Q : State → Prop}
variable {cc : ByteArray} {pc : Nat} {ls : Array Slot} {rest st0 : List Value} {A : Nat → Prop} {G : GG} {ws wc fix sel sel1 fix' L : va_W} {a : Array Value}
/-- a call that makes a law: the two new cells come with the rest -/
theorem cl_u {w1 : Nat × Nat → va_W} {wr : va_W} {z : Int32} {mc ms : Nat} (hP : va_P G.1 vwCl ws H) (hD : va_D A ws) (hS : va_S A s.heap H locs) (hF : ∀ q, va_A wc H.size q → A q) (isC isR : List Nat) (hC : isC.map (fun i => ws[i]?) = wc.map some) (hR : isR.map (fun i => ws[i]?) = wr.map some) (hn : va_nd isR = true) (hdis : ∀ i ∈ isR, i ∉ isC)
    (hr : va_Run p l e R s m args below meth c H locs cells slots mc ms (F0 m pc ls st0) rest (QU G w1 z (va_A wc H.size) a) (va_A wc H.size))
    (kk : ∀ (u : Nat × Nat) (H1 : Heap) (locs1 : List Loc), va_P G.1 vwCl (wr ++ w1 u) H1 → va_D A (wr ++ w1 u) → va_S A s.heap H1 locs1 → W p l e R s m args below meth c H1 locs1 (cells + mc) (slots + ms) Q (F0 m (pc + 3) ls (.int z :: rest))) : W p l e R s m args below meth c H locs cells slots Q (F0 m pc ls st0) := by
  refine va_calli hr hS (fun q _ h => hF q h) hF (fun r u t H1 locs1 ht hvm hw1 hB hz1 hk1 hS1 => ?_)
  obtain ⟨hP1, hK1, hD1⟩ := hB
  rw [ht] at hP1
  subst hw1
  obtain ⟨hP2, hD2⟩ := va_join hP hD isC isR hC hR hn hdis hk1 hF hP1 hD1
  exact kk u H1 locs1 hP2 hD2 hS1
/-- a call that answers an int and leaves one thing open (u) of what it leaves behind -/
theorem cl_iu {w1 ws' : Nat × Nat → va_W} {z : Int32} (hP : va_P G.1 vwCl ws H) (hD : va_D A ws) (hS : va_S A s.heap H locs) (hF : ∀ q, va_A wc H.size q → A q) (isC : List Nat) (hC : isC.map (fun i => ws[i]?) = wc.map some) (ha : ∀ u, (w1 u).map (fun q => q.1) = wc.map (fun q => q.1)) (hw : ∀ u, cl_upd ws isC (w1 u) = ws' u)
    (hr : va_Run p l e R s m args below meth c H locs cells slots 0 0 (F0 m pc ls st0) rest (QU G w1 z (va_A wc H.size) a) (va_A wc H.size))
    (kk : ∀ (u : Nat × Nat) (H1 : Heap) (locs1 : List Loc), va_P G.1 vwCl (ws' u) H1 → va_D A (ws' u) → va_S A s.heap H1 locs1 → W p l e R s m args below meth c H1 locs1 cells slots Q (F0 m (pc + 3) ls (.int z :: rest))) : W p l e R s m args below meth c H locs cells slots Q (F0 m pc ls st0) := by
  refine va_calli hr hS (fun q _ h => hF q h) hF (fun r u t H1 locs1 ht hvm hw1 hB hz1 hk1 hS1 => ?_)
  obtain ⟨hP1, hK1, hD1⟩ := hB
  rw [ht] at hP1
  subst hw1
  obtain ⟨hP2, hD2⟩ := cl_join hP hD isC hC (ha u) (hw u) hk1 hP1
  exact kk u H1 locs1 hP2 hD2 hS1
theorem cl_iT {z : Int32} (hP : va_P G.1 vwCl (fix ++ L) H) (hD : va_D A (fix ++ L)) (hS : va_S A s.heap H locs) (hF : ∀ q, va_A (sel ++ L) H.size q → A q) (isF : List Nat) (hC : isF.map (fun i => fix[i]?) = sel.map some) (ha : sel1.map (fun q => q.1) = sel.map (fun q => q.1)) (hw : cl_upd fix isF sel1 = fix')
    (hr : va_Run p l e R s m args below meth c H locs cells slots 0 0 (F0 m pc ls st0) rest (QI G (sel1 ++ L) z (va_A (sel ++ L) H.size) a) (va_A (sel ++ L) H.size))
    (kk : ∀ (H1 : Heap) (locs1 : List Loc), va_P G.1 vwCl (fix' ++ L) H1 → va_D A (fix' ++ L) → va_S A s.heap H1 locs1 → W p l e R s m args below meth c H1 locs1 cells slots Q (F0 m (pc + 3) ls (.int z :: rest))) : W p l e R s m args below meth c H locs cells slots Q (F0 m pc ls st0) := by
  refine va_calli hr hS (fun q _ h => hF q h) hF (fun r u t H1 locs1 ht hvm hw1 hB hz1 hk1 hS1 => ?_)
  obtain ⟨hP1, hK1, hD1⟩ := hB
  rw [ht] at hP1
  subst hw1
  obtain ⟨hP2, hD2⟩ := tl_join hP hD isF hC ha hw hk1 hP1
  exact kk H1 locs1 hP2 hD2 hS1
end CU
