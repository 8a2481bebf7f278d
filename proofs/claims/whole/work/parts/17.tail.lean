/-! worlds with a tail: the laws, any number of them -/
def tl_ok (f : Nat → Option Nat) (L : va_W) : Prop := ∀ (j q : Nat), f j = some q → ∃ (k ci : Nat) (fs : List Value), isT ci ∧ L[k]? = some (q, .inr (ci, fs))
def tl_is (isF : List Nat) (n m : Nat) : List Nat := isF ++ (List.range m).map (fun j => n + j)
theorem tl_at {fix L : va_W} {k : Nat} {q : Nat × va_E} (h : L[k]? = some q) : (fix ++ L)[fix.length + k]? = some q := by
  rw [List.getElem?_append_right (by omega)]
  simpa using h
theorem tl_C {fix sel L : va_W} {isF : List Nat} (hC : isF.map (fun i => fix[i]?) = sel.map some) : (tl_is isF fix.length L.length).map (fun i => (fix ++ L)[i]?) = (sel ++ L).map some := by
  unfold tl_is
  rw [List.map_append, List.map_append]
  congr 1
  · rw [← hC]
    refine List.map_congr_left (fun i hi => ?_)
    have h1 : fix[i]? ∈ sel.map some := by rw [← hC]; exact List.mem_map.mpr ⟨i, hi, rfl⟩
    obtain ⟨q, -, hq⟩ := List.mem_map.mp h1
    have hlt : i < fix.length := (List.getElem?_eq_some_iff.mp hq.symm).1
    exact List.getElem?_append_left hlt
  · rw [List.map_map]
    refine List.ext_getElem? (fun k => ?_)
    rw [List.getElem?_map, List.getElem?_map]
    by_cases hk : k < L.length
    · rw [List.getElem?_range hk, List.getElem?_eq_getElem hk]
      show some ((fix ++ L)[fix.length + k]?) = some (some L[k])
      rw [tl_at (List.getElem?_eq_getElem hk)]
    · rw [List.getElem?_eq_none (by simpa using hk), List.getElem?_eq_none (by simpa using hk)]
      rfl
theorem va_nd_of : ∀ (l : List Nat), l.Nodup → va_nd l = true
  | [], _ => rfl
  | a :: l, h => by
    rw [List.nodup_cons] at h
    simp [va_nd, h.1, va_nd_of l h.2]
theorem va_nd_to : ∀ (l : List Nat), va_nd l = true → l.Nodup
  | [], _ => List.nodup_nil
  | a :: l, h => by
    simp only [va_nd, Bool.and_eq_true, decide_eq_true_eq] at h
    exact List.nodup_cons.mpr ⟨h.1, va_nd_to l h.2⟩
theorem tl_nd {fix sel : va_W} {isF : List Nat} {m : Nat} (hC : isF.map (fun i => fix[i]?) = sel.map some) (hn : va_nd isF = true) : va_nd (tl_is isF fix.length m) = true := by
  refine va_nd_of _ ?_
  unfold tl_is
  refine List.nodup_append.mpr ⟨va_nd_to _ hn, ?_, ?_⟩
  · exact List.pairwise_map.mpr (List.Pairwise.imp (fun {a b} h e => h (by have e2 : fix.length + a = fix.length + b := e; omega)) List.nodup_range)
  · intro a ha b hb
    have h1 : fix[a]? ∈ sel.map some := by rw [← hC]; exact List.mem_map.mpr ⟨a, ha, rfl⟩
    obtain ⟨q, -, hq⟩ := List.mem_map.mp h1
    have hlt : a < fix.length := (List.getElem?_eq_some_iff.mp hq.symm).1
    obtain ⟨j, -, rfl⟩ := List.mem_map.mp hb
    omega
theorem cl_upd_len : ∀ (isC : List Nat) (w1 ws : va_W), (cl_upd ws isC w1).length = ws.length
  | [], w1, ws => by simp [cl_upd]
  | i :: is, [], ws => by simp [cl_upd]
  | i :: is, c :: cs, ws => by
    have h : cl_upd ws (i :: is) (c :: cs) = cl_upd (ws.set i c) is cs := rfl
    rw [h, cl_upd_len is cs]
    simp
theorem tl_join {A : Nat → Prop} {D : va_G} {cl : List vw_C} {fix sel sel1 fix' L : va_W} {H H1 : Heap} (hP : va_P D cl (fix ++ L) H) (hD : va_D A (fix ++ L)) (isF : List Nat) (hC : isF.map (fun i => fix[i]?) = sel.map some) (ha : sel1.map (fun q => q.1) = sel.map (fun q => q.1)) (hw : cl_upd fix isF sel1 = fix')
    (hk : ∀ q : Nat, q < H.size → ¬ va_A (sel ++ L) H.size q → H1[q]? = H[q]?) (hP1 : va_P D cl (sel1 ++ L) H1) : va_P D cl (fix' ++ L) H1 ∧ va_D A (fix' ++ L) := by
  subst hw
  have hlen : isF.length = sel1.length := by
    have h1 : isF.length = sel.length := by simpa using congrArg List.length hC
    have h2 : sel1.length = sel.length := by simpa using congrArg List.length ha
    omega
  have key : ∀ (k : Nat) (q : Nat × va_E), (cl_upd fix isF sel1 ++ L)[k]? = some q → ((∃ i, i ∉ isF ∧ k = i ∧ fix[i]? = some q) ∨ (∃ j : Nat, isF[j]? = some k ∧ sel1[j]? = some q)) ∨ (fix.length ≤ k ∧ L[k - fix.length]? = some q) := by
    intro k q hq
    by_cases hlt : k < fix.length
    · left
      rw [List.getElem?_append_left (by rw [cl_upd_len]; exact hlt)] at hq
      rcases cl_upd_at isF sel1 fix k q hq hlen with ⟨h1, h2⟩ | ⟨j, h1, h2⟩
      · exact Or.inl ⟨k, h1, rfl, h2⟩
      · exact Or.inr ⟨j, h1, h2⟩
    · right
      rw [List.getElem?_append_right (by rw [cl_upd_len]; omega), cl_upd_len] at hq
      exact ⟨by omega, hq⟩
  have hsel : ∀ (j : Nat) (q : Nat × va_E), sel1[j]? = some q → ∃ q0, sel[j]? = some q0 ∧ q0.1 = q.1 := by
    intro j q h2
    have h3 : (sel1.map (fun q => q.1))[j]? = some q.1 := by rw [List.getElem?_map, h2]; rfl
    rw [ha, List.getElem?_map] at h3
    cases hq : sel[j]? with
    | none => rw [hq] at h3; cases h3
    | some q0 => rw [hq] at h3; exact ⟨q0, rfl, Option.some.inj h3⟩
  have hcj : ∀ (j i : Nat) (q : Nat × va_E), isF[j]? = some i → sel[j]? = some q → fix[i]? = some q := by
    intro j i q h1 h2
    have h3 : (isF.map (fun i => fix[i]?))[j]? = some (some q) := by rw [hC, List.getElem?_map, h2]; rfl
    rw [List.getElem?_map, h1] at h3
    exact Option.some.inj h3
  have hcj' : ∀ (j : Nat) (q : Nat × va_E), sel[j]? = some q → ∃ i, isF[j]? = some i ∧ fix[i]? = some q := by
    intro j q h2
    have hl1 : isF.length = sel.length := by simpa using congrArg List.length hC
    have hj : j < isF.length := by rw [hl1]; exact (List.getElem?_eq_some_iff.mp h2).1
    exact ⟨isF[j], List.getElem?_eq_getElem hj, hcj j _ q (List.getElem?_eq_getElem hj) h2⟩
  have left : ∀ {i : Nat} {q : Nat × va_E}, fix[i]? = some q → (fix ++ L)[i]? = some q := fun {i q} h => by
    rw [List.getElem?_append_left (List.getElem?_eq_some_iff.mp h).1]; exact h
  have right : ∀ {k : Nat} {q : Nat × va_E}, fix.length ≤ k → L[k - fix.length]? = some q → (fix ++ L)[k]? = some q := fun {k q} h1 h2 => by
    rw [List.getElem?_append_right h1]; exact h2
  have adr : ∀ (k : Nat) (q : Nat × va_E), (cl_upd fix isF sel1 ++ L)[k]? = some q → ∃ q0, (fix ++ L)[k]? = some q0 ∧ q0.1 = q.1 := by
    intro k q hq
    rcases key k q hq with (⟨i, -, rfl, h⟩ | ⟨j, h1, h2⟩) | ⟨h1, h2⟩
    · exact ⟨q, left h, rfl⟩
    · obtain ⟨q0, h3, h4⟩ := hsel j q h2
      exact ⟨q0, left (hcj j k q0 h1 h3), h4⟩
    · exact ⟨q, right h1 h2, rfl⟩
  refine ⟨fun k q hq => ?_, fun i j x y hi hj hxy => ?_, fun k q hq => ?_⟩
  · rcases key k q hq with (⟨i, hn, rfl, h⟩ | ⟨j, h1, h2⟩) | ⟨h1, h2⟩
    · refine (hP k q (left h)).kept (hk _ (hP k q (left h)).lt (fun hA => ?_))
      rcases hA with ⟨j, e, hj⟩ | hge
      · by_cases hjs : j < sel.length
        · rw [List.getElem?_append_left hjs] at hj
          obtain ⟨i2, g1, g2⟩ := hcj' j (q.1, e) hj
          have : k = i2 := hD.1 k i2 q (q.1, e) (left h) (left g2) rfl
          subst this
          exact hn (List.mem_of_getElem? g1)
        · rw [List.getElem?_append_right (by omega)] at hj
          have : k = fix.length + (j - sel.length) := hD.1 k _ q (q.1, e) (left h) (tl_at hj) rfl
          have hkl := (List.getElem?_eq_some_iff.mp h).1
          omega
      · exact absurd (hP k q (left h)).lt (by omega)
    · exact hP1 j q (by rw [List.getElem?_append_left (List.getElem?_eq_some_iff.mp h2).1]; exact h2)
    · exact hP1 (sel1.length + (k - fix.length)) q (tl_at h2)
  · obtain ⟨x0, h1, h2⟩ := adr i x hi
    obtain ⟨y0, h3, h4⟩ := adr j y hj
    exact hD.1 i j x0 y0 h1 h3 (h2.trans (hxy.trans h4.symm))
  · obtain ⟨q0, h1, h2⟩ := adr k q hq
    rw [← h2]
    exact hD.2 k q0 h1
section MYT
variable {p : Program} {l : Launch} {e : Env} {R : Room} {s : State} {m : MethodId} {args : Array Value} {below : List Frame} {meth : Method} {c : Code} {H : Heap} {locs : List Loc} {cells slots : Nat} {Q : State → Prop}
variable {cc : ByteArray} {pc : Nat} {ls : Array Slot} {rest st0 : List Value} {A : Nat → Prop} {G : GG} {ws fix sel sel1 fix' L : va_W} {a : Array Value}
theorem tl_P (hP : va_P G.1 vwCl (fix ++ L) H) (isF : List Nat) (hC : isF.map (fun i => fix[i]?) = sel.map some) : va_P G.1 vwCl (sel ++ L) H := by
  have h := tl_C (L := L) hC
  intro k q hk
  have h2 : ((tl_is isF fix.length L.length).map (fun i => (fix ++ L)[i]?))[k]? = some (some q) := by rw [h, List.getElem?_map, hk]; rfl
  rw [List.getElem?_map] at h2
  cases hq : (tl_is isF fix.length L.length)[k]? with
  | none => rw [hq] at h2; cases h2
  | some i => rw [hq] at h2; exact hP i q (Option.some.inj h2)
theorem cl_vT (hP : va_P G.1 vwCl (fix ++ L) H) (hD : va_D A (fix ++ L)) (hS : va_S A s.heap H locs) (hF : ∀ q, va_A (sel ++ L) H.size q → A q) (isF : List Nat) (hC : isF.map (fun i => fix[i]?) = sel.map some) (ha : sel1.map (fun q => q.1) = sel.map (fun q => q.1)) (hw : cl_upd fix isF sel1 = fix')
    (hr : va_Run p l e R s m args below meth c H locs cells slots 0 0 (F0 m pc ls st0) rest (QV G (sel1 ++ L) (va_A (sel ++ L) H.size) a) (va_A (sel ++ L) H.size))
    (kk : ∀ (H1 : Heap) (locs1 : List Loc), va_P G.1 vwCl (fix' ++ L) H1 → va_D A (fix' ++ L) → va_S A s.heap H1 locs1 → W p l e R s m args below meth c H1 locs1 cells slots Q (F0 m (pc + 3) ls rest)) : W p l e R s m args below meth c H locs cells slots Q (F0 m pc ls st0) := by
  refine va_callv hr hS (fun q _ h => hF q h) hF (fun u t H1 locs1 ht hvm hw1 hB hz1 hk1 hS1 => ?_)
  obtain ⟨hP1, hK1, hD1⟩ := hB
  rw [ht] at hP1
  obtain ⟨hP2, hD2⟩ := tl_join hP hD isF hC ha hw hk1 hP1
  exact kk H1 locs1 hP2 hD2 hS1
/-- a reference of a known array comes into a row of Throws -/
theorem t_astq {v : Option Nat} {b n : Nat} {f : Nat → Option Nat} {i : Int32} (hx : p.tables.exec = Jvm.exec) (hb : c.code = cc) (hE : EV G A s s.heap) (hK : va_K G.1 vwCl (TY G) s) (hP : va_P G.1 vwCl ws H) (hD : va_D A ws) (hS : va_S A s.heap H locs) (q0 : Nat) (ha : ws[q0]? = some (aT G b n f)) (hv : ∀ q : Nat, v = some q → ∃ (k ci : Nat) (fs : List Value), isT ci ∧ ws[k]? = some (q, .inr (ci, fs))) (hin : vp_in i n) (hdg : decode cc pc = .ok (.aastore, 1))
    (kk : ∀ (H1 : Heap) (locs1 : List Loc), va_P G.1 vwCl (ws.set q0 (aT G b n (va_up f i.toNatClampNeg v))) H1 → va_D A (ws.set q0 (aT G b n (va_up f i.toNatClampNeg v))) → va_S A s.heap H1 locs1 → W p l e R s m args below meth c H1 locs1 cells slots Q (F0 m (pc + 1) ls rest)) : W p l e R s m args below meth c H locs cells slots Q (F0 m pc ls (va_rf v :: .int i :: .ref b :: rest)) := by
  cases v with
  | none => exact va_astqN (D := G.1) hx hb hK hP hD hS q0 2 ha rfl hin hdg kk
  | some q =>
    obtain ⟨k, ci, fs, hT, hk⟩ := hv q rfl
    refine va_astqM (D := G.1) hx hb hK hP hD hS q0 2 ha rfl (va_rAny hK hP hk (tC_at hT) ?_) hin hdg kk
    rcases hT with rfl | rfl | rfl | rfl | rfl | rfl | rfl
    · exact vb_asgC (hE.nw (.castable RX0 "HeadsByHair$Throw") (List.mem_append_left _ (by decide +kernel)))
    · exact vb_asgC (hE.nw (.castable RX1 "HeadsByHair$Throw") (List.mem_append_left _ (by decide +kernel)))
    · exact vb_asgC (hE.nw (.castable RX4 "HeadsByHair$Throw") (List.mem_append_left _ (by decide +kernel)))
    · exact vb_asgC (hE.nw (.castable RX5 "HeadsByHair$Throw") (List.mem_append_left _ (by decide +kernel)))
    · exact vb_asgS
    · exact vb_asgC (hE.nw (.castable RX9 "HeadsByHair$Throw") (List.mem_append_left _ (by decide +kernel)))
    · exact vb_asgC (hE.nw (.castable RX10 "HeadsByHair$Throw") (List.mem_append_left _ (by decide +kernel)))
end MYT
