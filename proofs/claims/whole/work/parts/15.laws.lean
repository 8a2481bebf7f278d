abbrev QR (G : GG) (w1 : va_W) (z : Option Nat) (A : Nat → Prop) : Array Value → State → Outcome → State → Prop := fun _ st oc t => oc = .returned (some (va_rf z)) ∧ cB G A w1 t ∧ va_F A st t
def CMr (l : Launch) (y : MethodName) (ws : List Cond) (rm : Room) (G : GG) (w w1 : va_W) (as : List Value) (z : Option Nat) : Prop := ∀ sz : Nat, Met l y ws rm (cP G w sz as) (QR G w1 z (va_A w sz)) 0 0 (va_A w sz)
section MYR
variable {p : Program} {l : Launch} {e : Env} {R : Room} {s : State} {m : MethodId} {args : Array Value} {below : List Frame} {meth : Method} {c : Code} {H : Heap} {locs : List Loc} {cells slots : Nat} {Q : State → Prop}
variable {cc : ByteArray} {pc : Nat} {ls : Array Slot} {rest st0 : List Value} {A : Nat → Prop} {G : GG} {ws wc w1 ws' : va_W} {a : Array Value}
theorem cm_retr {z : Option Nat} {ty : FieldType} (hx : p.tables.exec = Jvm.exec) (hb : c.code = cc) (hr : meth.sig.returnType = some ty) (hrt : ∃ n, ty = .object n) (hlk : meth.locks = false) (hK : va_K G.1 vwCl (TY G) s) (hP : va_P G.1 vwCl w1 H) (hD : va_D A w1) (hS : va_S A s.heap H locs) (hd : decode cc pc = .ok (.areturn, 1)) :
    W p l e R s m args below meth c H locs cells slots (MQ below (QR G w1 z A) args s cells slots A) (F0 m pc ls [va_rf z]) :=
  W.aret hx hb hr (Or.inl hrt) (va_rf_or z) (fun t ht hW => ⟨rfl, ⟨by rw [ht]; exact hP, va_K.moved hW.alike hK, hD⟩, hS.F ht⟩) hS.2.2 hd hlk
theorem cl_r {z : Option Nat} (hP : va_P G.1 vwCl ws H) (hD : va_D A ws) (hS : va_S A s.heap H locs) (hF : ∀ q, va_A wc H.size q → A q) (isC : List Nat) (hC : isC.map (fun i => ws[i]?) = wc.map some) (ha : w1.map (fun q => q.1) = wc.map (fun q => q.1)) (hw : cl_upd ws isC w1 = ws')
    (hr : va_Run p l e R s m args below meth c H locs cells slots 0 0 (F0 m pc ls st0) rest (QR G w1 z (va_A wc H.size) a) (va_A wc H.size))
    (kk : ∀ (H1 : Heap) (locs1 : List Loc), va_P G.1 vwCl ws' H1 → va_D A ws' → va_S A s.heap H1 locs1 → W p l e R s m args below meth c H1 locs1 cells slots Q (F0 m (pc + 3) ls (va_rf z :: rest))) : W p l e R s m args below meth c H locs cells slots Q (F0 m pc ls st0) := by
  intro T hT X
  obtain ⟨v, st₀, t, T', L, h0, X', hL, e1, e2, ⟨hv, ⟨hP1, hK1, hD1⟩, hz, hk⟩, st⟩ := hr T hT X
  cases hv
  rw [h0] at hz hk
  rw [← e1] at hP1
  obtain ⟨hP2, hD2⟩ := cl_join hP hD isC hC ha hw (H1 := T'.heap) (fun q h1 h2 => by rw [e1]; exact hk q h1 h2) hP1
  obtain ⟨t2, a1, b1⟩ := kk T'.heap (locs ++ L) hP2 hD2
    ⟨Nat.le_trans hS.1 (by rw [e1]; exact hz), fun q h1 h2 => by rw [e1, hk q (Nat.lt_of_lt_of_le h1 hS.1) (fun z => h2 (hF q z))]; exact hS.2.1 q h1 h2, fun q hq => by
      rcases List.mem_append.mp hq with h | h
      · exact hS.2.2 q h
      · exact hF _ (hL q h)⟩ T' rfl X'
  exact ⟨t2, st t2 a1, b1⟩
theorem t_inst9 {own : String} {index ct h : Nat} {fs : List Value} (hx : p.tables.exec = Jvm.exec) (hb : c.code = cc) (hown : s.vm.findClass own = some m.cls) (hlink : (Cond.classLink own index "HeadsByHair$Turning").before args s = true) (hE : EV G A s s.heap) (hK : va_K G.1 vwCl (TY G) s) (hP : va_P G.1 vwCl ws H) (q0 : Nat) (he : ws[q0]? = some (h, .inr (ct, fs))) (hT : isT ct) (hdg : decode cc pc = .ok (.instanceof index, 3)) (kk : W p l e R s m args below meth c H locs cells slots Q (F0 m (pc + 3) ls (.int (tIs9 ct) :: rest))) : W p l e R s m args below meth c H locs cells slots Q (F0 m pc ls (.ref h :: rest)) := by
  rcases hT with rfl | rfl | rfl | rfl | rfl | rfl | rfl
  · exact va_instNo (C := RX0) hx hb hown hlink (hE.nc RX0 "HeadsByHair$Turning" (by decide +kernel)) (va_recv hK hP (ci := 0) (q0 := q0) (q := (RX0, TX0, 5)) rfl he) hdg kk
  · exact va_instNo (C := RX1) hx hb hown hlink (hE.nc RX1 "HeadsByHair$Turning" (by decide +kernel)) (va_recv hK hP (ci := 1) (q0 := q0) (q := (RX1, TX1, 5)) rfl he) hdg kk
  · exact va_instY (C := RX4) hx hb hown hlink (hE.nw (.castable RX4 "HeadsByHair$Turning") (by decide +kernel)) (va_recv hK hP (ci := 4) (q0 := q0) (q := (RX4, TX4, 5)) rfl he) hdg kk
  · exact va_instNo (C := RX5) hx hb hown hlink (hE.nc RX5 "HeadsByHair$Turning" (by decide +kernel)) (va_recv hK hP (ci := 5) (q0 := q0) (q := (RX5, TX5, 5)) rfl he) hdg kk
  · exact va_instNo (C := RX7) hx hb hown hlink (hE.nc RX7 "HeadsByHair$Turning" (by decide +kernel)) (va_recv hK hP (ci := 7) (q0 := q0) (q := (RX7, TX7, 5)) rfl he) hdg kk
  · exact va_instE hx hb hown hlink (va_recv hK hP (ci := 9) (q0 := q0) (q := (RX9, TX9, 5)) rfl he) hdg kk
  · exact va_instY (C := RX10) hx hb hown hlink (hE.nw (.castable RX10 "HeadsByHair$Turning") (by decide +kernel)) (va_recv hK hP (ci := 10) (q0 := q0) (q := (RX10, TX10, 5)) rfl he) hdg kk
theorem t_inst10 {own : String} {index ct h : Nat} {fs : List Value} (hx : p.tables.exec = Jvm.exec) (hb : c.code = cc) (hown : s.vm.findClass own = some m.cls) (hlink : (Cond.classLink own index "HeadsByHair$Wobbling").before args s = true) (hE : EV G A s s.heap) (hK : va_K G.1 vwCl (TY G) s) (hP : va_P G.1 vwCl ws H) (q0 : Nat) (he : ws[q0]? = some (h, .inr (ct, fs))) (hT : isT ct) (hdg : decode cc pc = .ok (.instanceof index, 3)) (kk : W p l e R s m args below meth c H locs cells slots Q (F0 m (pc + 3) ls (.int (tIs10 ct) :: rest))) : W p l e R s m args below meth c H locs cells slots Q (F0 m pc ls (.ref h :: rest)) := by
  rcases hT with rfl | rfl | rfl | rfl | rfl | rfl | rfl
  · exact va_instNo (C := RX0) hx hb hown hlink (hE.nc RX0 "HeadsByHair$Wobbling" (by decide +kernel)) (va_recv hK hP (ci := 0) (q0 := q0) (q := (RX0, TX0, 5)) rfl he) hdg kk
  · exact va_instNo (C := RX1) hx hb hown hlink (hE.nc RX1 "HeadsByHair$Wobbling" (by decide +kernel)) (va_recv hK hP (ci := 1) (q0 := q0) (q := (RX1, TX1, 5)) rfl he) hdg kk
  · exact va_instY (C := RX4) hx hb hown hlink (hE.nw (.castable RX4 "HeadsByHair$Wobbling") (by decide +kernel)) (va_recv hK hP (ci := 4) (q0 := q0) (q := (RX4, TX4, 5)) rfl he) hdg kk
  · exact va_instNo (C := RX5) hx hb hown hlink (hE.nc RX5 "HeadsByHair$Wobbling" (by decide +kernel)) (va_recv hK hP (ci := 5) (q0 := q0) (q := (RX5, TX5, 5)) rfl he) hdg kk
  · exact va_instNo (C := RX7) hx hb hown hlink (hE.nc RX7 "HeadsByHair$Wobbling" (by decide +kernel)) (va_recv hK hP (ci := 7) (q0 := q0) (q := (RX7, TX7, 5)) rfl he) hdg kk
  · exact va_instNo (C := RX9) hx hb hown hlink (hE.nc RX9 "HeadsByHair$Wobbling" (by decide +kernel)) (va_recv hK hP (ci := 9) (q0 := q0) (q := (RX9, TX9, 5)) rfl he) hdg kk
  · exact va_instE hx hb hown hlink (va_recv hK hP (ci := 10) (q0 := q0) (q := (RX10, TX10, 5)) rfl he) hdg kk
theorem t_inst0 {own : String} {index ct h : Nat} {fs : List Value} (hx : p.tables.exec = Jvm.exec) (hb : c.code = cc) (hown : s.vm.findClass own = some m.cls) (hlink : (Cond.classLink own index "HeadsByHair$Caught").before args s = true) (hE : EV G A s s.heap) (hK : va_K G.1 vwCl (TY G) s) (hP : va_P G.1 vwCl ws H) (q0 : Nat) (he : ws[q0]? = some (h, .inr (ct, fs))) (hT : isT ct) (hdg : decode cc pc = .ok (.instanceof index, 3)) (kk : W p l e R s m args below meth c H locs cells slots Q (F0 m (pc + 3) ls (.int (tIs0 ct) :: rest))) : W p l e R s m args below meth c H locs cells slots Q (F0 m pc ls (.ref h :: rest)) := by
  rcases hT with rfl | rfl | rfl | rfl | rfl | rfl | rfl
  · exact va_instE hx hb hown hlink (va_recv hK hP (ci := 0) (q0 := q0) (q := (RX0, TX0, 5)) rfl he) hdg kk
  · exact va_instY (C := RX1) hx hb hown hlink (hE.nw (.castable RX1 "HeadsByHair$Caught") (by decide +kernel)) (va_recv hK hP (ci := 1) (q0 := q0) (q := (RX1, TX1, 5)) rfl he) hdg kk
  · exact va_instNo (C := RX4) hx hb hown hlink (hE.nc RX4 "HeadsByHair$Caught" (by decide +kernel)) (va_recv hK hP (ci := 4) (q0 := q0) (q := (RX4, TX4, 5)) rfl he) hdg kk
  · exact va_instNo (C := RX5) hx hb hown hlink (hE.nc RX5 "HeadsByHair$Caught" (by decide +kernel)) (va_recv hK hP (ci := 5) (q0 := q0) (q := (RX5, TX5, 5)) rfl he) hdg kk
  · exact va_instNo (C := RX7) hx hb hown hlink (hE.nc RX7 "HeadsByHair$Caught" (by decide +kernel)) (va_recv hK hP (ci := 7) (q0 := q0) (q := (RX7, TX7, 5)) rfl he) hdg kk
  · exact va_instNo (C := RX9) hx hb hown hlink (hE.nc RX9 "HeadsByHair$Caught" (by decide +kernel)) (va_recv hK hP (ci := 9) (q0 := q0) (q := (RX9, TX9, 5)) rfl he) hdg kk
  · exact va_instNo (C := RX10) hx hb hown hlink (hE.nc RX10 "HeadsByHair$Caught" (by decide +kernel)) (va_recv hK hP (ci := 10) (q0 := q0) (q := (RX10, TX10, 5)) rfl he) hdg kk
theorem t_inst1 {own : String} {index ct h : Nat} {fs : List Value} (hx : p.tables.exec = Jvm.exec) (hb : c.code = cc) (hown : s.vm.findClass own = some m.cls) (hlink : (Cond.classLink own index "HeadsByHair$Fallen").before args s = true) (hE : EV G A s s.heap) (hK : va_K G.1 vwCl (TY G) s) (hP : va_P G.1 vwCl ws H) (q0 : Nat) (he : ws[q0]? = some (h, .inr (ct, fs))) (hT : isT ct) (hdg : decode cc pc = .ok (.instanceof index, 3)) (kk : W p l e R s m args below meth c H locs cells slots Q (F0 m (pc + 3) ls (.int (tIs1 ct) :: rest))) : W p l e R s m args below meth c H locs cells slots Q (F0 m pc ls (.ref h :: rest)) := by
  rcases hT with rfl | rfl | rfl | rfl | rfl | rfl | rfl
  · exact va_instNo (C := RX0) hx hb hown hlink (hE.nc RX0 "HeadsByHair$Fallen" (by decide +kernel)) (va_recv hK hP (ci := 0) (q0 := q0) (q := (RX0, TX0, 5)) rfl he) hdg kk
  · exact va_instE hx hb hown hlink (va_recv hK hP (ci := 1) (q0 := q0) (q := (RX1, TX1, 5)) rfl he) hdg kk
  · exact va_instNo (C := RX4) hx hb hown hlink (hE.nc RX4 "HeadsByHair$Fallen" (by decide +kernel)) (va_recv hK hP (ci := 4) (q0 := q0) (q := (RX4, TX4, 5)) rfl he) hdg kk
  · exact va_instNo (C := RX5) hx hb hown hlink (hE.nc RX5 "HeadsByHair$Fallen" (by decide +kernel)) (va_recv hK hP (ci := 5) (q0 := q0) (q := (RX5, TX5, 5)) rfl he) hdg kk
  · exact va_instNo (C := RX7) hx hb hown hlink (hE.nc RX7 "HeadsByHair$Fallen" (by decide +kernel)) (va_recv hK hP (ci := 7) (q0 := q0) (q := (RX7, TX7, 5)) rfl he) hdg kk
  · exact va_instNo (C := RX9) hx hb hown hlink (hE.nc RX9 "HeadsByHair$Fallen" (by decide +kernel)) (va_recv hK hP (ci := 9) (q0 := q0) (q := (RX9, TX9, 5)) rfl he) hdg kk
  · exact va_instNo (C := RX10) hx hb hown hlink (hE.nc RX10 "HeadsByHair$Fallen" (by decide +kernel)) (va_recv hK hP (ci := 10) (q0 := q0) (q := (RX10, TX10, 5)) rfl he) hdg kk
theorem t_inst5 {own : String} {index ct h : Nat} {fs : List Value} (hx : p.tables.exec = Jvm.exec) (hb : c.code = cc) (hown : s.vm.findClass own = some m.cls) (hlink : (Cond.classLink own index "HeadsByHair$Spun").before args s = true) (hE : EV G A s s.heap) (hK : va_K G.1 vwCl (TY G) s) (hP : va_P G.1 vwCl ws H) (q0 : Nat) (he : ws[q0]? = some (h, .inr (ct, fs))) (hT : isT ct) (hdg : decode cc pc = .ok (.instanceof index, 3)) (kk : W p l e R s m args below meth c H locs cells slots Q (F0 m (pc + 3) ls (.int (tIs5 ct) :: rest))) : W p l e R s m args below meth c H locs cells slots Q (F0 m pc ls (.ref h :: rest)) := by
  rcases hT with rfl | rfl | rfl | rfl | rfl | rfl | rfl
  · exact va_instNo (C := RX0) hx hb hown hlink (hE.nc RX0 "HeadsByHair$Spun" (by decide +kernel)) (va_recv hK hP (ci := 0) (q0 := q0) (q := (RX0, TX0, 5)) rfl he) hdg kk
  · exact va_instNo (C := RX1) hx hb hown hlink (hE.nc RX1 "HeadsByHair$Spun" (by decide +kernel)) (va_recv hK hP (ci := 1) (q0 := q0) (q := (RX1, TX1, 5)) rfl he) hdg kk
  · exact va_instNo (C := RX4) hx hb hown hlink (hE.nc RX4 "HeadsByHair$Spun" (by decide +kernel)) (va_recv hK hP (ci := 4) (q0 := q0) (q := (RX4, TX4, 5)) rfl he) hdg kk
  · exact va_instE hx hb hown hlink (va_recv hK hP (ci := 5) (q0 := q0) (q := (RX5, TX5, 5)) rfl he) hdg kk
  · exact va_instNo (C := RX7) hx hb hown hlink (hE.nc RX7 "HeadsByHair$Spun" (by decide +kernel)) (va_recv hK hP (ci := 7) (q0 := q0) (q := (RX7, TX7, 5)) rfl he) hdg kk
  · exact va_instNo (C := RX9) hx hb hown hlink (hE.nc RX9 "HeadsByHair$Spun" (by decide +kernel)) (va_recv hK hP (ci := 9) (q0 := q0) (q := (RX9, TX9, 5)) rfl he) hdg kk
  · exact va_instNo (C := RX10) hx hb hown hlink (hE.nc RX10 "HeadsByHair$Spun" (by decide +kernel)) (va_recv hK hP (ci := 10) (q0 := q0) (q := (RX10, TX10, 5)) rfl he) hdg kk
theorem t_inst4 {own : String} {index ct h : Nat} {fs : List Value} (hx : p.tables.exec = Jvm.exec) (hb : c.code = cc) (hown : s.vm.findClass own = some m.cls) (hlink : (Cond.classLink own index "HeadsByHair$Seeming").before args s = true) (hE : EV G A s s.heap) (hK : va_K G.1 vwCl (TY G) s) (hP : va_P G.1 vwCl ws H) (q0 : Nat) (he : ws[q0]? = some (h, .inr (ct, fs))) (hT : isT ct) (hdg : decode cc pc = .ok (.instanceof index, 3)) (kk : W p l e R s m args below meth c H locs cells slots Q (F0 m (pc + 3) ls (.int (tIs4 ct) :: rest))) : W p l e R s m args below meth c H locs cells slots Q (F0 m pc ls (.ref h :: rest)) := by
  rcases hT with rfl | rfl | rfl | rfl | rfl | rfl | rfl
  · exact va_instNo (C := RX0) hx hb hown hlink (hE.nc RX0 "HeadsByHair$Seeming" (by decide +kernel)) (va_recv hK hP (ci := 0) (q0 := q0) (q := (RX0, TX0, 5)) rfl he) hdg kk
  · exact va_instNo (C := RX1) hx hb hown hlink (hE.nc RX1 "HeadsByHair$Seeming" (by decide +kernel)) (va_recv hK hP (ci := 1) (q0 := q0) (q := (RX1, TX1, 5)) rfl he) hdg kk
  · exact va_instE hx hb hown hlink (va_recv hK hP (ci := 4) (q0 := q0) (q := (RX4, TX4, 5)) rfl he) hdg kk
  · exact va_instNo (C := RX5) hx hb hown hlink (hE.nc RX5 "HeadsByHair$Seeming" (by decide +kernel)) (va_recv hK hP (ci := 5) (q0 := q0) (q := (RX5, TX5, 5)) rfl he) hdg kk
  · exact va_instNo (C := RX7) hx hb hown hlink (hE.nc RX7 "HeadsByHair$Seeming" (by decide +kernel)) (va_recv hK hP (ci := 7) (q0 := q0) (q := (RX7, TX7, 5)) rfl he) hdg kk
  · exact va_instNo (C := RX9) hx hb hown hlink (hE.nc RX9 "HeadsByHair$Seeming" (by decide +kernel)) (va_recv hK hP (ci := 9) (q0 := q0) (q := (RX9, TX9, 5)) rfl he) hdg kk
  · exact va_instNo (C := RX10) hx hb hown hlink (hE.nc RX10 "HeadsByHair$Seeming" (by decide +kernel)) (va_recv hK hP (ci := 10) (q0 := q0) (q := (RX10, TX10, 5)) rfl he) hdg kk
end MYR
/-! HeadsByHair.lawOf(I)LHeadsByHair$Throw; -/
abbrev rm_X11_lawOf : Room := { frames := 1, cells := 0, slots := 0, locals := 22 }
set_option maxHeartbeats 4000000 in
set_option maxRecDepth 100000 in
theorem c_X11_lawOf (l : Launch) (G : GG) (h a_now a_kept a_reader a_flight a_latest a_now_edge a_now_bend a_now_rise a_now_wandering a_now_thrown a_now_alike a_now_law a_now_tape a_now_side : Nat) (x_isKept x_now_coins x_now_hands x_now_laws x_now_bytes x_now_sides : Int32) (f_now_law : Nat → Option Nat) (l1 : Int32) (z : Option Nat) (hF : fX11_lawOf x_now_laws f_now_law l1 = some (z)) : CMr l yX11_lawOf wsX11_lawOf rm_X11_lawOf G [o11 h a_now a_kept x_isKept a_reader a_flight a_latest, o6 a_now x_now_coins x_now_hands x_now_laws x_now_bytes x_now_sides a_now_edge a_now_bend a_now_rise a_now_wandering a_now_thrown a_now_alike a_now_law a_now_tape a_now_side, aT G a_now_law 8 f_now_law] [o11 h a_now a_kept x_isKept a_reader a_flight a_latest, o6 a_now x_now_coins x_now_hands x_now_laws x_now_bytes x_now_sides a_now_edge a_now_bend a_now_rise a_now_wandering a_now_thrown a_now_alike a_now_law a_now_tape a_now_side, aT G a_now_law 8 f_now_law] [.ref h, .int l1] z := by
  refine cm_start (cc := cX11_lawOf) (maxL := 2) (ret := (some (.object "HeadsByHair$Throw"))) (Qc := fun A => QR G [o11 h a_now a_kept x_isKept a_reader a_flight a_latest, o6 a_now x_now_coins x_now_hands x_now_laws x_now_bytes x_now_sides a_now_edge a_now_bend a_now_rise a_now_wandering a_now_thrown a_now_alike a_now_law a_now_tape a_now_side, aT G a_now_law 8 f_now_law] z A) (by decide +kernel) rfl (Nat.le_of_ble_eq_true rfl) ?_
  intro p e s m args below meth c A hx hb hr hlk hml hown hnm hts hA H locs hP hK hD hE hS ls hl
  have hown : s.vm.findClass RX11 = some m.cls := hown
  have hl : lv_has ls 2 [(0, .ref h), (1, .int l1)] := hl
  have hin11 : ∀ w ∈ wsX110, w ∈ wsX11_lawOf := by decide +kernel
  have hin6 : ∀ w ∈ wsX60, w ∈ wsX11_lawOf := by decide +kernel
  have lk_12 := hts (.fieldLink RX11 12 "HeadsByHair" "now" "LHeadsByHair$Stock;") (by decide +kernel)
  have lk_95 := va_Nw.use (A := args) rfl (hE.nw (.fieldLinkNest "HeadsByHair" 95 "HeadsByHair$Stock" "laws" "I" "HeadsByHair") (by decide +kernel))
  have lk_105 := va_Nw.use (A := args) rfl (hE.nw (.fieldLinkNest "HeadsByHair" 105 "HeadsByHair$Stock" "law" "[LHeadsByHair$Throw;" "HeadsByHair") (by decide +kernel))
  revert hF
  intro hF
  unfold fX11_lawOf at hF
  refine lv_iload_n hx hb dX11_lawOf_0 rfl (lv_at hl 1 rfl) ?_
  refine lv_iconst (v := 0) hx hb dX11_lawOf_1 (by decide) ?_
  refine lv_aload_n hx hb dX11_lawOf_2 rfl (lv_at hl 0 rfl) ?_
  refine va_get (D := G.1) (ci := 11) (v := .ref a_now) (C := RX11) (T := TX11) (N := 6) hx hb hts hin11 hown hK hP 0 rfl rfl 0 (by decide) lk_12 (fun _ h9 => h9) rfl dX11_lawOf_3 ?_
  refine va_getN (D := G.1) (ci := 6) (v := .int x_now_laws) (C := RX6) (T := TX6) (N := 14) hx hb hts hin6 hown hK hP 1 rfl rfl 2 (by decide) lk_95 (fun _ h9 => h9) rfl dX11_lawOf_6 ?_
  refine lv_iconst (v := 1) hx hb dX11_lawOf_9 (by decide) ?_
  refine lv_isub hx hb dX11_lawOf_10 ?_
  obtain ⟨r1, hc2, hF⟩ := bd_some hF
  have hPc := hP.sub (ws' := []) [] rfl
  have hDc := hD.sub (ws' := []) [] (by decide) rfl
  have hFc := va_free (wc := []) hD hS hA [] rfl
  have hM := c_X11_isWithin l G l1 (0 : Int32) (x_now_laws - 1) r1 hc2 H.size
  refine cl_i (w1 := []) (ws' := [o11 h a_now a_kept x_isKept a_reader a_flight a_latest, o6 a_now x_now_coins x_now_hands x_now_laws x_now_bytes x_now_sides a_now_edge a_now_bend a_now_rise a_now_wandering a_now_thrown a_now_alike a_now_law a_now_tape a_now_side, aT G a_now_law 8 f_now_law]) hP hD hS hFc [] rfl rfl rfl (va_runS (As := [.int l1, .int 0, .int (x_now_laws - 1)]) (rest := []) ⟨hx, hb, hml, hown, hts⟩ hM (va_cwS 3 hts gX11_lawOf_X11_isWithin rfl rfl rfl (by decide +kernel) ⟨Nat.le_of_ble_eq_true rfl, Nat.le_of_ble_eq_true rfl⟩) (cp_S hK hE hS hPc hDc hFc) rfl rfl hl.1 rfl (lv_room (Nat.le_of_ble_eq_true rfl)) dX11_lawOf_11 ⟨Nat.zero_le _, Nat.zero_le _⟩) (fun H locs hP hD hS => ?_)
  refine lv_if_eq (tgt := 29) hx hb dX11_lawOf_14 (by decide) (fun c3 => ?_) (fun c3 => ?_)
  · rw [if_pos c3] at hF
    refine lv_null hx hb dX11_lawOf_29 ?_
    injection hF with hz
    subst hz
    exact cm_retr (z := none) hx hb hr ⟨_, rfl⟩ hlk hK hP hD hS dX11_lawOf_30
  rw [if_neg c3] at hF
  refine lv_aload_n hx hb dX11_lawOf_17 rfl (lv_at hl 0 rfl) ?_
  refine va_get (D := G.1) (ci := 11) (v := .ref a_now) (C := RX11) (T := TX11) (N := 6) hx hb hts hin11 hown hK hP 0 rfl rfl 0 (by decide) lk_12 (fun _ h9 => h9) rfl dX11_lawOf_18 ?_
  refine va_getN (D := G.1) (ci := 6) (v := .ref a_now_law) (C := RX6) (T := TX6) (N := 14) hx hb hts hin6 hown hK hP 1 rfl rfl 11 (by decide) lk_105 (fun _ h9 => h9) rfl dX11_lawOf_21 ?_
  refine lv_iload_n hx hb dX11_lawOf_24 rfl (lv_at hl 1 rfl) ?_
  refine W.eq (g2 := F0 m 25 ls [.int l1, .ref a_now_law]) rfl ?_
  obtain ⟨hi4, hF⟩ := ck_some hF
  refine va_aldq (D := G.1) hx hb hK hP 2 2 rfl rfl hi4 dX11_lawOf_25 ?_
  refine lv_goto (tgt := 30) hx hb dX11_lawOf_26 (by decide) ?_
  injection hF with hz
  subst hz
  exact cm_retr (z := (f_now_law l1.toNatClampNeg)) hx hb hr ⟨_, rfl⟩ hlk hK hP hD hS dX11_lawOf_30
/-! HeadsByHair.isOfKind(LHeadsByHair$Throw;I)Z -/
abbrev rm_X11_isOfKind : Room := { frames := 0, cells := 0, slots := 0, locals := 0 }
set_option maxHeartbeats 4000000 in
set_option maxRecDepth 100000 in
theorem c_X11_isOfKind (l : Launch) (G : GG) (c_p0 : Nat) (hc_p0 : c_p0 = 0 ∨ c_p0 = 1 ∨ c_p0 = 4 ∨ c_p0 = 5 ∨ c_p0 = 7 ∨ c_p0 = 9 ∨ c_p0 = 10) (a_p0 a_p0_steps : Nat) (x_p0_kind x_p0_number x_p0_v x_p0_caught : Int32) (l1 : Int32) (z : Int32) (hF : fX11_isOfKind c_p0 l1 = some (z)) : CMi l yX11_isOfKind wsX11_isOfKind rm_X11_isOfKind G [oT c_p0 a_p0 x_p0_kind x_p0_number x_p0_v x_p0_caught a_p0_steps] [oT c_p0 a_p0 x_p0_kind x_p0_number x_p0_v x_p0_caught a_p0_steps] [.ref a_p0, .int l1] z := by
  refine cm_start (cc := cX11_isOfKind) (maxL := 2) (ret := (some .boolean)) (Qc := fun A => QI G [oT c_p0 a_p0 x_p0_kind x_p0_number x_p0_v x_p0_caught a_p0_steps] z A) (by decide +kernel) rfl (Nat.le_of_ble_eq_true rfl) ?_
  intro p e s m args below meth c A hx hb hr hlk hml hown hnm hts hA H locs hP hK hD hE hS ls hl
  have hown : s.vm.findClass RX11 = some m.cls := hown
  have hl : lv_has ls 2 [(0, .ref a_p0), (1, .int l1)] := hl
  have hT_c_p0 : isT c_p0 := by unfold isT; omega
  revert hF
  intro hF
  unfold fX11_isOfKind at hF
  refine lv_iload_n hx hb dX11_isOfKind_0 rfl (lv_at hl 1 rfl) ?_
  by_cases c1 : l1 = 1
  · rw [if_pos c1] at hF
    refine lv_eqi c1 ?_
    refine lv_tableIn (tgt := 40) (off := 39) hx hb dX11_isOfKind_1 (by decide) (by decide) (by decide) (by decide) ?_
    refine lv_aload_n hx hb dX11_isOfKind_40 rfl (lv_at hl 0 rfl) ?_
    refine t_inst9 hx hb hown (hts (.classLink RX11 248 "HeadsByHair$Turning") (by decide +kernel)) hE hK hP 0 rfl hT_c_p0 dX11_isOfKind_41 ?_
    obtain ⟨hb2, hF⟩ := ck_some hF
    injection hF with hz
    subst hz
    exact cm_reti hx hb hr (nb_ok hb2).1 hlk hK hP hD hS dX11_isOfKind_44
  rw [if_neg c1] at hF
  by_cases c3 : l1 = 2
  · rw [if_pos c3] at hF
    refine lv_eqi c3 ?_
    refine lv_tableIn (tgt := 45) (off := 44) hx hb dX11_isOfKind_1 (by decide) (by decide) (by decide) (by decide) ?_
    refine lv_aload_n hx hb dX11_isOfKind_45 rfl (lv_at hl 0 rfl) ?_
    refine t_inst10 hx hb hown (hts (.classLink RX11 253 "HeadsByHair$Wobbling") (by decide +kernel)) hE hK hP 0 rfl hT_c_p0 dX11_isOfKind_46 ?_
    obtain ⟨hb4, hF⟩ := ck_some hF
    injection hF with hz
    subst hz
    exact cm_reti hx hb hr (nb_ok hb4).1 hlk hK hP hD hS dX11_isOfKind_49
  rw [if_neg c3] at hF
  by_cases c5 : l1 = 3
  · rw [if_pos c5] at hF
    refine lv_eqi c5 ?_
    refine lv_tableIn (tgt := 50) (off := 49) hx hb dX11_isOfKind_1 (by decide) (by decide) (by decide) (by decide) ?_
    refine lv_aload_n hx hb dX11_isOfKind_50 rfl (lv_at hl 0 rfl) ?_
    refine t_inst0 hx hb hown (hts (.classLink RX11 256 "HeadsByHair$Caught") (by decide +kernel)) hE hK hP 0 rfl hT_c_p0 dX11_isOfKind_51 ?_
    obtain ⟨hb6, hF⟩ := ck_some hF
    injection hF with hz
    subst hz
    exact cm_reti hx hb hr (nb_ok hb6).1 hlk hK hP hD hS dX11_isOfKind_54
  rw [if_neg c5] at hF
  by_cases c7 : l1 = 4
  · rw [if_pos c7] at hF
    refine lv_eqi c7 ?_
    refine lv_tableIn (tgt := 55) (off := 54) hx hb dX11_isOfKind_1 (by decide) (by decide) (by decide) (by decide) ?_
    refine lv_aload_n hx hb dX11_isOfKind_55 rfl (lv_at hl 0 rfl) ?_
    refine t_inst1 hx hb hown (hts (.classLink RX11 259 "HeadsByHair$Fallen") (by decide +kernel)) hE hK hP 0 rfl hT_c_p0 dX11_isOfKind_56 ?_
    obtain ⟨hb8, hF⟩ := ck_some hF
    injection hF with hz
    subst hz
    exact cm_reti hx hb hr (nb_ok hb8).1 hlk hK hP hD hS dX11_isOfKind_59
  rw [if_neg c7] at hF
  by_cases c9 : l1 = 5
  · rw [if_pos c9] at hF
    refine lv_eqi c9 ?_
    refine lv_tableIn (tgt := 60) (off := 59) hx hb dX11_isOfKind_1 (by decide) (by decide) (by decide) (by decide) ?_
    refine lv_aload_n hx hb dX11_isOfKind_60 rfl (lv_at hl 0 rfl) ?_
    refine t_inst5 hx hb hown (hts (.classLink RX11 262 "HeadsByHair$Spun") (by decide +kernel)) hE hK hP 0 rfl hT_c_p0 dX11_isOfKind_61 ?_
    obtain ⟨hb10, hF⟩ := ck_some hF
    injection hF with hz
    subst hz
    exact cm_reti hx hb hr (nb_ok hb10).1 hlk hK hP hD hS dX11_isOfKind_64
  rw [if_neg c9] at hF
  by_cases c11 : l1 = 6
  · rw [if_pos c11] at hF
    refine lv_eqi c11 ?_
    refine lv_tableIn (tgt := 65) (off := 64) hx hb dX11_isOfKind_1 (by decide) (by decide) (by decide) (by decide) ?_
    refine lv_aload_n hx hb dX11_isOfKind_65 rfl (lv_at hl 0 rfl) ?_
    refine t_inst4 hx hb hown (hts (.classLink RX11 265 "HeadsByHair$Seeming") (by decide +kernel)) hE hK hP 0 rfl hT_c_p0 dX11_isOfKind_66 ?_
    obtain ⟨hb12, hF⟩ := ck_some hF
    injection hF with hz
    subst hz
    exact cm_reti hx hb hr (nb_ok hb12).1 hlk hK hP hD hS dX11_isOfKind_69
  rw [if_neg c11] at hF
  refine lv_tableOut (tgt := 70) hx hb dX11_isOfKind_1 (by have a0 := lv_neT (k := 1) (a := 1) c1 (by decide); have a1 := lv_neT (k := 2) (a := 2) c3 (by decide); have a2 := lv_neT (k := 3) (a := 3) c5 (by decide); have a3 := lv_neT (k := 4) (a := 4) c7 (by decide); have a4 := lv_neT (k := 5) (a := 5) c9 (by decide); have a5 := lv_neT (k := 6) (a := 6) c11 (by decide); omega) (by decide) ?_
  refine lv_iconst (v := 1) hx hb dX11_isOfKind_70 (by decide) ?_
  injection hF with hz
  subst hz
  exact cm_reti hx hb hr (by decide) hlk hK hP hD hS dX11_isOfKind_71
