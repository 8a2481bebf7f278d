/-! the base of all contracts: globals, what is carried beside the worlds, starts, ends and calls -/
/-- classes and slots; the array classes of int, boolean, Throw; the String constants' addresses and their bytes' -/
abbrev GG : Type := va_G × (ClassId × ClassId × ClassId) × (Nat → Nat) × (Nat → Nat)
abbrev gI (G : GG) : ClassId := G.2.1.1
abbrev gZ (G : GG) : ClassId := G.2.1.2.1
abbrev gT (G : GG) : ClassId := G.2.1.2.2
abbrev TY (G : GG) : List (ClassId × FieldType) := [(gI G, .int), (gZ G, .boolean), (gT G, .object "HeadsByHair$Throw")]
def nw_nest : List Cond := [.methodLinkNest "HeadsByHair" 11 ⟨"HeadsByHair$Stock", "<init>", "()V"⟩ "HeadsByHair",
  .fieldLinkNest "HeadsByHair" 46 "HeadsByHair$Stock" "coins" "I" "HeadsByHair",
  .fieldLinkNest "HeadsByHair" 57 "HeadsByHair$Stock" "hands" "I" "HeadsByHair",
  .fieldLinkNest "HeadsByHair" 95 "HeadsByHair$Stock" "laws" "I" "HeadsByHair",
  .fieldLinkNest "HeadsByHair" 89 "HeadsByHair$Stock" "bytes" "I" "HeadsByHair",
  .fieldLinkNest "HeadsByHair" 202 "HeadsByHair$Stock" "sides" "I" "HeadsByHair",
  .fieldLinkNest "HeadsByHair" 50 "HeadsByHair$Stock" "edge" "[I" "HeadsByHair",
  .fieldLinkNest "HeadsByHair" 54 "HeadsByHair$Stock" "bend" "[I" "HeadsByHair",
  .fieldLinkNest "HeadsByHair" 60 "HeadsByHair$Stock" "rise" "[I" "HeadsByHair",
  .fieldLinkNest "HeadsByHair" 63 "HeadsByHair$Stock" "wandering" "[I" "HeadsByHair",
  .fieldLinkNest "HeadsByHair" 83 "HeadsByHair$Stock" "thrown" "[I" "HeadsByHair",
  .fieldLinkNest "HeadsByHair" 86 "HeadsByHair$Stock" "alike" "[I" "HeadsByHair",
  .fieldLinkNest "HeadsByHair" 105 "HeadsByHair$Stock" "law" "[LHeadsByHair$Throw;" "HeadsByHair",
  .fieldLinkNest "HeadsByHair" 92 "HeadsByHair$Stock" "tape" "[I" "HeadsByHair",
  .fieldLinkNest "HeadsByHair" 205 "HeadsByHair$Stock" "side" "[I" "HeadsByHair",
  .methodLinkNest "HeadsByHair" 23 ⟨"HeadsByHair$Reader", "<init>", "()V"⟩ "HeadsByHair",
  .fieldLinkNest "HeadsByHair$Throw" 25 "HeadsByHair$Reader" "steps" "[I" "HeadsByHair",
  .fieldLinkNest "HeadsByHair" 102 "HeadsByHair$Reader" "place" "I" "HeadsByHair",
  .fieldLinkNest "HeadsByHair$Throw" 29 "HeadsByHair$Reader" "stepCount" "I" "HeadsByHair",
  .fieldLinkNest "HeadsByHair$Throw" 19 "HeadsByHair$Reader" "caught" "I" "HeadsByHair",
  .methodLinkNest "HeadsByHair" 30 ⟨"HeadsByHair$Flight", "<init>", "()V"⟩ "HeadsByHair",
  .fieldLinkNest "HeadsByHair" 269 "HeadsByHair$Flight" "hand" "I" "HeadsByHair",
  .fieldLinkNest "HeadsByHair$Spun" 9 "HeadsByHair$Flight" "edge" "I" "HeadsByHair",
  .fieldLinkNest "HeadsByHair" 272 "HeadsByHair$Flight" "edge" "I" "HeadsByHair",
  .fieldLinkNest "HeadsByHair$Fallen" 23 "HeadsByHair$Flight" "bend" "I" "HeadsByHair",
  .fieldLinkNest "HeadsByHair" 274 "HeadsByHair$Flight" "bend" "I" "HeadsByHair",
  .fieldLinkNest "HeadsByHair" 276 "HeadsByHair$Flight" "rise" "I" "HeadsByHair",
  .fieldLinkNest "HeadsByHair" 132 "HeadsByHair$Flight" "last" "I" "HeadsByHair",
  .fieldLinkNest "HeadsByHair" 278 "HeadsByHair$Flight" "tick" "I" "HeadsByHair",
  .fieldLinkNest "HeadsByHair$Caught" 9 "HeadsByHair$Flight" "angle" "I" "HeadsByHair",
  .fieldLinkNest "HeadsByHair$Wobbling" 9 "HeadsByHair$Flight" "angle" "I" "HeadsByHair",
  .fieldLinkNest "HeadsByHair$Turning" 9 "HeadsByHair$Flight" "angle" "I" "HeadsByHair",
  .fieldLinkNest "HeadsByHair" 146 "HeadsByHair$Flight" "angle" "I" "HeadsByHair",
  .fieldLinkNest "HeadsByHair$Seeming" 7 "HeadsByHair$Flight" "lean" "I" "HeadsByHair",
  .fieldLinkNest "HeadsByHair$Wobbling" 15 "HeadsByHair$Flight" "lean" "I" "HeadsByHair",
  .fieldLinkNest "HeadsByHair" 281 "HeadsByHair$Flight" "lean" "I" "HeadsByHair",
  .methodLinkNest "HeadsByHair" 37 ⟨"HeadsByHair$Trace", "<init>", "()V"⟩ "HeadsByHair",
  .fieldLinkNest "HeadsByHair" 233 "HeadsByHair$Trace" "body" "[I" "HeadsByHair",
  .fieldLinkNest "HeadsByHair" 220 "HeadsByHair$Trace" "ran" "I" "HeadsByHair",
  .methodLinkNest "HeadsByHair" 74 ⟨"HeadsByHair$Stock", "allThrown", "(I)I"⟩ "HeadsByHair",
  .methodLinkNest "HeadsByHair" 77 ⟨"HeadsByHair$Stock", "allAlike", "(I)I"⟩ "HeadsByHair",
  .methodLinkNest "HeadsByHair" 98 ⟨"HeadsByHair$Reader", "reads", "([II)Z"⟩ "HeadsByHair",
  .methodLinkNest "HeadsByHair$Reader" 91 ⟨"HeadsByHair", "isWithin", "(III)Z"⟩ "HeadsByHair",
  .methodLinkNest "HeadsByHair" 138 ⟨"HeadsByHair$Flight", "goOn", "([I)V"⟩ "HeadsByHair",
  .methodLinkNest "HeadsByHair$Caught" 21 ⟨"HeadsByHair$Flight", "isAtEnd", "()Z"⟩ "HeadsByHair",
  .methodLinkNest "HeadsByHair$Fallen" 11 ⟨"HeadsByHair$Flight", "isAtEnd", "()Z"⟩ "HeadsByHair",
  .methodLinkNest "HeadsByHair" 162 ⟨"HeadsByHair$Stock", "rises", "(I)I"⟩ "HeadsByHair",
  .methodLinkNest "HeadsByHair$Seeming" 22 ⟨"HeadsByHair$Trace", "began", "(I)V"⟩ "HeadsByHair",
  .methodLinkNest "HeadsByHair$Turning" 21 ⟨"HeadsByHair$Trace", "began", "(I)V"⟩ "HeadsByHair",
  .methodLinkNest "HeadsByHair$Throw" 39 ⟨"HeadsByHair$Trace", "began", "(I)V"⟩ "HeadsByHair",
  .methodLinkNest "HeadsByHair$Caught" 28 ⟨"HeadsByHair$Trace", "began", "(I)V"⟩ "HeadsByHair",
  .methodLinkNest "HeadsByHair$Fallen" 26 ⟨"HeadsByHair$Trace", "began", "(I)V"⟩ "HeadsByHair",
  .methodLinkNest "HeadsByHair$Wobbling" 24 ⟨"HeadsByHair$Trace", "began", "(I)V"⟩ "HeadsByHair",
  .methodLinkNest "HeadsByHair$Spun" 20 ⟨"HeadsByHair$Trace", "began", "(I)V"⟩ "HeadsByHair",
  .methodLinkNest "HeadsByHair" 240 ⟨"HeadsByHair$Stock", "becomes", "(LHeadsByHair$Stock;)V"⟩ "HeadsByHair",
  .castable "[I" "java/lang/Cloneable",
  .castable "HeadsByHair$Seeming" "HeadsByHair$Turning",
  .castable "HeadsByHair$Wobbling" "HeadsByHair$Turning",
  .castable "HeadsByHair$Seeming" "HeadsByHair$Wobbling",
  .castable "HeadsByHair$Fallen" "HeadsByHair$Caught",
  .castable "HeadsByHair$Turning" "HeadsByHair$Throw",
  .castable "HeadsByHair$Wobbling" "HeadsByHair$Throw",
  .castable "HeadsByHair$Caught" "HeadsByHair$Throw",
  .castable "HeadsByHair$Fallen" "HeadsByHair$Throw",
  .castable "HeadsByHair$Spun" "HeadsByHair$Throw",
  .castable "HeadsByHair$Seeming" "HeadsByHair$Throw"]
/-- words for calls of inherited members that the printed lists don't have -/
def nw_up : List Cond := [.methodLink RX9 15 ⟨RX9, "sideByAngle", "(III)I"⟩, .sameMethod RX9 RX7 "sideByAngle" "(III)I", .methodLink RX10 18 ⟨RX10, "sideByAngle", "(III)I"⟩, .sameMethod RX10 RX7 "sideByAngle" "(III)I", .methodLink RX0 15 ⟨RX0, "sideByAngle", "(III)I"⟩, .sameMethod RX0 RX7 "sideByAngle" "(III)I", .static yX7_sideByAngle, .initialized RX7, .initialized RX9, .methodLink RX4 28 ⟨RX10, "turns", "(ILHeadsByHair$Trace;)I"⟩, .sameMethod RX10 RX9 "turns" "(ILHeadsByHair$Trace;)I", .superclass RX4 RX10, .superclass RX10 RX9, .superclass RX9 RX7, .methodLink RX10 30 ⟨RX9, "leans", "(ILHeadsByHair$Trace;)I"⟩, .sameMethod RX9 RX7 "leans" "(ILHeadsByHair$Trace;)I", .instanceMethod yX9_turns, .instanceMethod yX7_leans]
def nw_list : List Cond := nw_nest ++ (nw_up ++ (wsX7_sideByAngle ++ (wsX9_turns ++ wsX7_leans)))
def nwOk : Cond → Bool
  | .fieldLinkNest _ _ _ _ _ _ => true
  | .methodLinkNest _ _ _ _ => true
  | .castable _ _ => true
  | w => w.onTables && w.keeps
theorem nw_ok : nw_list.all nwOk = true := by decide +kernel
theorem nw_nestw {w : Cond} (hk : nwOk w = true) : ((∃ a b c d e f, w = .fieldLinkNest a b c d e f) ∨ (∃ a b c d, w = .methodLinkNest a b c d) ∨ ∃ a b, w = .castable a b) ∨ (w.onTables && w.keeps) = true := by
  cases w <;> first | exact Or.inl (Or.inl ⟨_, _, _, _, _, _, rfl⟩) | exact Or.inl (Or.inr (Or.inl ⟨_, _, _, _, rfl⟩)) | exact Or.inl (Or.inr (Or.inr ⟨_, _, rfl⟩)) | exact Or.inr hk
theorem nw_warm {w : Cond} (hk : nwOk w = true) {s U : State} (hW : s.WarmedH U.vm) (h : va_Nw w s) : va_Nw w U := by
  rcases nw_nestw hk with (⟨a, b, c, d, e, f, rfl⟩ | ⟨a, b, c, d, rfl⟩ | ⟨a, b, rfl⟩) | hg
  · exact va_Nw.warmF hW h
  · exact va_Nw.warmM hW h
  · simp only [va_Nw, Cond.before, Cond.holds, Cond.value] at h ⊢
    simp only [hW.alike.findClass, hW.alike.assignable]
    exact h
  · exact word_at hW (Or.inl hg) h
theorem nw_same {w : Cond} (hk : nwOk w = true) {s U : State} (hv : s.vm = U.vm) (h : va_Nw w s) : va_Nw w U := by
  rcases nw_nestw hk with (⟨a, b, c, d, e, f, rfl⟩ | ⟨a, b, c, d, rfl⟩ | ⟨a, b, rfl⟩) | hg
  · exact va_Nw.same rfl hv h
  · exact va_Nw.same rfl hv h
  · exact va_Nw.same rfl hv h
  · simp only [Bool.and_eq_true] at hg
    exact va_Nw.same hg.1 hv h
/-- classes of which the one can't be cast to the other -/
def nc_list : List (String × String) := [("HeadsByHair$Caught", "HeadsByHair$Turning"), ("HeadsByHair$Fallen", "HeadsByHair$Turning"), ("HeadsByHair$Spun", "HeadsByHair$Turning"), ("HeadsByHair$Throw", "HeadsByHair$Turning"), ("HeadsByHair$Turning", "HeadsByHair$Wobbling"), ("HeadsByHair$Caught", "HeadsByHair$Wobbling"), ("HeadsByHair$Fallen", "HeadsByHair$Wobbling"), ("HeadsByHair$Spun", "HeadsByHair$Wobbling"), ("HeadsByHair$Throw", "HeadsByHair$Wobbling"), ("HeadsByHair$Turning", "HeadsByHair$Caught"), ("HeadsByHair$Wobbling", "HeadsByHair$Caught"), ("HeadsByHair$Spun", "HeadsByHair$Caught"), ("HeadsByHair$Seeming", "HeadsByHair$Caught"), ("HeadsByHair$Throw", "HeadsByHair$Caught"), ("HeadsByHair$Turning", "HeadsByHair$Fallen"), ("HeadsByHair$Wobbling", "HeadsByHair$Fallen"), ("HeadsByHair$Caught", "HeadsByHair$Fallen"), ("HeadsByHair$Spun", "HeadsByHair$Fallen"), ("HeadsByHair$Seeming", "HeadsByHair$Fallen"), ("HeadsByHair$Throw", "HeadsByHair$Fallen"), ("HeadsByHair$Turning", "HeadsByHair$Spun"), ("HeadsByHair$Wobbling", "HeadsByHair$Spun"), ("HeadsByHair$Caught", "HeadsByHair$Spun"), ("HeadsByHair$Fallen", "HeadsByHair$Spun"), ("HeadsByHair$Seeming", "HeadsByHair$Spun"), ("HeadsByHair$Throw", "HeadsByHair$Spun"), ("HeadsByHair$Turning", "HeadsByHair$Seeming"), ("HeadsByHair$Wobbling", "HeadsByHair$Seeming"), ("HeadsByHair$Caught", "HeadsByHair$Seeming"), ("HeadsByHair$Fallen", "HeadsByHair$Seeming"), ("HeadsByHair$Spun", "HeadsByHair$Seeming"), ("HeadsByHair$Throw", "HeadsByHair$Seeming")]
/-- the String constants: class, entry, text, bytes -/
def js_all : List (String × Nat × String × List Int32) := [("HeadsByHair$Reader", 45, "kip ", [107, 105, 112, 32]), ("HeadsByHair$Reader", 59, "atch ", [97, 116, 99, 104, 32]), ("HeadsByHair$Reader", 67, "urn ", [117, 114, 110, 32]), ("HeadsByHair$Reader", 69, "lean ", [108, 101, 97, 110, 32]), ("HeadsByHair$Reader", 77, "rebht", [114, 101, 98, 104, 116]), ("HeadsByHair$Reader", 89, "<=>", [60, 61, 62]), ("HeadsByHairModel", 98, "rebht", [114, 101, 98, 104, 116]), ("HeadsByHairModel", 104, "<=>", [60, 61, 62]), ("HeadsByHairModel", 116, "turn ", [116, 117, 114, 110, 32]), ("HeadsByHairModel", 122, "lean ", [108, 101, 97, 110, 32]), ("HeadsByHairModel", 124, "skip ", [115, 107, 105, 112, 32]), ("HeadsByHairModel", 126, "catch ", [99, 97, 116, 99, 104, 32])]
abbrev nJS : Nat := 12
def js (i : Nat) : String × Nat × String × List Int32 := js_all.getD i ("", 0, "", [])
def js_len (i : Nat) : Nat := (js i).2.2.2.length
def js_b (i j : Nat) : Int32 := (js i).2.2.2.getD j 0
def js_at (G : GG) (A : Nat → Prop) (U : State) (H : Heap) (i : Nat) : Prop := va_O "java/lang/String" (G.2.2.1 i) A U H ∧ va_OF "java/lang/String" "coder" "B" (.int 0) (G.2.2.1 i) A U H ∧ va_OF "java/lang/String" "value" "[B" (.ref (G.2.2.2 i)) (G.2.2.1 i) A U H ∧ va_T .byte (G.2.2.2 i) (js_len i) (fun j => .int (js_b i j)) A U H
/-- what is carried beside a world: links of nest mates, casts, String constants, statics -/
def EV (G : GG) (A : Nat → Prop) (U : State) (H : Heap) : Prop := (∀ w ∈ nw_list, va_Nw w U) ∧ (∀ q ∈ nc_list, va_Nc q.1 q.2 U) ∧ (∀ i : Nat, i < nJS → js_at G A U H i) ∧ (∀ i : Nat, i < nJS → vk_R (js i).1 (js i).2.1 (js i).2.2.1 (G.2.2.1 i) U) ∧ va_Z "java/lang/String" "COMPACT_STRINGS" "Z" (.int 1) A U H ∧ va_Zq "jdk/internal/util/Preconditions" "SIOOBE_FORMATTER" "Ljava/util/function/BiFunction;" A U H ∧ va_AO "HeadsByHair$Throw" U
theorem EV.nw {G : GG} {A : Nat → Prop} {U : State} {H : Heap} (h : EV G A U H) (w : Cond) (hw : w ∈ nw_list) : va_Nw w U := h.1 w hw
theorem EV.nc {G : GG} {A : Nat → Prop} {U : State} {H : Heap} (h : EV G A U H) (a b : String) (hw : (a, b) ∈ nc_list) : va_Nc a b U := h.2.1 (a, b) hw
theorem EV.str {G : GG} {A : Nat → Prop} {U : State} {H : Heap} (h : EV G A U H) {i : Nat} (hi : i < nJS) : js_at G A U H i := h.2.2.1 i hi
theorem EV.ref {G : GG} {A : Nat → Prop} {U : State} {H : Heap} (h : EV G A U H) {i : Nat} (hi : i < nJS) : vk_R (js i).1 (js i).2.1 (js i).2.2.1 (G.2.2.1 i) U := h.2.2.2.1 i hi
theorem EV.cs {G : GG} {A : Nat → Prop} {U : State} {H : Heap} (h : EV G A U H) : va_Z "java/lang/String" "COMPACT_STRINGS" "Z" (.int 1) A U H := h.2.2.2.2.1
theorem EV.fm {G : GG} {A : Nat → Prop} {U : State} {H : Heap} (h : EV G A U H) : va_Zq "jdk/internal/util/Preconditions" "SIOOBE_FORMATTER" "Ljava/util/function/BiFunction;" A U H := h.2.2.2.2.2.1
theorem EV.ao {G : GG} {A : Nat → Prop} {U : State} {H : Heap} (h : EV G A U H) : va_AO "HeadsByHair$Throw" U := h.2.2.2.2.2.2
theorem EV.call {G : GG} {A B : Nat → Prop} {s U : State} {H : Heap} {locs : List Loc} (hE : EV G A s s.heap) (hS : va_S A s.heap H locs) (hB : ∀ q, B q → A q) (hU : U.heap = H) (hW : s.WarmedH U.vm) : EV G B U U.heap := by
  obtain ⟨h1, h2, h3, h4, h5, h6, h7⟩ := hE
  have hv := hW.alike
  refine ⟨fun w hw => nw_warm (List.all_eq_true.mp nw_ok w hw) hW (h1 w hw), fun q hq => va_Nc.moved hv (h2 q hq), fun i hi => ?_, fun i hi => vk_R.warm hW (h4 i hi), ?_, ?_, va_AO.moved hv h7⟩
  · obtain ⟨a1, a2, a3, a4⟩ := h3 i hi
    rw [hU]
    exact ⟨((va_O.moved hv a1).kept hS.2.1).narrow hB, ((va_OF.moved hv a2).kept hS.2.1).narrow hB, ((va_OF.moved hv a3).kept hS.2.1).narrow hB, ((va_T.moved hv a4).kept hS.2.1).narrow hB⟩
  · rw [hU]; exact ((va_Z.moved hv h5).kept hS.2.1).narrow hB
  · rw [hU]; exact ((va_Zq.moved hv h6).kept hS.2.1).narrow hB
theorem EV.same {G : GG} {A : Nat → Prop} {s U : State} (hE : EV G A s s.heap) (hv : s.vm = U.vm) (hh : U.heap = s.heap) : EV G A U U.heap := by
  obtain ⟨h1, h2, h3, h4, h5, h6, h7⟩ := hE
  have ha : s.vm.Alike U.vm := hv ▸ Vm.Alike.refl s.vm
  rw [hh]
  refine ⟨fun w hw => nw_same (List.all_eq_true.mp nw_ok w hw) hv (h1 w hw), fun q hq => va_Nc.moved ha (h2 q hq), fun i hi => ?_, fun i hi => vk_R.same hv.symm (h4 i hi), va_Z.moved ha h5, va_Zq.moved ha h6, va_AO.moved ha h7⟩
  obtain ⟨a1, a2, a3, a4⟩ := h3 i hi
  exact ⟨va_O.moved ha a1, va_OF.moved ha a2, va_OF.moved ha a3, va_T.moved ha a4⟩
/-- a contract's start -/
def cP (G : GG) (w : va_W) (sz : Nat) (as : List Value) : Array Value → State → Prop := va_Pc as (fun U => U.heap.size = sz ∧ va_P G.1 vwCl w U.heap ∧ va_K G.1 vwCl (TY G) U ∧ va_D (fun _ => True) w ∧ EV G (va_A w sz) U U.heap)
/-- a contract's end: the world behind it -/
def cB (G : GG) (A : Nat → Prop) (w : va_W) (t : State) : Prop := va_P G.1 vwCl w t.heap ∧ va_K G.1 vwCl (TY G) t ∧ va_D A w
abbrev QI (G : GG) (w1 : va_W) (z : Int32) (A : Nat → Prop) : Array Value → State → Outcome → State → Prop := va_Qi (fun (r : Int32) (_ : Unit) => r = z) (fun _ t => cB G A w1 t) A
abbrev QL (G : GG) (w1 : va_W) (z : Int64) (A : Nat → Prop) : Array Value → State → Outcome → State → Prop := va_Ql (fun (r : Int64) (_ : Unit) => r = z) (fun _ t => cB G A w1 t) A
abbrev QV (G : GG) (w1 : va_W) (A : Nat → Prop) : Array Value → State → Outcome → State → Prop := va_Qv (fun (_ : Unit) => True) (fun _ t => cB G A w1 t) A
def CMi (l : Launch) (y : MethodName) (ws : List Cond) (rm : Room) (G : GG) (w w1 : va_W) (as : List Value) (z : Int32) : Prop := ∀ sz : Nat, Met l y ws rm (cP G w sz as) (QI G w1 z (va_A w sz)) 0 0 (va_A w sz)
def CMl (l : Launch) (y : MethodName) (ws : List Cond) (rm : Room) (G : GG) (w w1 : va_W) (as : List Value) (z : Int64) : Prop := ∀ sz : Nat, Met l y ws rm (cP G w sz as) (QL G w1 z (va_A w sz)) 0 0 (va_A w sz)
def CMv (l : Launch) (y : MethodName) (ws : List Cond) (rm : Room) (G : GG) (w w1 : va_W) (as : List Value) : Prop := ∀ sz : Nat, Met l y ws rm (cP G w sz as) (QV G w1 (va_A w sz)) 0 0 (va_A w sz)
theorem cm_start {l : Launch} {y : MethodName} {ws ws' : List Cond} {rm : Room} {G : GG} {w : va_W} {as : List Value} {cc : ByteArray} {maxL mc ms : Nat} {ret : Option FieldType} {Qc : (Nat → Prop) → Array Value → State → Outcome → State → Prop} (hy : plainName y.cls = true) (hw : ws = Cond.code y cc maxL ret :: ws') (hlen : (lg_sl as).length ≤ maxL)
    (body : ∀ (p : Program) (e : Env) (s : State) (m : MethodId) (args : Array Value) (below : List Frame) (meth : Method) (c : Code) (A : Nat → Prop), p.tables.exec = Jvm.exec → c.code = cc → meth.sig.returnType = ret → meth.locks = false → c.maxLocals = maxL → s.vm.findClass y.cls = some m.cls → meth.name = y.name → (∀ w ∈ ws, w.before args s = true) → (∀ q : Nat, s.heap.size ≤ q → A q) → ∀ (H : Heap) (locs : List Loc), va_P G.1 vwCl w H → va_K G.1 vwCl (TY G) s → va_D A w → EV G A s s.heap → va_S A s.heap H locs →
      ∀ ls : Array Slot, lv_has ls maxL (lv_args 0 as) → W p l e rm s m args below meth c H locs 0 0 (MQ below (Qc A) args s mc ms A) (F0 m 0 ls [])) (sz : Nat) : Met l y ws rm (cP G w sz as) (Qc (va_A w sz)) mc ms (va_A w sz) := by
  refine Met.ofW (cc := cc) (maxL := maxL) (ret := ret) hy hw ?_
  intro p e s m args below meth c s₁ B hml hv
  obtain ⟨rfl, hsz, hP, hK, hD0, hE⟩ := hv
  subst hsz
  have hl := lv_entry as (n := maxL) hlen
  rw [lg_entry_eq]
  exact body p e s m _ below meth c (va_A w s.heap.size) B.exec B.bytes B.returns B.notSynchronized hml (findClass_of_methodNamed B.named) (name_of_methodNamed B.named B.method).1 (atoms_spec (ws := ws) B.pre) (fun q h => Or.inr h) s.heap [] hP hK hD0.self hE va_S.rf _ hl
section MYB
variable {p : Program} {l : Launch} {e : Env} {R : Room} {s : State} {m : MethodId} {args : Array Value} {below : List Frame} {meth : Method} {c : Code} {H : Heap} {locs : List Loc} {cells slots : Nat} {Q : State → Prop}
variable {cc : ByteArray} {pc : Nat} {ls : Array Slot} {rest : List Value} {A : Nat → Prop} {G : GG} {w1 : va_W}
theorem cm_reti {z : Int32} {ty : FieldType} (hx : p.tables.exec = Jvm.exec) (hb : c.code = cc) (hr : meth.sig.returnType = some ty) (hn : narrow ty (.int z) = .int z) (hlk : meth.locks = false) (hK : va_K G.1 vwCl (TY G) s) (hP : va_P G.1 vwCl w1 H) (hD : va_D A w1) (hS : va_S A s.heap H locs) (hd : decode cc pc = .ok (.ireturn, 1)) :
    W p l e R s m args below meth c H locs cells slots (MQ below (QI G w1 z A) args s cells slots A) (F0 m pc ls [.int z]) :=
  W.zret hx hb hr hn (fun t ht hW => ⟨⟨z, (), rfl, rfl, by rw [ht]; exact hP, va_K.moved hW.alike hK, hD⟩, hS.F ht⟩) hS.2.2 hd hlk
theorem cm_retl {z : Int64} (hx : p.tables.exec = Jvm.exec) (hb : c.code = cc) (hr : meth.sig.returnType = some .long) (hlk : meth.locks = false) (hK : va_K G.1 vwCl (TY G) s) (hP : va_P G.1 vwCl w1 H) (hD : va_D A w1) (hS : va_S A s.heap H locs) (hd : decode cc pc = .ok (.lreturn, 1)) :
    W p l e R s m args below meth c H locs cells slots (MQ below (QL G w1 z A) args s cells slots A) (F0 m pc ls [.long z]) :=
  W.lret hx hb hr (fun t ht hW => ⟨⟨z, (), rfl, rfl, by rw [ht]; exact hP, va_K.moved hW.alike hK, hD⟩, hS.F ht⟩) hS.2.2 hd hlk
theorem cm_retv (hx : p.tables.exec = Jvm.exec) (hb : c.code = cc) (hr : meth.sig.returnType = none) (hlk : meth.locks = false) (hK : va_K G.1 vwCl (TY G) s) (hP : va_P G.1 vwCl w1 H) (hD : va_D A w1) (hS : va_S A s.heap H locs) (hd : decode cc pc = .ok (.return_, 1)) :
    W p l e R s m args below meth c H locs cells slots (MQ below (QV G w1 A) args s cells slots A) (F0 m pc ls []) :=
  W.vret hx hb hr (fun t ht hW => ⟨⟨(), rfl, trivial, by rw [ht]; exact hP, va_K.moved hW.alike hK, hD⟩, hS.F ht⟩) hS.2.2 hd hlk
theorem cp_blind {w : va_W} {sz : Nat} {as : List Value} : FrameBlind (cP G w sz as) := fun a U g mk q => by
  obtain ⟨q0, q1, qP, qK, qD, qE⟩ := q
  exact ⟨q0, q1, qP, va_K.moved (u := U) (U := U.calling g mk a) (Vm.Alike.refl U.vm) qK, qD, EV.same (s := U) (U := U.calling g mk a) qE rfl rfl⟩
theorem cp_at {wc : va_W} {as : List Value} (hK : va_K G.1 vwCl (TY G) s) (hE : EV G A s s.heap) (hS : va_S A s.heap H locs) (hPc : va_P G.1 vwCl wc H) (hDc : va_D A wc) (hF : ∀ q, va_A wc H.size q → A q) : ∀ U : State, U.heap = H → s.WarmedH U.vm → cP G wc H.size as as.toArray U :=
  fun U hU hW => ⟨rfl, by rw [hU], by rw [hU]; exact hPc, va_K.moved hW.alike hK, hDc.weaken (fun _ _ _ _ => trivial), EV.call hE hS hF hU hW⟩
/-- the callee's start, at a receiver -/
theorem cp_V {wc : va_W} {As : List Value} {b : Nat} {C : String} (hK : va_K G.1 vwCl (TY G) s) (hE : EV G A s s.heap) (hS : va_S A s.heap H locs) (hPc : va_P G.1 vwCl wc H) (hDc : va_D A wc) (hF : ∀ q, va_A wc H.size q → A q) (hr : ∃ cell : Cell, H[b]? = some cell ∧ cell.vm.isStatics = false ∧ s.vm.findClass C = some cell.cls) : PreV s H C b (cP G wc H.size (.ref b :: As)) As :=
  ⟨cp_blind, hr, cp_at hK hE hS hPc hDc hF⟩
theorem cp_S {wc : va_W} {As : List Value} (hK : va_K G.1 vwCl (TY G) s) (hE : EV G A s s.heap) (hS : va_S A s.heap H locs) (hPc : va_P G.1 vwCl wc H) (hDc : va_D A wc) (hF : ∀ q, va_A wc H.size q → A q) : PreS s H (cP G wc H.size As) As :=
  ⟨cp_blind, cp_at hK hE hS hPc hDc hF⟩
end MYB
/-- the caller's world behind a call: the callee's places hold what came back -/
def cl_upd (ws : va_W) (isC : List Nat) (w1 : va_W) : va_W := (isC.zip w1).foldl (fun w q => w.set q.1 q.2) ws
theorem cl_upd_at : ∀ (isC : List Nat) (w1 : va_W) (ws : va_W) (k : Nat) (q : Nat × va_E), (cl_upd ws isC w1)[k]? = some q → isC.length = w1.length → (k ∉ isC ∧ ws[k]? = some q) ∨ ∃ j : Nat, isC[j]? = some k ∧ w1[j]? = some q
  | [], w1, ws, k, q, h, hl => Or.inl ⟨List.not_mem_nil, by simpa [cl_upd] using h⟩
  | i :: is, [], ws, k, q, h, hl => by simp at hl
  | i :: is, c :: cs, ws, k, q, h, hl => by
    have h1 : (cl_upd (ws.set i c) is cs)[k]? = some q := h
    rcases cl_upd_at is cs (ws.set i c) k q h1 (by simpa using hl) with ⟨h2, h3⟩ | ⟨j, h2, h3⟩
    · by_cases hk : k = i
      · subst hk
        right
        refine ⟨0, rfl, ?_⟩
        have hlt : k < ws.length := by
          have := (List.getElem?_eq_some_iff.mp h3).1
          simpa using this
        rw [List.getElem?_set_self hlt] at h3
        simpa using h3
      · left
        rw [List.getElem?_set_ne (Ne.symm hk)] at h3
        exact ⟨by simp [hk, h2], h3⟩
    · right
      exact ⟨j + 1, by simpa using h2, by simpa using h3⟩
theorem cl_join {A : Nat → Prop} {D : va_G} {cl : List vw_C} {ws wc w1 ws' : va_W} {H H1 : Heap} (hP : va_P D cl ws H) (hD : va_D A ws) (isC : List Nat) (hC : isC.map (fun i => ws[i]?) = wc.map some) (ha : w1.map (fun q => q.1) = wc.map (fun q => q.1)) (hw : cl_upd ws isC w1 = ws')
    (hk : ∀ q : Nat, q < H.size → ¬ va_A wc H.size q → H1[q]? = H[q]?) (hP1 : va_P D cl w1 H1) : va_P D cl ws' H1 ∧ va_D A ws' := by
  subst hw
  have hl1 : isC.length = wc.length := by simpa using congrArg List.length hC
  have hl2 : w1.length = wc.length := by simpa using congrArg List.length ha
  have hl : isC.length = w1.length := by omega
  have hcj : ∀ (j i : Nat) (q : Nat × va_E), isC[j]? = some i → wc[j]? = some q → ws[i]? = some q := by
    intro j i q h1 h2
    have h3 : (isC.map (fun i => ws[i]?))[j]? = some (some q) := by rw [hC, List.getElem?_map, h2]; rfl
    rw [List.getElem?_map, h1] at h3
    exact Option.some.inj h3
  have hcj' : ∀ (j : Nat) (q : Nat × va_E), wc[j]? = some q → ∃ i : Nat, isC[j]? = some i ∧ ws[i]? = some q := by
    intro j q h2
    have hj : j < isC.length := by rw [hl1]; exact (List.getElem?_eq_some_iff.mp h2).1
    exact ⟨isC[j], List.getElem?_eq_getElem hj, hcj j _ q (List.getElem?_eq_getElem hj) h2⟩
  have hadr : ∀ (j : Nat) (q : Nat × va_E), w1[j]? = some q → ∃ q0, wc[j]? = some q0 ∧ q0.1 = q.1 := by
    intro j q h2
    have h3 : (w1.map (fun q => q.1))[j]? = some q.1 := by rw [List.getElem?_map, h2]; rfl
    rw [ha, List.getElem?_map] at h3
    cases hq : wc[j]? with
    | none => rw [hq] at h3; cases h3
    | some q0 => rw [hq] at h3; exact ⟨q0, rfl, Option.some.inj h3⟩
  have key : ∀ (k : Nat) (q : Nat × va_E), (cl_upd ws isC w1)[k]? = some q → ∃ q0, ws[k]? = some q0 ∧ q0.1 = q.1 := by
    intro k q hq
    rcases cl_upd_at isC w1 ws k q hq hl with ⟨-, h⟩ | ⟨j, h1, h2⟩
    · exact ⟨q, h, rfl⟩
    · obtain ⟨q0, h3, h4⟩ := hadr j q h2
      exact ⟨q0, hcj j k q0 h1 h3, h4⟩
  refine ⟨fun k q hq => ?_, fun i j x y hi hj hxy => ?_, fun k q hq => ?_⟩
  · rcases cl_upd_at isC w1 ws k q hq hl with ⟨hn, h⟩ | ⟨j, h1, h2⟩
    · refine (hP k q h).kept (hk _ (hP k q h).lt (fun hA => ?_))
      rcases hA with ⟨j, e, hj⟩ | hge
      · obtain ⟨i, h1, h2⟩ := hcj' j (q.1, e) hj
        have : k = i := hD.1 k i q (q.1, e) h h2 rfl
        subst this
        exact hn (List.mem_of_getElem? h1)
      · exact absurd (hP k q h).lt (by omega)
    · exact hP1 j q h2
  · obtain ⟨x0, h1, h2⟩ := key i x hi
    obtain ⟨y0, h3, h4⟩ := key j y hj
    exact hD.1 i j x0 y0 h1 h3 (h2.trans (hxy.trans h4.symm))
  · obtain ⟨q0, h1, h2⟩ := key k q hq
    rw [← h2]
    exact hD.2 k q0 h1
section MYC
variable {p : Program} {l : Launch} {e : Env} {R : Room} {s : State} {m : MethodId} {args : Array Value} {below : List Frame} {meth : Method} {c : Code} {H : Heap} {locs : List Loc} {cells slots : Nat} {Q : State → Prop}
variable {pc : Nat} {ls : Array Slot} {rest st0 : List Value} {A : Nat → Prop} {G : GG} {ws wc w1 ws' : va_W} {a : Array Value}
theorem cl_i {z : Int32} (hP : va_P G.1 vwCl ws H) (hD : va_D A ws) (hS : va_S A s.heap H locs) (hF : ∀ q, va_A wc H.size q → A q) (isC : List Nat) (hC : isC.map (fun i => ws[i]?) = wc.map some) (ha : w1.map (fun q => q.1) = wc.map (fun q => q.1)) (hw : cl_upd ws isC w1 = ws')
    (hr : va_Run p l e R s m args below meth c H locs cells slots 0 0 (F0 m pc ls st0) rest (QI G w1 z (va_A wc H.size) a) (va_A wc H.size))
    (kk : ∀ (H1 : Heap) (locs1 : List Loc), va_P G.1 vwCl ws' H1 → va_D A ws' → va_S A s.heap H1 locs1 → W p l e R s m args below meth c H1 locs1 cells slots Q (F0 m (pc + 3) ls (.int z :: rest))) : W p l e R s m args below meth c H locs cells slots Q (F0 m pc ls st0) := by
  refine va_calli hr hS (fun q _ h => hF q h) hF (fun r u t H1 locs1 ht hvm hw1 hB hz1 hk1 hS1 => ?_)
  obtain ⟨hP1, hK1, hD1⟩ := hB
  rw [ht] at hP1
  subst hw1
  obtain ⟨hP2, hD2⟩ := cl_join hP hD isC hC ha hw hk1 hP1
  exact kk H1 locs1 hP2 hD2 hS1
theorem cl_l {z : Int64} (hP : va_P G.1 vwCl ws H) (hD : va_D A ws) (hS : va_S A s.heap H locs) (hF : ∀ q, va_A wc H.size q → A q) (isC : List Nat) (hC : isC.map (fun i => ws[i]?) = wc.map some) (ha : w1.map (fun q => q.1) = wc.map (fun q => q.1)) (hw : cl_upd ws isC w1 = ws')
    (hr : va_Run p l e R s m args below meth c H locs cells slots 0 0 (F0 m pc ls st0) rest (QL G w1 z (va_A wc H.size) a) (va_A wc H.size))
    (kk : ∀ (H1 : Heap) (locs1 : List Loc), va_P G.1 vwCl ws' H1 → va_D A ws' → va_S A s.heap H1 locs1 → W p l e R s m args below meth c H1 locs1 cells slots Q (F0 m (pc + 3) ls (.long z :: rest))) : W p l e R s m args below meth c H locs cells slots Q (F0 m pc ls st0) := by
  refine va_calll hr hS (fun q _ h => hF q h) hF (fun r u t H1 locs1 ht hvm hw1 hB hz1 hk1 hS1 => ?_)
  obtain ⟨hP1, hK1, hD1⟩ := hB
  rw [ht] at hP1
  subst hw1
  obtain ⟨hP2, hD2⟩ := cl_join hP hD isC hC ha hw hk1 hP1
  exact kk H1 locs1 hP2 hD2 hS1
theorem cl_v (hP : va_P G.1 vwCl ws H) (hD : va_D A ws) (hS : va_S A s.heap H locs) (hF : ∀ q, va_A wc H.size q → A q) (isC : List Nat) (hC : isC.map (fun i => ws[i]?) = wc.map some) (ha : w1.map (fun q => q.1) = wc.map (fun q => q.1)) (hw : cl_upd ws isC w1 = ws')
    (hr : va_Run p l e R s m args below meth c H locs cells slots 0 0 (F0 m pc ls st0) rest (QV G w1 (va_A wc H.size) a) (va_A wc H.size))
    (kk : ∀ (H1 : Heap) (locs1 : List Loc), va_P G.1 vwCl ws' H1 → va_D A ws' → va_S A s.heap H1 locs1 → W p l e R s m args below meth c H1 locs1 cells slots Q (F0 m (pc + 3) ls rest)) : W p l e R s m args below meth c H locs cells slots Q (F0 m pc ls st0) := by
  refine va_callv hr hS (fun q _ h => hF q h) hF (fun u t H1 locs1 ht hvm hw1 hB hz1 hk1 hS1 => ?_)
  obtain ⟨hP1, hK1, hD1⟩ := hB
  rw [ht] at hP1
  obtain ⟨hP2, hD2⟩ := cl_join hP hD isC hC ha hw hk1 hP1
  exact kk H1 locs1 hP2 hD2 hS1
/-- the value on top, by an equal one -/
theorem lv_eqi {x y : Int32} (h : x = y) (k : W p l e R s m args below meth c H locs cells slots Q (F0 m pc ls (.int y :: rest))) : W p l e R s m args below meth c H locs cells slots Q (F0 m pc ls (.int x :: rest)) := h ▸ k
end MYC
/-- a test in a mirror -/
theorem ck_some {α : Type} {b : Prop} {d : Decidable b} {k : Option α} {z : α} (h : (@ite _ b d none k) = some z) : ¬ b ∧ k = some z := by
  by_cases hb : b
  · rw [if_pos hb] at h; cases h
  · rw [if_neg hb] at h; exact ⟨hb, h⟩
theorem bd_some {α β : Type} {x : Option α} {f : α → Option β} {z : β} (h : x.bind f = some z) : ∃ a, x = some a ∧ f a = some z := by
  cases x with
  | none => cases h
  | some a => exact ⟨a, rfl, h⟩
theorem nb_ok {x : Int32} (h : ¬ ¬ (x = 0 ∨ x = 1)) : narrow .boolean (.int x) = .int x ∧ fits .boolean (.int x) = true := by
  rcases Decidable.not_not.mp h with rfl | rfl <;> exact ⟨by decide, by decide⟩
