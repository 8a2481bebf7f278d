/-! a static method called by the name of a class that inherits it: the instruction from its cold start, in one piece -/
section STU
set_option maxRecDepth 20000 in
theorem st_wp {Q : Unit → Pre} {E : CtlPost} {e : Env} {d : Bool} {acts : List Action} {s s0 : State} {f : JFrame} {index ci n c : Nat} {m : MethodId} {dk ck km : Class} {cf : ClassFile} {nm ds : String} {mt : Method} {av rest : List Value}
    (hs : s.topJava?.isSome) (hp : e.platform.polymorphicOnlyByInvokevirtual = true) (hW : s0.WarmedH s.vm) (hE : s0.MethodEntryUp e s.vm f.method.cls index c m ci)
    (hdk : s0.vm.classes[f.method.cls]? = some dk) (hcf : dk.cf = some cf) (hcp : cf.constantPool[index]? = some (.methodref ci n)) (hnt : cf.constantPool.nameAndType? n = some (nm, ds))
    (hck : s0.vm.classes[c]? = some ck) (hpc : ∀ y, signaturePolymorphic ck y = false)
    (hkm : s0.vm.classes[m.cls]? = some km) (hmt : s0.vm.method? m = some mt) (hpm : signaturePolymorphic km mt = false) (hst : mt.isStatic = true) (hin : km.init = .initialized)
    (hlen : av.length = mt.sig.parameters.length) (hstack : f.stack = av.reverse ++ rest) :
    wp (invokestatic.sem index) Q E e d acts (s.setTop f) ↔ E (.invoke m av.toArray) (.initLock m.cls false :: acts) ((s.setVm (s.vm.calledUp f.method.cls ci index c m)).setTop { f with stack := rest }) := by
  obtain ⟨g1, -, hW1, g2⟩ := hE.classFirst
  have hW2 := hE.warmed
  obtain ⟨dk0, hdk0, ed0⟩ := hW.alike.2.2 _ _ hdk
  obtain ⟨ck1, hck1, ec1⟩ := hW1.alike.2.2 _ _ hck
  obtain ⟨km2, hkm2, em2⟩ := hW2.alike.2.2 _ _ hkm
  have hmt2 : (s.vm.calledUp f.method.cls ci index c m).method? m = some mt := by rw [hW2.alike.method?]; exact hmt
  have hp2 : signaturePolymorphic km2 mt = false := by rw [em2]; exact hpm
  have hi2 : km2.init = .initialized := by rw [em2]; exact hin
  have hp1 : (ck1.methods.any fun y => y.name == nm && !y.isStatic && signaturePolymorphic ck1 y) = false := by
    have hz : ∀ y, signaturePolymorphic ck1 y = false := by rw [ec1]; exact hpc
    simp [hz]
  have hr := memberRef_ask_via (e := e) (via := false) (name := nm) (desc := ds) hdk0 (by rw [ed0]; exact hcf) hcp hnt
  have t1 : (s.setVm (s.vm.noted f.method.cls ci (.cls c))).topJava?.isSome := hs
  have t2 : (s.setVm (s.vm.calledUp f.method.cls ci index c m)).topJava?.isSome := hs
  have r1 : ∀ {Z : ClassId → Pre} {b : Bool} {as : List Action}, wp (Jvm.resolveClassAt ci) Z E e b as (s.setTop f) ↔ Z c b as ((s.setVm (s.vm.noted f.method.cls ci (.cls c))).setTop f) :=
    W.resolveClassAt_links (t := s.setTop f) (State.method?_setTop f hs) g1
  have r2 : ∀ {Z : MethodId → Pre} {b : Bool} {as : List Action}, wp (Jvm.resolveMethodAt index) Z E e b as ((s.setVm (s.vm.noted f.method.cls ci (.cls c))).setTop f) ↔ Z m b as ((s.setVm (s.vm.calledUp f.method.cls ci index c m)).setTop f) :=
    W.resolveMethodAt_links (t := (s.setVm (s.vm.noted f.method.cls ci (.cls c))).setTop f) (State.method?_setTop f t1) g2
  simp [invokestatic.sem, hp, Seam.memberRefOf, Seam.isPolymorphic, State.method?_setTop f hs, hr, r1, r2, hck1, hp1, hmt2, hkm2, hp2, hst, W.ensureInit_ready (s := (s.setVm (s.vm.calledUp f.method.cls ci index c m)).setTop f) ⟨km2, hkm2, hi2⟩, Jvm.popArgs, ← hlen, popN_top t2 hstack, -Array.any_eq_true]
variable {p : Program} {l : Launch} {e : Env} {R : Room} {s : State} {m : MethodId} {args : Array Value} {below : List Frame} {meth : Method} {c : Code} {T : State} {locs : List Loc} {cells slots : Nat}
theorem st_go (X : Stand p l e R s m args below meth c T locs cells slots) (hx : p.tables.exec = Jvm.exec) {own owner : String} {index : Nat} {x : MethodName} (ho : s.vm.findClass own = some m.cls)
    (hlink : (Cond.methodLink own index x).before args s = true) (hsame : (Cond.sameMethod x.cls owner x.name x.desc).before args s = true) (hstat : (Cond.static ⟨owner, x.name, x.desc⟩).before args s = true) (hini : (Cond.initialized owner).before args s = true)
    (hnot : owner ≠ "java/lang/invoke/MethodHandle" ∧ owner ≠ "java/lang/invoke/VarHandle") {mk : MethodId} {mt : Method} (hnamed : s.methodNamed? ⟨owner, x.name, x.desc⟩ = some mk) (hmt : s.vm.method? mk = some mt)
    {g : JFrame} (hg : g.method = m) {av rest : List Value} (hlen : av.length = mt.sig.parameters.length) (hstack : g.stack = av.reverse ++ rest) (hdg : decode c.code g.pc = .ok (.invokestatic index, 3)) :
    ∃ vm1, Stand p l e R s m args below meth c (T.setVm vm1) locs cells slots ∧ ∀ target, (∀ acts, Steps p.tables e below (doInvoke e ((T.setVm vm1).setTop { g with stack := rest }) acts mk av.toArray).1 target) → Steps p.tables e below (T.setTop g) target := by
  obtain ⟨cn, ck, r1, hcn, hck, hni, hf, hr1⟩ := Cond.sameMethod_found hsame
  have hrm : r1 = mk := Option.some.inj (hr1.symm.trans hnamed)
  subst hrm
  obtain ⟨ci, hl, hright⟩ := Cond.methodLink_specUp ho hcn hck hni hf hlink e.platform (by rw [X.admits.platform]) (by rw [X.admits.platform])
  have hE := State.methodEntryUp (e := e) X.warmed hl hright
  obtain ⟨km, hkm, hnm⟩ := className_of_methodNamed hnamed
  have hin := Cond.initialized_spec (findClass_of_methodNamed hnamed) hkm hini
  obtain ⟨dk, cf, nt, nm, ds, ck', _, _, hdk, hcf, hcp, hnt, -, -, hck', -, hpc, -⟩ := hl.here
  have hcc : ck' = ck := Option.some.inj (hck'.symm.trans hck)
  subst hcc
  refine ⟨_, X.noted hE.warmed, fun target hrest => ?_⟩
  subst hg
  jvm_step X.here [hx, hdg, st_wp (e := e) (s := T) (s0 := s) (f := g) (av := av) (rest := rest) X.here.top (by rw [X.admits.platform]) X.warmed hE hdk hcf hcp hnt hck hpc hkm hmt (signaturePolymorphic_of_name (by rw [hnm]; exact hnot) mt) (Cond.static_spec hnamed hmt hstat) hin hlen hstack]
  exact fun acts => hrest _
end STU
section STR
variable {p : Program} {l : Launch} {e : Env} {R : Room} {s : State} {m : MethodId} {args : Array Value} {below : List Frame} {meth : Method} {c : Code} {H : Heap} {locs : List Loc} {cells slots : Nat}
theorem sq_runS {owner : String} {x y : MethodName} {bytes cc : ByteArray} {maxL nL mc ms n index : Nat} {ret : Option FieldType} {ws : List Cond} {rm : Room} {Pc : Array Value → State → Prop} {Qc : Array Value → State → Outcome → State → Prop} {free : Addr → Prop} {Ts : List Cond} {own : String} {As rest : List Value} {g : JFrame}
    (S : CallFix p m c cc nL s args Ts own) (hM : Met l y ws rm Pc Qc mc ms free) (hyx : y = ⟨owner, x.name, x.desc⟩) (hrc : rm.cells = mc) (hrs : rm.slots = ms) (hR : rm.frames + 1 ≤ R.frames ∧ 8 + (maxL + 11) + rm.locals ≤ R.locals)
    (hws : ∀ w ∈ ws, ∀ (a' : Array Value) (U : State), s.WarmedH U.vm → w.before a' U = true) (hcw : Cond.code y bytes maxL ret ∈ ws) (hcode : (Cond.code y bytes maxL ret).before args s = true)
    (hlink : (Cond.methodLink own index x).before args s = true) (hsame : (Cond.sameMethod x.cls owner x.name x.desc).before args s = true) (hstat : (Cond.static y).before args s = true) (hini : (Cond.initialized owner).before args s = true)
    (hd : owner ≠ "java/lang/invoke/MethodHandle" ∧ owner ≠ "java/lang/invoke/VarHandle" ∧ (parseMethodDescriptor x.desc).map (fun d => d.parameters.length) = some n) (hp : PreS s H Pc As)
    (hg : g.method = m) (hn : As.length = n) (hsize : g.locals.size = nL) (hstack : g.stack = As.reverse ++ rest) (hW : 2 * g.monitorRoom + (rest.map fun v => v.category).sum ≤ 8) (hdg : decode cc g.pc = .ok (.invokestatic index, 3)) (hf : cells + mc ≤ R.cells ∧ slots + ms ≤ R.slots) :
    va_Run p l e R s m args below meth c H locs cells slots mc ms g rest (Qc As.toArray) (free) := by
  subst hyx
  have hK : Back l R p e below s args ⟨owner, x.name, x.desc⟩ 3 8 (PreOf R mc ms Pc) (PostOf Qc mc ms free) := back_of (bytes := bytes) (maxL := maxL) (ret := ret) hM hp.1 hrc hrs hR.1 hR.2 hws hcw (fun a' U hW => word_at hW (Or.inl (by first | rfl | simp [Cond.onTables, Cond.keeps, Cond.steady])) hini)
  obtain ⟨hx, hb, hml, ho, -⟩ := S
  have hlen : ∀ sig, parseMethodDescriptor x.desc = some sig → As.length = sig.parameters.length := fun sig h => by
    have h2 := hd.2.2
    rw [h] at h2
    exact hn.trans (Option.some.inj h2).symm
  intro T hT X
  obtain ⟨mk, methM, hnamed, hmethM⟩ : ∃ mk methM, s.methodNamed? ⟨owner, x.name, x.desc⟩ = some mk ∧ s.vm.method? mk = some methM := by
    cases hq : s.methodNamed? ⟨owner, x.name, x.desc⟩ with
    | none => simp [Cond.before, Cond.holds, Cond.value, hq] at hcode
    | some mk =>
      obtain ⟨methM', cM, hm, -⟩ := Cond.code_spec hq hcode
      exact ⟨mk, methM', rfl, hm⟩
  obtain ⟨methM', cM, hm', -, -, -, -, -, -, hsigM⟩ := Cond.code_spec hnamed hcode
  cases hmethM.symm.trans hm'
  obtain ⟨vm₁, X₁, hgo⟩ := st_go X hx ho hlink hsame hstat hini ⟨hd.1, hd.2.1⟩ hnamed hmethM hg (av := As) (rest := rest) (hlen _ hsigM) hstack (by rw [hb]; exact hdg)
  obtain ⟨v, ⟨U', l2, c2, s2⟩, X', ⟨g', mk', t, L, e1, e2, hq, h1, hL, h2, h3⟩, hsteps⟩ := hK m meth c ⟨T.setVm vm₁, locs, cells, slots⟩ { g with stack := rest } (.invokestatic index) mk As.toArray X₁ hg (hsize.trans hml.symm) (by rw [hb]; exact hdg) hW (X₁.named hnamed) ⟨hf.1, hf.2, hp.2 (T.setVm vm₁) hT X₁.warmed⟩
  dsimp only [Pt.U, Pt.locs, Pt.cells, Pt.slots] at X' e1 e2 h1 h2 h3 hsteps
  subst h1; subst h2; subst h3
  exact ⟨v, (T.setVm vm₁).calling g' mk' As.toArray, t, U', L, hT, X', hL, e1, e2, hq, fun target h => hgo _ (fun acts => by rw [doInvoke_state]; exact hsteps.trans h)⟩
end STR
