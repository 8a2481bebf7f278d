/-! Arrays.copyOf, and the laws' constructors -/
abbrev QQ (G : GG) (w1 : Nat → va_W) (A : Nat → Prop) : Array Value → State → Outcome → State → Prop := va_Qr (fun (_ : Unit) => True) (fun _ q t => cB G A (w1 q) t) A
section MYQ
variable {p : Program} {l : Launch} {e : Env} {R : Room} {s : State} {m : MethodId} {args : Array Value} {below : List Frame} {meth : Method} {c : Code} {H : Heap} {locs : List Loc} {cells slots : Nat}
variable {cc : ByteArray} {pc : Nat} {ls : Array Slot} {A : Nat → Prop} {G : GG}
theorem cm_retq {w1 : Nat → va_W} {q : Nat} {ty : FieldType} (hx : p.tables.exec = Jvm.exec) (hb : c.code = cc) (hr : meth.sig.returnType = some ty) (hrt : (∃ n, ty = .object n) ∨ ∃ t, ty = .array t) (hlk : meth.locks = false) (hK : va_K G.1 vwCl (TY G) s) (hP : va_P G.1 vwCl (w1 q) H) (hD : va_D A (w1 q)) (hS : va_S A s.heap H locs) (hd : decode cc pc = .ok (.areturn, 1)) :
    W p l e R s m args below meth c H locs cells slots (MQ below (QQ G w1 A) args s cells slots A) (F0 m pc ls [.ref q]) :=
  W.aret hx hb hr hrt (Or.inr ⟨q, rfl⟩) (fun t ht hW => ⟨⟨(), q, rfl, trivial, by rw [ht]; exact hP, va_K.moved hW.alike hK, hD⟩, hS.F ht⟩) hS.2.2 hd hlk
end MYQ
theorem i_lt120 {k : Int32} (h1 : k < 120) : k.toNatClampNeg < 120 := by
  have a := Int32.lt_iff_toInt_lt.mp h1
  have b : (120 : Int32).toInt = 120 := by decide
  show k.toInt.toNat < 120
  omega
def w1_copyOf (G : GG) (a : Nat) (f : Nat → Int32) (K : Nat) (q : Nat) : va_W := [aI G a 120 f, aI G q K (va_cpy f (fun _ => 0) 0 0 K)]
abbrev rm_copyOf : Room := { frames := 1, cells := 1, slots := 120, locals := 60 }
set_option maxHeartbeats 4000000 in
set_option maxRecDepth 100000 in
theorem c_J7_copyOf (l : Launch) (G : GG) (a : Nat) (f : Nat → Int32) (k : Int32) (h0 : ¬ k < 0) (h1 : k < 120) : ∀ sz : Nat, Met l yJ7_copyOf_59c91 wsJ7_copyOf_59c91 rm_copyOf (cP G [aI G a 120 f] sz [.ref a, .int k]) (QQ G (w1_copyOf G a f k.toNatClampNeg) (va_A [aI G a 120 f] sz)) 1 120 (va_A [aI G a 120 f] sz) := by
  refine cm_start (cc := cJ7_copyOf_59c91) (maxL := 3) (ret := (some (.array .int))) (Qc := fun A => QQ G (w1_copyOf G a f k.toNatClampNeg) A) (by decide +kernel) rfl (Nat.le_of_ble_eq_true rfl) ?_
  intro p e s m args below meth c A hx hb hr hlk hml hown hnm hts hA H locs hP hK hD hE hS ls hl
  have hown : s.vm.findClass RJ7 = some m.cls := hown
  have hl : lv_has ls 3 [(0, .ref a), (1, .int k)] := hl
  have hk := i_lt120 h1
  refine lv_iload_n hx hb dJ7_copyOf_59c91_0 rfl (lv_at hl 1 rfl) ?_
  refine lv_aload_n hx hb dJ7_copyOf_59c91_1 rfl (lv_at hl 0 rfl) ?_
  refine va_alen (D := G.1) (v := 120) hx hb hK hP 0 0 rfl rfl rfl dJ7_copyOf_59c91_2 ?_
  refine lv_icmp_ne (tgt := 14) hx hb dJ7_copyOf_59c91_3 (by decide) (fun _ => ?_) (fun c9 => absurd h1 (by rw [c9]; decide))
  refine lv_iload_n hx hb dJ7_copyOf_59c91_14 rfl (lv_at hl 1 rfl) ?_
  refine t_newi (N' := k.toNatClampNeg) hx hb (hts (.arrayClass .int) (by decide +kernel)) hK hP hD hS hA h0 rfl (by omega) (Nat.le_of_ble_eq_true rfl) (by show 0 + k.toNatClampNeg ≤ 120; omega) dJ7_copyOf_59c91_15 (fun q H hP hD hS => ?_)
  have hP : va_P G.1 vwCl [aI G a 120 f, aI G q k.toNatClampNeg (fun _ => 0)] H := hP
  have hD : va_D A [aI G a 120 f, aI G q k.toNatClampNeg (fun _ => 0)] := hD
  refine lv_astore_n (lv' := [(2, .ref q), (0, .ref a), (1, .int k)]) hx hb dJ7_copyOf_59c91_17 rfl hl (by decide) rfl (fun ls hl => ?_)
  refine lv_aload_n hx hb dJ7_copyOf_59c91_18 rfl (lv_at hl 1 rfl) ?_
  refine lv_iconst (v := 0) hx hb dJ7_copyOf_59c91_19 (by decide) ?_
  refine lv_aload_n hx hb dJ7_copyOf_59c91_20 rfl (lv_at hl 0 rfl) ?_
  refine lv_iconst (v := 0) hx hb dJ7_copyOf_59c91_21 (by decide) ?_
  refine lv_aload_n hx hb dJ7_copyOf_59c91_22 rfl (lv_at hl 1 rfl) ?_
  refine va_alen (D := G.1) (v := 120) hx hb hK hP 0 0 rfl rfl rfl dJ7_copyOf_59c91_23 ?_
  refine lv_iload_n hx hb dJ7_copyOf_59c91_24 rfl (lv_at hl 2 rfl) ?_
  refine va_mmin hx hb (hml.trans hl.1.symm) hown (hts (.methodLink RJ7 304 Lib.Math.min.name) (by decide +kernel)) (hts (.static Lib.Math.min.name) (by decide +kernel)) (hts (.initialized "java/lang/Math") (by decide +kernel)) (hts (.code Lib.Math.min.name Lib.Math.min.code 2 (some .int)) (by decide +kernel)) (Nat.le_of_ble_eq_true rfl) (Nat.le_of_ble_eq_true rfl) (Nat.le_of_ble_eq_true rfl) (by show 0 + k.toNatClampNeg ≤ 120; omega) dJ7_copyOf_59c91_25 ?_
  refine lv_eqi (if_pos h1) ?_
  refine va_copyi (D := G.1) (rest := []) hx hb (hml.trans hl.1.symm) hown (hts (.methodLink RJ7 150 arraycopyName) (by decide +kernel)) (hts (.native arraycopyName) (by decide +kernel)) (hts (.static arraycopyName) (by decide +kernel)) (hts (.initialized "java/lang/System") (by decide +kernel)) hK hP hD hS 0 1 0 0 rfl rfl rfl rfl rfl (by decide) (by decide) h0 (by show 0 + _ ≤ _; omega) (by show 0 + _ ≤ _; omega) (fun _ _ => rfl) (Nat.le_of_ble_eq_true rfl) (Nat.le_of_ble_eq_true rfl) dJ7_copyOf_59c91_28 (fun H locs hP hD hS => ?_)
  refine lv_aload_n hx hb dJ7_copyOf_59c91_31 rfl (lv_at hl 0 rfl) ?_
  refine W.widen (k := 1) (n := 120) (Nat.le_of_ble_eq_true rfl) (by show 0 + k.toNatClampNeg ≤ 120; omega) ?_
  exact cm_retq hx hb hr (Or.inr ⟨_, rfl⟩) hlk hK hP hD hS dJ7_copyOf_59c91_32
