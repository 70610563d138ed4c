abbrev ob (k : Nat) (fs : List Value) : va_E := .inr (k, fs)
abbrev aB (E : cE) (n : Nat) (f : Nat → Int32) : va_E := .inl (E.2.1 0, n, .inl f)
abbrev aI (E : cE) (n : Nat) (f : Nat → Int32) : va_E := .inl (E.2.1 1, n, .inl f)
abbrev aJ (E : cE) (n : Nat) (f : Nat → Int64) : va_E := .inl (E.2.1 2, n, .inr (.inl f))
abbrev aS (E : cE) (n : Nat) (f : Nat → Int32) : va_E := .inl (E.2.1 3, n, .inl f)
abbrev aQ (E : cE) (n : Nat) (f : Nat → Option Nat) : va_E := .inl (E.2.1 4, n, .inr (.inr (.inr (.inr f))))
section MyNew
variable {p : Program} {l : Launch} {e : Env} {R : Room} {s : State} {m : MethodId} {args : Array Value} {below : List Frame} {meth : Method} {c : Code} {H : Heap} {locs : List Loc} {cells slots : Nat} {Q : State → Prop}
variable {E : cE} {A : Nat → Prop} {ws : va_W} {cc : ByteArray} {pc : Nat} {ls : Array Slot} {rest : List Value}
/-- a new array of numbers, of the known sort -/
theorem cw_newa (hexec : p.tables.exec = Jvm.exec) (hb : c.code = cc) {atype : ArrayType} {ty : FieldType} {a0 : vp_A} (harr : (Cond.arrayClass (newarray.typeOf atype)).before args s = true) (hty : newarray.typeOf atype = ty) (hK : va_K E.1 vwCl (cTY E.2.1) s) (hP : va_P E.1 vwCl ws H) (hD : va_D A ws) (hS : va_S A s.heap H locs) (hA : ∀ q : Nat, s.heap.size ≤ q → A q)
    (t0 : Nat) {cA0 : ClassId} (ht : (cTY E.2.1)[t0]? = some (cA0, ty)) (hpr : (match ty with | .object _ => false | _ => true) = true) {n : Int32} {N' : Nat} (ha : ∀ cA : ClassId, vp_cell cA a0 = arrV cA N' (fun _ => defaultValue ty)) (hn : ¬ n < 0) (hN : n.toNatClampNeg = N') (hbytes : N' * componentBytes ty ≤ 536870912) (hcells : cells + 1 ≤ R.cells) (hslots : slots + N' ≤ R.slots) (hdg : decode cc pc = .ok (.newarray atype, 2))
    (kk : ∀ (q : Nat) (H1 : Heap), va_P E.1 vwCl (ws ++ [(q, .inl (cA0, a0))]) H1 → va_D A (ws ++ [(q, .inl (cA0, a0))]) → va_S A s.heap H1 locs →
      W p l e R s m args below meth c H1 locs (cells + 1) (slots + N') Q (F0 m (pc + 2) ls (.ref q :: rest))) : W p l e R s m args below meth c H locs cells slots Q (F0 m pc ls (.int n :: rest)) := by
  refine va_newa hexec hb harr hty hK hP hD hS hA ha hn hN hbytes hcells hslots hdg (fun q cA H1 hK1 hP1 hD1 hS1 => ?_)
  have h1 : va_RA s cA ty := (hK1.2 5 (cA, ty) rfl).2
  have h2 : va_RA s cA0 ty := (hK.2 t0 _ ht).2
  have h3 : cA = cA0 := by
    cases ty <;> first | exact Option.some.inj (Eq.trans (Eq.symm h1) h2) | (exact absurd hpr Bool.false_ne_true)
  subst h3
  exact kk q H1 hP1 hD1 hS1
/-- a new array of Moments -/
theorem cw_newq (hexec : p.tables.exec = Jvm.exec) (hb : c.code = cc) {own : String} {index : Nat} (hown : s.vm.findClass own = some m.cls) (hclink : (Cond.classLink own index "CallerHall$Moment").before args s = true) (hover : va_AO "CallerHall$Moment" s) (hK : va_K E.1 vwCl (cTY E.2.1) s) (hP : va_P E.1 vwCl ws H) (hD : va_D A ws) (hS : va_S A s.heap H locs) (hA : ∀ q : Nat, s.heap.size ≤ q → A q)
    {n : Int32} {N' : Nat} (hn : ¬ n < 0) (hN : n.toNatClampNeg = N') (hbytes : N' * 4 ≤ 536870912) (hcells : cells + 1 ≤ R.cells) (hslots : slots + N' ≤ R.slots) (hdg : decode cc pc = .ok (.anewarray index, 3))
    (kk : ∀ (q : Nat) (H1 : Heap), va_P E.1 vwCl (ws ++ [(q, aQ E N' (fun _ => none))]) H1 → va_D A (ws ++ [(q, aQ E N' (fun _ => none))]) → va_S A s.heap H1 locs →
      W p l e R s m args below meth c H1 locs (cells + 1) (slots + N') Q (F0 m (pc + 3) ls (.ref q :: rest))) : W p l e R s m args below meth c H locs cells slots Q (F0 m pc ls (.int n :: rest)) := by
  refine va_newq hexec hb hown hclink hover hK hP hD hS hA hn hN hbytes hcells hslots hdg (fun q cA H1 hK1 hP1 hD1 hS1 => ?_)
  obtain ⟨_, _, _, _, _, h1⟩ := (hK1.2 5 (cA, .object "CallerHall$Moment") rfl).2
  obtain ⟨_, _, _, _, _, h2⟩ := (hK.2 4 (E.2.1 4, .object "CallerHall$Moment") rfl).2
  have h3 : cA = E.2.1 4 := Option.some.inj (h1.symm.trans h2)
  subst h3
  exact kk q H1 hP1 hD1 hS1
end MyNew
