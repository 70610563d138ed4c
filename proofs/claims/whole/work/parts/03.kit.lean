/-! my own rows: one list of words for all methods, contracts in one form, a row for a call, a row for an end -/
def TB : List Cond := lw_tbl.filter goodWord
theorem TB_in {w : Cond} (i : Nat) (h : lw_tbl[i]? = some w) (g : goodWord w = true) : w ∈ TB := List.mem_filter.mpr ⟨List.mem_of_getElem? h, g⟩
theorem TB_good : GoodIn TB TB := fun w h => ⟨h, good_of_word (List.mem_filter.mp h).2⟩
theorem TB_goodC {w : Cond} (h : w ∈ TB) : GoodIn TB (w :: TB) := fun v hv => (List.mem_cons.mp hv).elim (fun e => e ▸ TB_good w h) (TB_good v)
def sqX : Nat → Int32 := fun k => ([4, 8, 12, 12, 8, 4, 0, 0] : List Int32).getD k 0
def sqY : Nat → Int32 := fun k => ([0, 0, 4, 8, 12, 12, 8, 4] : List Int32).getD k 0
abbrev cTY (g : Nat → ClassId) : List (ClassId × FieldType) := [(g 0, .byte), (g 1, .int), (g 2, .long), (g 3, .short), (g 4, .object "CallerHall$Moment")]
def kwT : String := "form figure part allow on counts price do repeat until most if else for all larks robins heads sides couple dancer facing in at or and not home count is forms n e s w any lark robin "
def kwB : Nat → Int32 := fun k => ([102, 111, 114, 109, 32, 102, 105, 103, 117, 114, 101, 32, 112, 97, 114, 116, 32, 97, 108, 108, 111, 119, 32, 111, 110, 32, 99, 111, 117, 110, 116, 115, 32, 112, 114, 105, 99, 101, 32, 100, 111, 32, 114, 101, 112, 101, 97, 116, 32, 117, 110, 116, 105, 108, 32, 109, 111, 115, 116, 32, 105, 102, 32, 101, 108, 115, 101, 32, 102, 111, 114, 32, 97, 108, 108, 32, 108, 97, 114, 107, 115, 32, 114, 111, 98, 105, 110, 115, 32, 104, 101, 97, 100, 115, 32, 115, 105, 100, 101, 115, 32, 99, 111, 117, 112, 108, 101, 32, 100, 97, 110, 99, 101, 114, 32, 102, 97, 99, 105, 110, 103, 32, 105, 110, 32, 97, 116, 32, 111, 114, 32, 97, 110, 100, 32, 110, 111, 116, 32, 104, 111, 109, 101, 32, 99, 111, 117, 110, 116, 32, 105, 115, 32, 102, 111, 114, 109, 115, 32, 110, 32, 101, 32, 115, 32, 119, 32, 97, 110, 121, 32, 108, 97, 114, 107, 32, 114, 111, 98, 105, 110, 32] : List Int32).getD k 0
def sgT : String := "{}(),;=&"
def sgB : Nat → Int32 := fun k => ([123, 125, 40, 41, 44, 59, 61, 38] : List Int32).getD k 0
/-- a String constant: an object of String with coder 0 and its bytes -/
def cStr (a v n : Nat) (f : Nat → Int32) (A : Nat → Prop) (U : State) (H : Heap) : Prop :=
  va_O "java/lang/String" a A U H ∧ va_OF "java/lang/String" "coder" "B" (.int 0) a A U H ∧ va_OF "java/lang/String" "value" "[B" (.ref v) a A U H ∧ va_T .byte v n (fun j => .int (f j)) A U H
theorem cStr.moved {a v n : Nat} {f : Nat → Int32} {A : Nat → Prop} {u U : State} {H : Heap} (hvm : u.vm.Alike U.vm) (h : cStr a v n f A u H) : cStr a v n f A U H := ⟨h.1.moved hvm, h.2.1.moved hvm, h.2.2.1.moved hvm, h.2.2.2.moved hvm⟩
theorem cStr.kept {a v n : Nat} {f : Nat → Int32} {A : Nat → Prop} {U : State} {H H1 : Heap} (h : cStr a v n f A U H) (hq : ∀ a : Nat, a < H.size → ¬ A a → H1[a]? = H[a]?) : cStr a v n f A U H1 := ⟨h.1.kept hq, h.2.1.kept hq, h.2.2.1.kept hq, h.2.2.2.kept hq⟩
theorem cStr.narrow {a v n : Nat} {f : Nat → Int32} {A B : Nat → Prop} {U : State} {H : Heap} (h : cStr a v n f A U H) (hAB : ∀ q, B q → A q) : cStr a v n f B U H := ⟨h.1.narrow hAB, h.2.1.narrow hAB, h.2.2.1.narrow hAB, h.2.2.2.narrow hAB⟩
def cStrs (z : Nat → Nat) (A : Nat → Prop) (U : State) (H : Heap) : Prop :=
  (vk_R "CallerHall$Tokens" 32 kwT (z 2) U ∧ vk_R "CallerHallModel" 297 kwT (z 2) U ∧ vk_R "CallerHall$Tokens" 78 sgT (z 4) U) ∧ cStr (z 2) (z 3) 182 kwB A U H ∧ cStr (z 4) (z 5) 8 sgB A U H ∧
  va_Z "java/lang/String" "COMPACT_STRINGS" "Z" (.int 1) A U H ∧ va_Zq "jdk/internal/util/Preconditions" "SIOOBE_FORMATTER" "Ljava/util/function/BiFunction;" A U H
theorem cStrs.warm {z : Nat → Nat} {A : Nat → Prop} {u U : State} {H : Heap} (hW : u.WarmedH U.vm) (h : cStrs z A u H) : cStrs z A U H := ⟨⟨h.1.1.warm hW, h.1.2.1.warm hW, h.1.2.2.warm hW⟩, h.2.1.moved hW.alike, h.2.2.1.moved hW.alike, h.2.2.2.1.moved hW.alike, h.2.2.2.2.moved hW.alike⟩
theorem cStrs.same {z : Nat → Nat} {A : Nat → Prop} {u U : State} {H : Heap} (hv : u.vm = U.vm) (h : cStrs z A u H) : cStrs z A U H := by
  have hA : u.vm.Alike U.vm := by rw [hv]; exact Vm.Alike.refl _
  exact ⟨⟨vk_R.same hv.symm h.1.1, vk_R.same hv.symm h.1.2.1, vk_R.same hv.symm h.1.2.2⟩, h.2.1.moved hA, h.2.2.1.moved hA, h.2.2.2.1.moved hA, h.2.2.2.2.moved hA⟩
theorem cStrs.kept {z : Nat → Nat} {A : Nat → Prop} {U : State} {H H1 : Heap} (h : cStrs z A U H) (hq : ∀ a : Nat, a < H.size → ¬ A a → H1[a]? = H[a]?) : cStrs z A U H1 := ⟨h.1, h.2.1.kept hq, h.2.2.1.kept hq, h.2.2.2.1.kept hq, h.2.2.2.2.kept hq⟩
theorem cStrs.narrow {z : Nat → Nat} {A B : Nat → Prop} {U : State} {H : Heap} (h : cStrs z A U H) (hAB : ∀ q, B q → A q) : cStrs z B U H := ⟨h.1, h.2.1.narrow hAB, h.2.2.1.narrow hAB, h.2.2.2.1.narrow hAB, h.2.2.2.2.narrow hAB⟩
/-- the surroundings: static tables, links between nest mates, String constants -/
def cZ (z : Nat → Nat) (A : Nat → Prop) (U : State) (H : Heap) : Prop :=
  (va_Z "CallerHall$Floor" "SQUARE_X" "[I" (.ref (z 0)) A U H ∧ va_T .int (z 0) 8 (fun j => .int (sqX j)) A U H) ∧
  (va_Z "CallerHall$Floor" "SQUARE_Y" "[I" (.ref (z 1)) A U H ∧ va_T .int (z 1) 8 (fun j => .int (sqY j)) A U H) ∧
  va_AO "CallerHall$Moment" U ∧
  va_Nw (.methodLinkNest "CallerHall" 18 ⟨"CallerHall$Book", "<init>", "()V"⟩ "CallerHall") U ∧
  va_Nw (.methodLinkNest "CallerHall" 43 ⟨"CallerHall$Floor", "<init>", "()V"⟩ "CallerHall") U ∧
  va_Nw (.methodLinkNest "CallerHall" 65 ⟨"CallerHall$History", "<init>", "()V"⟩ "CallerHall") U ∧
  va_Nw (.methodLinkNest "CallerHall$Tokens" 83 ⟨"CallerHall", "lettersOf", "([BII)J"⟩ "CallerHall") U ∧
  va_Nw (.methodLinkNest "CallerHall$History" 22 ⟨"CallerHall$Moment", "<init>", "()V"⟩ "CallerHall") U ∧ cStrs z A U H
theorem cZ.warm {z : Nat → Nat} {A : Nat → Prop} {u U : State} {H : Heap} (hW : u.WarmedH U.vm) (h : cZ z A u H) : cZ z A U H := by
  obtain ⟨⟨a1, a2⟩, ⟨b1, b2⟩, o, n1, n2, n3, n4, n5, g1⟩ := h
  exact ⟨⟨a1.moved hW.alike, a2.moved hW.alike⟩, ⟨b1.moved hW.alike, b2.moved hW.alike⟩, o.moved hW.alike, va_Nw.warmM hW n1, va_Nw.warmM hW n2, va_Nw.warmM hW n3, va_Nw.warmM hW n4, va_Nw.warmM hW n5, g1.warm hW⟩
theorem cZ.same {z : Nat → Nat} {A : Nat → Prop} {u U : State} {H : Heap} (hv : u.vm = U.vm) (h : cZ z A u H) : cZ z A U H := by
  have hA : u.vm.Alike U.vm := by rw [hv]; exact Vm.Alike.refl _
  obtain ⟨⟨a1, a2⟩, ⟨b1, b2⟩, o, n1, n2, n3, n4, n5, g1⟩ := h
  exact ⟨⟨a1.moved hA, a2.moved hA⟩, ⟨b1.moved hA, b2.moved hA⟩, o.moved hA, va_Nw.same rfl hv n1, va_Nw.same rfl hv n2, va_Nw.same rfl hv n3, va_Nw.same rfl hv n4, va_Nw.same rfl hv n5, g1.same hv⟩
theorem cZ.kept {z : Nat → Nat} {A : Nat → Prop} {U : State} {H H1 : Heap} (h : cZ z A U H) (hq : ∀ a : Nat, a < H.size → ¬ A a → H1[a]? = H[a]?) : cZ z A U H1 := by
  obtain ⟨⟨a1, a2⟩, ⟨b1, b2⟩, o, n1, n2, n3, n4, n5, g1⟩ := h
  exact ⟨⟨a1.kept hq, a2.kept hq⟩, ⟨b1.kept hq, b2.kept hq⟩, o, n1, n2, n3, n4, n5, g1.kept hq⟩
theorem cZ.narrow {z : Nat → Nat} {A B : Nat → Prop} {U : State} {H : Heap} (h : cZ z A U H) (hAB : ∀ q, B q → A q) : cZ z B U H := by
  obtain ⟨⟨a1, a2⟩, ⟨b1, b2⟩, o, n1, n2, n3, n4, n5, g1⟩ := h
  exact ⟨⟨a1.narrow hAB, a2.narrow hAB⟩, ⟨b1.narrow hAB, b2.narrow hAB⟩, o, n1, n2, n3, n4, n5, g1.narrow hAB⟩
/-- the launch's numbers: classes and slots, array classes, the statics' addresses -/
abbrev cE : Type := va_G × (Nat → ClassId) × (Nat → Nat)
def cPre (E : cE) (av : List Value) (w : va_W) (sz : Nat) : Array Value → State → Prop :=
  va_Pc av (fun U => U.heap.size = sz ∧ va_P E.1 vwCl w U.heap ∧ va_K E.1 vwCl (cTY E.2.1) U ∧ va_D (fun _ => True) w ∧ cZ E.2.2 (va_A w sz) U U.heap)
def cAt (E : cE) (A : Nat → Prop) {S : Type} (w' : S → va_W) (u : S) (t : State) : Prop := va_P E.1 vwCl (w' u) t.heap ∧ va_K E.1 vwCl (cTY E.2.1) t ∧ va_D A (w' u)
/-- a contract: method y, its code, locals, answer; the room; arguments; the world; what comes -/
def cM (l : Launch) (E : cE) (y : MethodName) (cc : ByteArray) (mL : Nat) (ret : Option FieldType) (rm : Room) (av : List Value) (w : va_W) (Qf : (Nat → Prop) → Array Value → State → Outcome → State → Prop) : Prop :=
  ∀ sz : Nat, Met l y (.code y cc mL ret :: TB) rm (cPre E av w sz) (Qf (va_A w sz)) rm.cells rm.slots (va_A w sz)
abbrev qV (E : cE) {S : Type} (post : S → Prop) (w' : S → va_W) : (Nat → Prop) → Array Value → State → Outcome → State → Prop := fun A => va_Qv post (cAt E A w') A
abbrev qI (E : cE) {S : Type} (post : Int32 → S → Prop) (w' : S → va_W) : (Nat → Prop) → Array Value → State → Outcome → State → Prop := fun A => va_Qi post (cAt E A w') A
abbrev qL (E : cE) {S : Type} (post : Int64 → S → Prop) (w' : S → va_W) : (Nat → Prop) → Array Value → State → Outcome → State → Prop := fun A => va_Ql post (cAt E A w') A
abbrev qQ (E : cE) {S : Type} (post : Option Nat → S → Prop) (w' : S → va_W) : (Nat → Prop) → Array Value → State → Outcome → State → Prop := fun A => va_Qq post (cAt E A w') A
/-- what a body knows of itself -/
def cX (p : Program) (s : State) (m : MethodId) (meth : Method) (c : Code) (cc : ByteArray) (mL : Nat) (ret : Option FieldType) (y : MethodName) (args : Array Value) : Prop :=
  p.tables.exec = Jvm.exec ∧ c.code = cc ∧ meth.sig.returnType = ret ∧ c.maxLocals = mL ∧ s.vm.findClass y.cls = some m.cls ∧ (∀ w ∈ TB, w.before args s = true) ∧ meth.locks = false ∧ meth.name = y.name
theorem cM_of {l : Launch} {E : cE} {y : MethodName} {cc : ByteArray} {mL : Nat} {ret : Option FieldType} {rm : Room} {av : List Value} {w : va_W} {Qf : (Nat → Prop) → Array Value → State → Outcome → State → Prop}
    (hy : plainName y.cls = true) (hfit : (lg_sl av).length ≤ mL)
    (body : ∀ (p : Program) (e : Env) (s : State) (m : MethodId) (below : List Frame) (meth : Method) (c : Code) (ls : Array Slot) (A : Nat → Prop), cX p s m meth c cc mL ret y av.toArray → (∀ q : Nat, s.heap.size ≤ q → A q) → va_S A s.heap s.heap [] → va_P E.1 vwCl w s.heap → va_D A w → va_K E.1 vwCl (cTY E.2.1) s → cZ E.2.2 A s s.heap → lv_has ls mL (lv_args 0 av) →
      W p l e rm s m av.toArray below meth c s.heap [] 0 0 (MQ below (Qf A) av.toArray s rm.cells rm.slots A) (F0 m 0 ls [])) : cM l E y cc mL ret rm av w Qf := by
  intro sz
  refine Met.ofW (cc := cc) (maxL := mL) (ret := ret) hy rfl ?_
  intro p e s m args below meth c s₁ B hml hv
  obtain ⟨rfl, hsz, hP, hK, hD0, hZ⟩ := hv
  have hts := atoms_spec (ws := .code y cc mL ret :: TB) B.pre
  have hn := name_of_methodNamed B.named B.method
  subst hsz
  have hD := hD0.self (sz := s.heap.size)
  have hl := lv_entry av (n := mL) hfit
  rw [lg_entry_eq]
  exact body p e s m below meth c _ _ ⟨B.exec, B.bytes, B.returns, hml, findClass_of_methodNamed B.named, fun w h => hts w (List.mem_cons_of_mem _ h), B.notSynchronized, hn.1⟩ (fun q h => Or.inr h) va_S.rf hP hD hK hZ hl
theorem cw_fm {ws w' : va_W} {is : List Nat} (h : is.map (fun i => ws[i]?) = w'.map some) : is.filterMap (fun i => ws[i]?) = w' := by
  have h2 : (is.map (fun i => ws[i]?)).filterMap id = (w'.map some).filterMap id := by rw [h]
  rw [List.filterMap_map, List.filterMap_map] at h2
  simpa [Function.comp_def] using h2
section MyRows
variable {p : Program} {l : Launch} {e : Env} {R : Room} {s : State} {m : MethodId} {args : Array Value} {below : List Frame} {meth : Method} {c : Code} {H : Heap} {locs : List Loc} {cells slots : Nat} {Q : State → Prop}
variable {E : cE} {A : Nat → Prop} {ws : va_W} {cc : ByteArray} {mL : Nat} {ret : Option FieldType} {y0 : MethodName} {pc : Nat} {ls : Array Slot}
theorem cM_blind {av : List Value} {w : va_W} {sz : Nat} : FrameBlind (cPre E av w sz) := by
  intro a U g mk q
  obtain ⟨q0, q1, qP, qK, qD, qZ⟩ := q
  exact ⟨q0, q1, qP, va_K.moved (u := U) (U := U.calling g mk a) (Vm.Alike.refl U.vm) qK, qD, cZ.same (u := U) (U := U.calling g mk a) rfl qZ⟩
theorem cM_pre {av : List Value} {wc : va_W} (hP : va_P E.1 vwCl ws H) (hD : va_D A ws) (hS : va_S A s.heap H locs) (hK : va_K E.1 vwCl (cTY E.2.1) s) (hZ : cZ E.2.2 A s s.heap) (hA : ∀ q : Nat, s.heap.size ≤ q → A q) (isC : List Nat) (hn : va_nd isC = true) (hC : isC.map (fun i => ws[i]?) = wc.map some) :
    ∀ U : State, U.heap = H → s.WarmedH U.vm → cPre E av wc H.size av.toArray U := by
  intro U hU hW
  have hF := va_free (wc := wc) hD hS hA isC hC
  refine ⟨rfl, by rw [hU], by rw [hU]; exact hP.sub isC (cw_fm hC), va_K.moved hW.alike hK, (hD.sub isC hn hC).weaken (fun _ _ _ _ => trivial), ?_⟩
  rw [hU]
  exact cZ.warm hW ((hZ.kept (fun a h1 h2 => hS.2.1 a h1 h2)).narrow hF)
/-- the words of a call -/
theorem cM_cb {y : MethodName} {bytes : ByteArray} {maxL : Nat} {ret1 : Option FieldType} {rm : Room} {own : String} {idx n : Nat} (hts : ∀ w ∈ TB, w.before args s = true) (hcode : Cond.code y bytes maxL ret1 ∈ TB) (hini : Cond.initialized y.cls ∈ TB) (hlink : Cond.methodLink own idx y ∈ TB) (hd : (y.cls ≠ "java/lang/invoke/MethodHandle" ∧ y.cls ≠ "java/lang/invoke/VarHandle" ∧ (parseMethodDescriptor y.desc).map (fun d => d.parameters.length) = some n)) (hR : rm.frames + 1 ≤ R.frames ∧ 8 + (maxL + 11) + rm.locals ≤ R.locals) :
    CallB R s args own idx y bytes maxL ret1 (.code y bytes maxL ret1 :: TB) rm rm.cells rm.slots n := callB_of n hts (TB_goodC hcode) rfl rfl rfl (hts _ hini) (hts _ hlink) hd hR
/-- what a callee is: its contract, and the words it needs -/
def cY (y : MethodName) (bytes : ByteArray) (maxL : Nat) (ret1 : Option FieldType) (n : Nat) : Prop := Cond.code y bytes maxL ret1 ∈ TB ∧ Cond.initialized y.cls ∈ TB ∧ (y.cls ≠ "java/lang/invoke/MethodHandle" ∧ y.cls ≠ "java/lang/invoke/VarHandle" ∧ (parseMethodDescriptor y.desc).map (fun d => d.parameters.length) = some n)
def cYi (y : MethodName) : Prop := Cond.instanceMethod y ∈ TB ∧ Cond.selects y.cls y y ∈ TB
variable {y : MethodName} {bytes : ByteArray} {maxL : Nat} {ret1 : Option FieldType} {rm : Room} {idx n : Nat} {As rest st0 : List Value} {b : Nat} {wc wr : va_W} {Qf : (Nat → Prop) → Array Value → State → Outcome → State → Prop}
theorem cM_runV (F : cX p s m meth c cc mL ret y0 args) (hM : cM l E y bytes maxL ret1 rm (.ref b :: As) wc Qf) (hY : cY y bytes maxL ret1 n) (hI : cYi y) (hlink : Cond.methodLink y0.cls idx y ∈ TB) (hP : va_P E.1 vwCl ws H) (hD : va_D A ws) (hS : va_S A s.heap H locs) (hK : va_K E.1 vwCl (cTY E.2.1) s) (hZ : cZ E.2.2 A s s.heap) (hA : ∀ q : Nat, s.heap.size ≤ q → A q) (isC : List Nat) (hn : va_nd isC = true) (hC : isC.map (fun i => ws[i]?) = wc.map some)
    (rq ci : Nat) {rfs : List Value} {T : u_T} {N : Nat} (hrq : ws[rq]? = some (b, .inr (ci, rfs))) (hci : vwCl[ci]? = some (y.cls, T, N)) (hlen : As.length = n) (hsz : ls.size = mL) (hst : st0 = As.reverse ++ .ref b :: rest) (hcat : (rest.map fun v => v.category).sum ≤ 8) (hdg : decode cc pc = .ok (.invokevirtual idx, 3)) (hR : rm.frames + 1 ≤ R.frames ∧ 8 + (maxL + 11) + rm.locals ≤ R.locals) (hf : cells + rm.cells ≤ R.cells ∧ slots + rm.slots ≤ R.slots) :
    va_Run p l e R s m args below meth c H locs cells slots rm.cells rm.slots (F0 m pc ls st0) rest (Qf (va_A wc H.size) (Value.ref b :: As).toArray) (va_A wc H.size) := by
  obtain ⟨hx, hb, hr, hml, hown, hts, hlk, hin⟩ := F
  exact va_runV (C := y.cls) ⟨hx, hb, hml, hown, hts⟩ (hM H.size) ⟨cM_cb hts hY.1 hY.2.1 hlink hY.2.2 hR, hts _ hI.1, hts _ hI.2⟩ ⟨cM_blind, va_recv (q := (y.cls, T, N)) hK hP hci hrq, cM_pre hP hD hS hK hZ hA isC hn hC⟩ rfl hlen hsz hst (lv_room hcat) hdg hf
theorem cM_runS (F : cX p s m meth c cc mL ret y0 args) (hM : cM l E y bytes maxL ret1 rm As wc Qf) (hY : cY y bytes maxL ret1 n) (hsta : Cond.static y ∈ TB) (hlink : Cond.methodLink y0.cls idx y ∈ TB) (hP : va_P E.1 vwCl ws H) (hD : va_D A ws) (hS : va_S A s.heap H locs) (hK : va_K E.1 vwCl (cTY E.2.1) s) (hZ : cZ E.2.2 A s s.heap) (hA : ∀ q : Nat, s.heap.size ≤ q → A q) (isC : List Nat) (hn : va_nd isC = true) (hC : isC.map (fun i => ws[i]?) = wc.map some)
    (hlen : As.length = n) (hsz : ls.size = mL) (hst : st0 = As.reverse ++ rest) (hcat : (rest.map fun v => v.category).sum ≤ 8) (hdg : decode cc pc = .ok (.invokestatic idx, 3)) (hR : rm.frames + 1 ≤ R.frames ∧ 8 + (maxL + 11) + rm.locals ≤ R.locals) (hf : cells + rm.cells ≤ R.cells ∧ slots + rm.slots ≤ R.slots) :
    va_Run p l e R s m args below meth c H locs cells slots rm.cells rm.slots (F0 m pc ls st0) rest (Qf (va_A wc H.size) As.toArray) (va_A wc H.size) := by
  obtain ⟨hx, hb, hr, hml, hown, hts, hlk, hin⟩ := F
  exact va_runS ⟨hx, hb, hml, hown, hts⟩ (hM H.size) ⟨cM_cb hts hY.1 hY.2.1 hlink hY.2.2 hR, hts _ hsta⟩ ⟨cM_blind, cM_pre hP hD hS hK hZ hA isC hn hC⟩ rfl hlen hsz hst (lv_room hcat) hdg hf
theorem cM_runI (F : cX p s m meth c cc mL ret y0 args) (hM : cM l E y bytes maxL none rm (.ref b :: As) wc Qf) (hY : cY y bytes maxL none n) (hI : Cond.instanceMethod y ∈ TB) (hy1 : y.name = "<init>") (hlink : Cond.methodLink y0.cls idx y ∈ TB) (hP : va_P E.1 vwCl ws H) (hD : va_D A ws) (hS : va_S A s.heap H locs) (hK : va_K E.1 vwCl (cTY E.2.1) s) (hZ : cZ E.2.2 A s s.heap) (hA : ∀ q : Nat, s.heap.size ≤ q → A q) (isC : List Nat) (hn : va_nd isC = true) (hC : isC.map (fun i => ws[i]?) = wc.map some)
    (hlen : As.length = n) (hsz : ls.size = mL) (hst : st0 = As.reverse ++ .ref b :: rest) (hcat : (rest.map fun v => v.category).sum ≤ 8) (hdg : decode cc pc = .ok (.invokespecial idx, 3)) (hR : rm.frames + 1 ≤ R.frames ∧ 8 + (maxL + 11) + rm.locals ≤ R.locals) (hf : cells + rm.cells ≤ R.cells ∧ slots + rm.slots ≤ R.slots) :
    va_Run p l e R s m args below meth c H locs cells slots rm.cells rm.slots (F0 m pc ls st0) rest (Qf (va_A wc H.size) (Value.ref b :: As).toArray) (va_A wc H.size) := by
  obtain ⟨hx, hb, hr, hml, hown, hts, hlk, hin⟩ := F
  exact va_runI ⟨hx, hb, hml, hown, hts⟩ (hM H.size) ⟨cM_cb hts hY.1 hY.2.1 hlink hY.2.2 hR, hy1, hts _ hI⟩ ⟨cM_blind, cM_pre hP hD hS hK hZ hA isC hn hC⟩ rfl hlen hsz hst (lv_room hcat) hdg hf
theorem cM_runIN (F : cX p s m meth c cc mL ret y0 args) (hM : cM l E y bytes maxL none rm (.ref b :: As) wc Qf) (hY : cY y bytes maxL none n) (hI : Cond.instanceMethod y ∈ TB) (hy1 : y.name = "<init>") {host : String} (hlink : va_Nw (.methodLinkNest y0.cls idx y host) s) (hP : va_P E.1 vwCl ws H) (hD : va_D A ws) (hS : va_S A s.heap H locs) (hK : va_K E.1 vwCl (cTY E.2.1) s) (hZ : cZ E.2.2 A s s.heap) (hA : ∀ q : Nat, s.heap.size ≤ q → A q) (isC : List Nat) (hn : va_nd isC = true) (hC : isC.map (fun i => ws[i]?) = wc.map some)
    (hlen : As.length = n) (hsz : ls.size = mL) (hst : st0 = As.reverse ++ .ref b :: rest) (hcat : (rest.map fun v => v.category).sum ≤ 8) (hdg : decode cc pc = .ok (.invokespecial idx, 3)) (hR : rm.frames + 1 ≤ R.frames ∧ 8 + (maxL + 11) + rm.locals ≤ R.locals) (hf : cells + rm.cells ≤ R.cells ∧ slots + rm.slots ≤ R.slots) :
    va_Run p l e R s m args below meth c H locs cells slots rm.cells rm.slots (F0 m pc ls st0) rest (Qf (va_A wc H.size) (Value.ref b :: As).toArray) (va_A wc H.size) := by
  obtain ⟨hx, hb, hr, hml, hown, hts, hlk, hin⟩ := F
  exact va_runIN (n := n) ⟨hx, hb, hml, hown, hts⟩ (hM H.size) ⟨va_cnB n hts (TB_goodC hY.1) rfl rfl rfl hlink (hts _ hY.2.1) hY.2.2 hR, hy1, hts _ hI⟩ ⟨cM_blind, cM_pre hP hD hS hK hZ hA isC hn hC⟩ rfl hlen hsz hst (lv_room hcat) hdg hf
/-- behind a call: the callee's world beside the rest -/
theorem cM_back {S : Type} {w' : S → va_W} {u : S} {t : State} {H1 : Heap} (hP : va_P E.1 vwCl ws H) (hD : va_D A ws) (hS : va_S A s.heap H locs) (hA : ∀ q : Nat, s.heap.size ≤ q → A q) (isC isR : List Nat) (hC : isC.map (fun i => ws[i]?) = wc.map some) (hRs : isR.map (fun i => ws[i]?) = wr.map some) (hnR : va_nd isR = true) (hdis : ∀ i ∈ isR, i ∉ isC) (ht : t.heap = H1) (hB : cAt E (va_A wc H.size) w' u t) (hk1 : ∀ q : Nat, q < H.size → ¬ va_A wc H.size q → H1[q]? = H[q]?) :
    va_P E.1 vwCl (wr ++ w' u) H1 ∧ va_D A (wr ++ w' u) := by
  obtain ⟨hP1, hK1, hD1⟩ := hB
  rw [ht] at hP1
  exact va_join hP hD isC isR hC hRs hnR hdis hk1 (va_free (wc := wc) hD hS hA isC hC) hP1 hD1
theorem cI_go {S : Type} {post : Int32 → S → Prop} {w' : S → va_W} {a : Array Value} (hr : va_Run p l e R s m args below meth c H locs cells slots rm.cells rm.slots (F0 m pc ls st0) rest (qI E post w' (va_A wc H.size) a) (va_A wc H.size)) (hP : va_P E.1 vwCl ws H) (hD : va_D A ws) (hS : va_S A s.heap H locs) (hA : ∀ q : Nat, s.heap.size ≤ q → A q) (isC isR : List Nat) (hC : isC.map (fun i => ws[i]?) = wc.map some) (hRs : isR.map (fun i => ws[i]?) = wr.map some) (hnR : va_nd isR = true) (hdis : ∀ i ∈ isR, i ∉ isC)
    (kk : ∀ (r : Int32) (u : S) (H1 : Heap) (locs1 : List Loc), post r u → va_P E.1 vwCl (wr ++ w' u) H1 → va_D A (wr ++ w' u) → va_S A s.heap H1 locs1 → W p l e R s m args below meth c H1 locs1 (cells + rm.cells) (slots + rm.slots) Q (F0 m (pc + 3) ls (.int r :: rest))) : W p l e R s m args below meth c H locs cells slots Q (F0 m pc ls st0) := by
  have hF := va_free (wc := wc) hD hS hA isC hC
  refine va_calli hr hS (fun q _ h => hF q h) hF (fun r u t H1 locs1 ht hvm hw hB hz1 hk1 hS1 => ?_)
  obtain ⟨h1, h2⟩ := cM_back hP hD hS hA isC isR hC hRs hnR hdis ht hB hk1
  exact kk r u H1 locs1 hw h1 h2 hS1
theorem cL_go {S : Type} {post : Int64 → S → Prop} {w' : S → va_W} {a : Array Value} (hr : va_Run p l e R s m args below meth c H locs cells slots rm.cells rm.slots (F0 m pc ls st0) rest (qL E post w' (va_A wc H.size) a) (va_A wc H.size)) (hP : va_P E.1 vwCl ws H) (hD : va_D A ws) (hS : va_S A s.heap H locs) (hA : ∀ q : Nat, s.heap.size ≤ q → A q) (isC isR : List Nat) (hC : isC.map (fun i => ws[i]?) = wc.map some) (hRs : isR.map (fun i => ws[i]?) = wr.map some) (hnR : va_nd isR = true) (hdis : ∀ i ∈ isR, i ∉ isC)
    (kk : ∀ (r : Int64) (u : S) (H1 : Heap) (locs1 : List Loc), post r u → va_P E.1 vwCl (wr ++ w' u) H1 → va_D A (wr ++ w' u) → va_S A s.heap H1 locs1 → W p l e R s m args below meth c H1 locs1 (cells + rm.cells) (slots + rm.slots) Q (F0 m (pc + 3) ls (.long r :: rest))) : W p l e R s m args below meth c H locs cells slots Q (F0 m pc ls st0) := by
  have hF := va_free (wc := wc) hD hS hA isC hC
  refine va_calll hr hS (fun q _ h => hF q h) hF (fun r u t H1 locs1 ht hvm hw hB hz1 hk1 hS1 => ?_)
  obtain ⟨h1, h2⟩ := cM_back hP hD hS hA isC isR hC hRs hnR hdis ht hB hk1
  exact kk r u H1 locs1 hw h1 h2 hS1
theorem cV_go {S : Type} {post : S → Prop} {w' : S → va_W} {a : Array Value} (hr : va_Run p l e R s m args below meth c H locs cells slots rm.cells rm.slots (F0 m pc ls st0) rest (qV E post w' (va_A wc H.size) a) (va_A wc H.size)) (hP : va_P E.1 vwCl ws H) (hD : va_D A ws) (hS : va_S A s.heap H locs) (hA : ∀ q : Nat, s.heap.size ≤ q → A q) (isC isR : List Nat) (hC : isC.map (fun i => ws[i]?) = wc.map some) (hRs : isR.map (fun i => ws[i]?) = wr.map some) (hnR : va_nd isR = true) (hdis : ∀ i ∈ isR, i ∉ isC)
    (kk : ∀ (u : S) (H1 : Heap) (locs1 : List Loc), post u → va_P E.1 vwCl (wr ++ w' u) H1 → va_D A (wr ++ w' u) → va_S A s.heap H1 locs1 → W p l e R s m args below meth c H1 locs1 (cells + rm.cells) (slots + rm.slots) Q (F0 m (pc + 3) ls rest)) : W p l e R s m args below meth c H locs cells slots Q (F0 m pc ls st0) := by
  have hF := va_free (wc := wc) hD hS hA isC hC
  refine va_callv hr hS (fun q _ h => hF q h) hF (fun u t H1 locs1 ht hvm hw hB hz1 hk1 hS1 => ?_)
  obtain ⟨h1, h2⟩ := cM_back hP hD hS hA isC isR hC hRs hnR hdis ht hB hk1
  exact kk u H1 locs1 hw h1 h2 hS1
theorem cV_ret {S : Type} {post : S → Prop} {w' : S → va_W} (F : cX p s m meth c cc mL none y0 args) (hP : va_P E.1 vwCl ws H) (hD : va_D A ws) (hS : va_S A s.heap H locs) (hK : va_K E.1 vwCl (cTY E.2.1) s) (u : S) (hu : post u) (is : List Nat) (hn : va_nd is = true) (hw : is.map (fun i => ws[i]?) = (w' u).map some) (hdg : decode cc pc = .ok (.return_, 1)) {mc ms : Nat} (h1 : cells ≤ mc) (h2 : slots ≤ ms) :
    W p l e R s m args below meth c H locs cells slots (MQ below (qV E post w' A) args s mc ms A) (F0 m pc ls []) := by
  obtain ⟨hx, hb, hr, hml, hown, hts, hlk, hin⟩ := F
  refine W.widen h1 h2 ?_
  exact W.vret hx hb hr (fun t ht hW => ⟨⟨u, rfl, hu, by rw [ht]; exact hP.sub is (cw_fm hw), va_K.moved hW.alike hK, hD.sub is hn hw⟩, hS.F ht⟩) hS.2.2 hdg
theorem cI_ret {S : Type} {post : Int32 → S → Prop} {w' : S → va_W} {v : Int32} (F : cX p s m meth c cc mL (some .int) y0 args) (hP : va_P E.1 vwCl ws H) (hD : va_D A ws) (hS : va_S A s.heap H locs) (hK : va_K E.1 vwCl (cTY E.2.1) s) (u : S) (hu : post v u) (is : List Nat) (hn : va_nd is = true) (hw : is.map (fun i => ws[i]?) = (w' u).map some) (hdg : decode cc pc = .ok (.ireturn, 1)) {mc ms : Nat} (h1 : cells ≤ mc) (h2 : slots ≤ ms) :
    W p l e R s m args below meth c H locs cells slots (MQ below (qI E post w' A) args s mc ms A) (F0 m pc ls [.int v]) := by
  obtain ⟨hx, hb, hr, hml, hown, hts, hlk, hin⟩ := F
  refine W.widen h1 h2 ?_
  exact W.iret hx hb hr (fun t ht hW => ⟨⟨v, u, rfl, hu, by rw [ht]; exact hP.sub is (cw_fm hw), va_K.moved hW.alike hK, hD.sub is hn hw⟩, hS.F ht⟩) hS.2.2 hdg
theorem cB_ret {S : Type} {post : Int32 → S → Prop} {w' : S → va_W} {v : Int32} (F : cX p s m meth c cc mL (some .boolean) y0 args) (hP : va_P E.1 vwCl ws H) (hD : va_D A ws) (hS : va_S A s.heap H locs) (hK : va_K E.1 vwCl (cTY E.2.1) s) (hv : v = 0 ∨ v = 1) (u : S) (hu : post v u) (is : List Nat) (hn : va_nd is = true) (hw : is.map (fun i => ws[i]?) = (w' u).map some) (hdg : decode cc pc = .ok (.ireturn, 1)) {mc ms : Nat} (h1 : cells ≤ mc) (h2 : slots ≤ ms) :
    W p l e R s m args below meth c H locs cells slots (MQ below (qI E post w' A) args s mc ms A) (F0 m pc ls [.int v]) := by
  obtain ⟨hx, hb, hr, hml, hown, hts, hlk, hin⟩ := F
  refine W.widen h1 h2 ?_
  exact W.zret hx hb hr (by rcases hv with rfl | rfl <;> decide) (fun t ht hW => ⟨⟨v, u, rfl, hu, by rw [ht]; exact hP.sub is (cw_fm hw), va_K.moved hW.alike hK, hD.sub is hn hw⟩, hS.F ht⟩) hS.2.2 hdg
theorem cL_ret {S : Type} {post : Int64 → S → Prop} {w' : S → va_W} {v : Int64} (F : cX p s m meth c cc mL (some .long) y0 args) (hP : va_P E.1 vwCl ws H) (hD : va_D A ws) (hS : va_S A s.heap H locs) (hK : va_K E.1 vwCl (cTY E.2.1) s) (u : S) (hu : post v u) (is : List Nat) (hn : va_nd is = true) (hw : is.map (fun i => ws[i]?) = (w' u).map some) (hdg : decode cc pc = .ok (.lreturn, 1)) {mc ms : Nat} (h1 : cells ≤ mc) (h2 : slots ≤ ms) :
    W p l e R s m args below meth c H locs cells slots (MQ below (qL E post w' A) args s mc ms A) (F0 m pc ls [.long v]) := by
  obtain ⟨hx, hb, hr, hml, hown, hts, hlk, hin⟩ := F
  refine W.widen h1 h2 ?_
  exact W.lret hx hb hr (fun t ht hW => ⟨⟨v, u, rfl, hu, by rw [ht]; exact hP.sub is (cw_fm hw), va_K.moved hW.alike hK, hD.sub is hn hw⟩, hS.F ht⟩) hS.2.2 hdg
theorem cC_ret {S : Type} {post : Int32 → S → Prop} {w' : S → va_W} {v : Int32} {ty : FieldType} (F : cX p s m meth c cc mL (some ty) y0 args) (hP : va_P E.1 vwCl ws H) (hD : va_D A ws) (hS : va_S A s.heap H locs) (hK : va_K E.1 vwCl (cTY E.2.1) s) (hv : narrow ty (.int v) = .int v) (u : S) (hu : post v u) (is : List Nat) (hn : va_nd is = true) (hw : is.map (fun i => ws[i]?) = (w' u).map some) (hdg : decode cc pc = .ok (.ireturn, 1)) {mc ms : Nat} (h1 : cells ≤ mc) (h2 : slots ≤ ms) :
    W p l e R s m args below meth c H locs cells slots (MQ below (qI E post w' A) args s mc ms A) (F0 m pc ls [.int v]) := by
  obtain ⟨hx, hb, hr, hml, hown, hts, hlk, hin⟩ := F
  refine W.widen h1 h2 ?_
  exact W.zret hx hb hr hv (fun t ht hW => ⟨⟨v, u, rfl, hu, by rw [ht]; exact hP.sub is (cw_fm hw), va_K.moved hW.alike hK, hD.sub is hn hw⟩, hS.F ht⟩) hS.2.2 hdg
/-- a call whose receiver is a String constant (no cell of the world) -/
theorem cM_runVS (F : cX p s m meth c cc mL ret y0 args) (hM : cM l E y bytes maxL ret1 rm (.ref b :: As) wc Qf) (hY : cY y bytes maxL ret1 n) (hI : cYi y) (hlink : Cond.methodLink y0.cls idx y ∈ TB) (hP : va_P E.1 vwCl ws H) (hD : va_D A ws) (hS : va_S A s.heap H locs) (hK : va_K E.1 vwCl (cTY E.2.1) s) (hZ : cZ E.2.2 A s s.heap) (hA : ∀ q : Nat, s.heap.size ≤ q → A q) (isC : List Nat) (hn : va_nd isC = true) (hC : isC.map (fun i => ws[i]?) = wc.map some)
    (hO : va_O y.cls b A s s.heap) (hlen : As.length = n) (hsz : ls.size = mL) (hst : st0 = As.reverse ++ .ref b :: rest) (hcat : (rest.map fun v => v.category).sum ≤ 8) (hdg : decode cc pc = .ok (.invokevirtual idx, 3)) (hR : rm.frames + 1 ≤ R.frames ∧ 8 + (maxL + 11) + rm.locals ≤ R.locals) (hf : cells + rm.cells ≤ R.cells ∧ slots + rm.slots ≤ R.slots) :
    va_Run p l e R s m args below meth c H locs cells slots rm.cells rm.slots (F0 m pc ls st0) rest (Qf (va_A wc H.size) (Value.ref b :: As).toArray) (va_A wc H.size) := by
  obtain ⟨hx, hb, hr, hml, hown, hts, hlk, hin⟩ := F
  obtain ⟨cell, h1, h2, h3, -⟩ := hO.kept hS.2.1
  exact va_runV (C := y.cls) ⟨hx, hb, hml, hown, hts⟩ (hM H.size) ⟨cM_cb hts hY.1 hY.2.1 hlink hY.2.2 hR, hts _ hI.1, hts _ hI.2⟩ ⟨cM_blind, ⟨cell, h1, h2, h3⟩, cM_pre hP hD hS hK hZ hA isC hn hC⟩ rfl hlen hsz hst (lv_room hcat) hdg hf
end MyRows
