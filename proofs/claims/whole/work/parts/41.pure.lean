/-! pure states, worlds by a table, and rows for instructions over them -/
abbrev St : Type := (Nat → Nat → Int) × (Nat → Nat → Int64)
abbrev iv (a : Int) : Value := .int (Int32.ofInt a)
def pI (t : St) (k i : Nat) (v : Int) : St := (fun a b => bif Nat.beq a k && Nat.beq b i then v else t.1 a b, t.2)
def pL (t : St) (k i : Nat) (v : Int64) : St := (t.1, fun a b => bif Nat.beq a k && Nat.beq b i then v else t.2 a b)
theorem pI_ne {t : St} {k i a : Nat} {v : Int} (h : a ≠ k) : (pI t k i v).1 a = t.1 a := by
  funext b
  show (bif Nat.beq a k && Nat.beq b i then v else t.1 a b) = _
  rw [show Nat.beq a k = false from Bool.eq_false_iff.mpr (fun q => h (Nat.eq_of_beq_eq_true q))]; rfl
theorem pI_nf {t : St} {k i a b : Nat} {v : Int} (h : b ≠ i) : (pI t k i v).1 a b = t.1 a b := by
  show (bif Nat.beq a k && Nat.beq b i then v else t.1 a b) = _
  rw [show Nat.beq b i = false from Bool.eq_false_iff.mpr (fun q => h (Nat.eq_of_beq_eq_true q)), Bool.and_false]; rfl
theorem pI_at {t : St} {k i : Nat} {v : Int} : (pI t k i v).1 k i = v := by
  show (bif Nat.beq k k && Nat.beq i i then v else t.1 k i) = _
  rw [Nat.beq_refl, Nat.beq_refl]; rfl
theorem pI_up {t : St} {k i : Nat} {v : Int} : (fun j => Int32.ofInt ((pI t k i v).1 k j)) = upd (fun j => Int32.ofInt (t.1 k j)) i (Int32.ofInt v) := by
  funext j
  show Int32.ofInt (bif Nat.beq k k && Nat.beq j i then v else t.1 k j) = if j = i then Int32.ofInt v else Int32.ofInt (t.1 k j)
  by_cases h : j = i
  · subst h; rw [Nat.beq_refl, Nat.beq_refl, if_pos rfl]; rfl
  · rw [if_neg h, Nat.beq_refl, show Nat.beq j i = false from Bool.eq_false_iff.mpr (fun q => h (Nat.eq_of_beq_eq_true q))]; rfl
theorem pL_ne {t : St} {k i a : Nat} {v : Int64} (h : a ≠ k) : (pL t k i v).2 a = t.2 a := by
  funext b
  show (bif Nat.beq a k && Nat.beq b i then v else t.2 a b) = _
  rw [show Nat.beq a k = false from Bool.eq_false_iff.mpr (fun q => h (Nat.eq_of_beq_eq_true q))]; rfl
theorem pL_nf {t : St} {k i a b : Nat} {v : Int64} (h : b ≠ i) : (pL t k i v).2 a b = t.2 a b := by
  show (bif Nat.beq a k && Nat.beq b i then v else t.2 a b) = _
  rw [show Nat.beq b i = false from Bool.eq_false_iff.mpr (fun q => h (Nat.eq_of_beq_eq_true q)), Bool.and_false]; rfl
theorem pL_at {t : St} {k i : Nat} {v : Int64} : (pL t k i v).2 k i = v := by
  show (bif Nat.beq k k && Nat.beq i i then v else t.2 k i) = _
  rw [Nat.beq_refl, Nat.beq_refl]; rfl
theorem pL_up {t : St} {k i : Nat} {v : Int64} : (pL t k i v).2 k = vp_updL (t.2 k) i v := by
  funext j
  show (bif Nat.beq k k && Nat.beq j i then v else t.2 k j) = vp_updL (t.2 k) i v j
  by_cases h : j = i
  · subst h; rw [Nat.beq_refl, Nat.beq_refl]; simp [vp_updL]
  · rw [Nat.beq_refl, show Nat.beq j i = false from Bool.eq_false_iff.mpr (fun q => h (Nat.eq_of_beq_eq_true q))]; simp [vp_updL, h]
/-- a cell's row in the table: its name, its sort (9 an object; 0 bytes, 1 ints, 2 longs, 3 shorts), its class's number or its length, its fields -/
abbrev gS : Type := Nat × Nat × Nat × List (Nat × Nat)
def gv (r : Nat → Nat) (t : St) (id j : Nat) (q : Nat × Nat) : Value := bif Nat.beq q.1 0 then iv (t.1 id j) else bif Nat.beq q.1 1 then .ref (r q.2) else bif Nat.beq q.1 2 then .long (t.2 id j) else va_rf (if t.1 id j = 0 then none else some (r (t.1 id j - 1).toNat))
def gfs (r : Nat → Nat) (t : St) (id : Nat) (fs : List (Nat × Nat)) : List Value := fs.zipIdx.map (fun q => gv r t id q.2 q.1)
def gce (E : cE) (r : Nat → Nat) (t : St) (id so n : Nat) (fs : List (Nat × Nat)) : va_E := bif Nat.beq so 9 then ob n (gfs r t id fs) else bif Nat.beq so 1 then aI E n (fun i => Int32.ofInt (t.1 id i)) else bif Nat.beq so 2 then aJ E n (t.2 id) else bif Nat.beq so 0 then aB E n (fun i => Int32.ofInt (t.1 id i)) else aS E n (fun i => Int32.ofInt (t.1 id i))
def gc (E : cE) (r : Nat → Nat) (t : St) (q : gS) : Nat × va_E := (r q.1, gce E r t q.1 q.2.1 q.2.2.1 q.2.2.2)
def gW (E : cE) (r : Nat → Nat) (tab : List gS) (t : St) : va_W := tab.map (gc E r t)
def gU (tab : List gS) : Prop := ∀ (i j : Nat) (p q : gS), tab[i]? = some p → tab[j]? = some q → p.1 = q.1 → i = j
theorem gU_of {tab : List gS} (h : va_nd (tab.map (fun q => q.1)) = true) : gU tab := by
  intro i j p q hi hj e
  exact va_nd_inj _ h i j p.1 (by rw [List.getElem?_map, hi]; rfl) (by rw [List.getElem?_map, hj, e]; rfl)
theorem gW_at {E : cE} {r : Nat → Nat} {tab : List gS} {t : St} {j : Nat} {q : gS} (h : tab[j]? = some q) : (gW E r tab t)[j]? = some (gc E r t q) := by
  unfold gW; rw [List.getElem?_map, h]; rfl
theorem gfs_at {r : Nat → Nat} {t : St} {id f : Nat} {fs : List (Nat × Nat)} {q : Nat × Nat} (h : fs[f]? = some q) : (gfs r t id fs)[f]? = some (gv r t id f q) := by
  unfold gfs; rw [List.getElem?_map, List.getElem?_zipIdx, h]; simp
theorem gfs_len {r : Nat → Nat} {t : St} {id : Nat} {fs : List (Nat × Nat)} : (gfs r t id fs).length = fs.length := by unfold gfs; simp
theorem gce_same {E : cE} {r : Nat → Nat} {t t1 : St} {id so n : Nat} {fs : List (Nat × Nat)} (h1 : t1.1 id = t.1 id) (h2 : t1.2 id = t.2 id) : gce E r t1 id so n fs = gce E r t id so n fs := by
  unfold gce gfs gv
  rw [h1, h2]
theorem gW_set {E : cE} {r : Nat → Nat} {tab : List gS} {t t1 : St} {j : Nat} {q : gS} (hU : gU tab) (h : tab[j]? = some q) (hne : ∀ id, id ≠ q.1 → t1.1 id = t.1 id ∧ t1.2 id = t.2 id) : (gW E r tab t).set j (gc E r t1 q) = gW E r tab t1 := by
  apply List.ext_getElem?
  intro i
  by_cases e : j = i
  · subst e
    rw [List.getElem?_set_self (by unfold gW; rw [List.length_map]; exact (List.getElem?_eq_some_iff.mp h).1), gW_at h]
  · rw [List.getElem?_set_ne e]
    unfold gW
    rw [List.getElem?_map, List.getElem?_map]
    cases hi : tab[i]? with
    | none => rfl
    | some q2 =>
      have hn : q2.1 ≠ q.1 := fun he => e (hU j i q q2 h hi he.symm)
      obtain ⟨n1, n2⟩ := hne q2.1 hn
      show some (gc E r t q2) = some (gc E r t1 q2)
      unfold gc
      rw [gce_same n1 n2]
theorem gfs_setI {r : Nat → Nat} {t : St} {id f : Nat} {fs : List (Nat × Nat)} {tg : Nat} (h : fs[f]? = some (0, tg)) (a : Int) : (gfs r t id fs).set f (iv a) = gfs r (pI t id f a) id fs := by
  apply List.ext_getElem?
  intro i
  by_cases e : f = i
  · subst e
    rw [List.getElem?_set_self (by rw [gfs_len]; exact (List.getElem?_eq_some_iff.mp h).1), gfs_at h]
    show _ = some (iv ((pI t id f a).1 id f))
    rw [pI_at]
  · rw [List.getElem?_set_ne e]
    cases hi : fs[i]? with
    | none => rw [List.getElem?_eq_none (by rw [gfs_len]; exact List.getElem?_eq_none_iff.mp hi), List.getElem?_eq_none (by rw [gfs_len]; exact List.getElem?_eq_none_iff.mp hi)]
    | some q =>
      rw [gfs_at hi, gfs_at hi]
      unfold gv
      rw [pI_nf (fun h => e h.symm)]
      rfl
theorem gfs_setL {r : Nat → Nat} {t : St} {id f : Nat} {fs : List (Nat × Nat)} {tg : Nat} (h : fs[f]? = some (2, tg)) (a : Int64) : (gfs r t id fs).set f (.long a) = gfs r (pL t id f a) id fs := by
  apply List.ext_getElem?
  intro i
  by_cases e : f = i
  · subst e
    rw [List.getElem?_set_self (by rw [gfs_len]; exact (List.getElem?_eq_some_iff.mp h).1), gfs_at h]
    show _ = some (Value.long ((pL t id f a).2 id f))
    rw [pL_at]
  · rw [List.getElem?_set_ne e]
    cases hi : fs[i]? with
    | none => rw [List.getElem?_eq_none (by rw [gfs_len]; exact List.getElem?_eq_none_iff.mp hi), List.getElem?_eq_none (by rw [gfs_len]; exact List.getElem?_eq_none_iff.mp hi)]
    | some q =>
      rw [gfs_at hi, gfs_at hi]
      unfold gv
      rw [pL_nf (fun h => e h.symm)]
      rfl
/-- reading and writing, with what must hold there -/
def cmpI {Z : Type} (a b : Int) (K : Option Z) : Option Z := if inR a ∧ inR b then K else none
def ixI {Z : Type} (i : Int) (n : Nat) (K : Option Z) : Option Z := if 0 ≤ i ∧ i < n then K else none
def rnI {Z : Type} (a : Int) (K : Option Z) : Option Z := if inR a then K else none
def dvI {Z : Type} (a b : Int) (K : Option Z) : Option Z := if inR a ∧ inR b ∧ 0 ≤ a ∧ 0 < b then K else none
def boI {Z : Type} (a : Int) (K : Option Z) : Option Z := if a = 0 ∨ a = 1 then K else none
def lt1 {X Z : Type} (v : X) (K : X → Option Z) : Option Z := K v
def bdI {Z : Type} (F : Option (Int × St)) (K : Int → St → Option Z) : Option Z := F.bind (fun u => K u.1 u.2)
def bdL {Z : Type} (F : Option (Int64 × St)) (K : Int64 → St → Option Z) : Option Z := F.bind (fun u => K u.1 u.2)
def bdV {Z : Type} (F : Option St) (K : St → Option Z) : Option Z := F.bind K
def jn1 {X Z : Type} (j : X) (K : X → Option Z) : Option Z := K j
def iandZ (a b : Int) : Int := (Int32.ofInt a &&& Int32.ofInt b).toInt
def iorZ (a b : Int) : Int := (Int32.ofInt a ||| Int32.ofInt b).toInt
def ixorZ (a b : Int) : Int := (Int32.ofInt a ^^^ Int32.ofInt b).toInt
def ishrZ (a b : Int) : Int := (Int32.ofInt a >>> (Int32.ofInt b &&& 31)).toInt
def shlL (x : Int64) (y : Int) : Int64 := x <<< ((Int32.ofInt y).toInt64 &&& 63)
def shrL (x : Int64) (y : Int) : Int64 := x >>> ((Int32.ofInt y).toInt64 &&& 63)
def ushrL (x : Int64) (y : Int) : Int64 := (x.toUInt64 >>> ((Int32.ofInt y).toInt64.toUInt64 &&& Int64.toUInt64 63)).toInt64
theorem cmpI_some {Z : Type} {a b : Int} {K : Option Z} {z : Z} (h : cmpI a b K = some z) : inR a ∧ inR b ∧ K = some z := by
  unfold cmpI at h; split at h
  · next q => exact ⟨q.1, q.2, h⟩
  · cases h
theorem ixI_some {Z : Type} {i : Int} {n : Nat} {K : Option Z} {z : Z} (h : ixI i n K = some z) : 0 ≤ i ∧ i < n ∧ K = some z := by
  unfold ixI at h; split at h
  · next q => exact ⟨q.1, q.2, h⟩
  · cases h
theorem rnI_some {Z : Type} {a : Int} {K : Option Z} {z : Z} (h : rnI a K = some z) : inR a ∧ K = some z := by
  unfold rnI at h; split at h
  · next q => exact ⟨q, h⟩
  · cases h
theorem dvI_some {Z : Type} {a b : Int} {K : Option Z} {z : Z} (h : dvI a b K = some z) : inR a ∧ inR b ∧ 0 ≤ a ∧ 0 < b ∧ K = some z := by
  unfold dvI at h; split at h
  · next q => exact ⟨q.1, q.2.1, q.2.2.1, q.2.2.2, h⟩
  · cases h
theorem boI_some {Z : Type} {a : Int} {K : Option Z} {z : Z} (h : boI a K = some z) : (a = 0 ∨ a = 1) ∧ K = some z := by
  unfold boI at h; split at h
  · next q => exact ⟨q, h⟩
  · cases h
theorem vp_in_z {i : Int} {n : Nat} (h0 : 0 ≤ i) (h : i < n) (hn : n ≤ 2147483647) : vp_in (Int32.ofInt i) n := by
  intro q
  rcases q with q | q
  · have := (z_lt (a := i) (b := 0) ⟨by omega, by omega⟩ ⟨by decide, by decide⟩).mp q
    omega
  · rw [z_cl h0 (by omega)] at q; omega
section DK
variable {p : Program} {l : Launch} {e : Env} {R : Room} {s : State} {m : MethodId} {args : Array Value} {below : List Frame} {meth : Method} {c : Code} {Q : State → Prop}
variable {E : cE} {A : Nat → Prop} {cc : ByteArray} {mL : Nat} {ret : Option FieldType} {y0 : MethodName}
variable {w : St → va_W} {pc : Nat} {lv : List (Nat × Value)} {rest : List Value} {t : St}
/-- what stays through a method's body -/
def gX (p : Program) (s : State) (m : MethodId) (meth : Method) (c : Code) (cc : ByteArray) (mL : Nat) (ret : Option FieldType) (y : MethodName) (args : Array Value) (E : cE) (A : Nat → Prop) : Prop :=
  cX p s m meth c cc mL ret y args ∧ (∀ q : Nat, s.heap.size ≤ q → A q) ∧ va_K E.1 vwCl (cTY E.2.1) s ∧ cZ E.2.2 A s s.heap
/-- from here on, over a pure state, all is well -/
def gP (p : Program) (l : Launch) (e : Env) (R : Room) (s : State) (m : MethodId) (args : Array Value) (below : List Frame) (meth : Method) (c : Code) (E : cE) (A : Nat → Prop) (mL : Nat) (Q : State → Prop) (w : St → va_W) (pc : Nat) (lv : List (Nat × Value)) (stk : List Value) (t : St) : Prop :=
  ∀ (H : Heap) (locs : List Loc) (ls : Array Slot), va_P E.1 vwCl (w t) H → va_D A (w t) → va_S A s.heap H locs → lv_has ls mL lv → W p l e R s m args below meth c H locs 0 0 Q (F0 m pc ls stk)
theorem g_sub (is : List Nat) {lv' : List (Nat × Value)} (hs : lv_pick lv is = lv') (k : gP p l e R s m args below meth c E A mL Q w pc lv' rest t) : gP p l e R s m args below meth c E A mL Q w pc lv rest t := fun H locs ls hP hD hS hl => k H locs ls hP hD hS (lv_sub hl is hs)
theorem g_iload_n (X : gX p s m meth c cc mL ret y0 args E A) {k : Fin 4} {x : Int32} (hdg : decode cc pc = .ok (.iload_n k, 1)) (j : Nat) (hj : lv[j]? = some (k.val, .int x)) (kk : gP p l e R s m args below meth c E A mL Q w (pc + 1) lv (.int x :: rest) t) : gP p l e R s m args below meth c E A mL Q w pc lv rest t := by
  intro H locs ls hP hD hS hl
  obtain ⟨hx, hb, hr, hml, hown, hts, hlk, hin⟩ := X.1
  exact lv_iload_n hx hb hdg rfl (lv_at hl j hj) (kk H locs ls hP hD hS hl)
theorem g_iload (X : gX p s m meth c cc mL ret y0 args E A) {k : Nat} {x : Int32} (hdg : decode cc pc = .ok (.iload k, 2)) (j : Nat) (hj : lv[j]? = some (k, .int x)) (kk : gP p l e R s m args below meth c E A mL Q w (pc + 2) lv (.int x :: rest) t) : gP p l e R s m args below meth c E A mL Q w pc lv rest t := by
  intro H locs ls hP hD hS hl
  obtain ⟨hx, hb, hr, hml, hown, hts, hlk, hin⟩ := X.1
  exact lv_iload hx hb hdg (lv_at hl j hj) (kk H locs ls hP hD hS hl)
theorem g_istore_n (X : gX p s m meth c cc mL ret y0 args E A) {k : Fin 4} {i : Nat} {x : Int32} {lv' : List (Nat × Value)} (hdg : decode cc pc = .ok (.istore_n k, 1)) (hi : k.val = i) (hn : i < mL) (hl2 : (i, .int x) :: lv.filter (fun q => !(q.1 == i) && !(q.1 + 1 == i && q.2.category == 2)) = lv') (kk : gP p l e R s m args below meth c E A mL Q w (pc + 1) lv' rest t) : gP p l e R s m args below meth c E A mL Q w pc lv (.int x :: rest) t := by
  intro H locs ls hP hD hS hl
  obtain ⟨hx, hb, hr, hml, hown, hts, hlk, hin⟩ := X.1
  exact lv_istore_n hx hb hdg hi hl hn hl2 (fun ls1 hl1 => kk H locs ls1 hP hD hS hl1)
theorem g_istore (X : gX p s m meth c cc mL ret y0 args E A) {i : Nat} {x : Int32} {lv' : List (Nat × Value)} (hdg : decode cc pc = .ok (.istore i, 2)) (hn : i < mL) (hl2 : (i, .int x) :: lv.filter (fun q => !(q.1 == i) && !(q.1 + 1 == i && q.2.category == 2)) = lv') (kk : gP p l e R s m args below meth c E A mL Q w (pc + 2) lv' rest t) : gP p l e R s m args below meth c E A mL Q w pc lv (.int x :: rest) t := by
  intro H locs ls hP hD hS hl
  obtain ⟨hx, hb, hr, hml, hown, hts, hlk, hin⟩ := X.1
  exact lv_istore hx hb hdg hl hn hl2 (fun ls1 hl1 => kk H locs ls1 hP hD hS hl1)
theorem g_lload_n (X : gX p s m meth c cc mL ret y0 args E A) {k : Fin 4} {x : Int64} (hdg : decode cc pc = .ok (.lload_n k, 1)) (j : Nat) (hj : lv[j]? = some (k.val, .long x)) (kk : gP p l e R s m args below meth c E A mL Q w (pc + 1) lv (.long x :: rest) t) : gP p l e R s m args below meth c E A mL Q w pc lv rest t := by
  intro H locs ls hP hD hS hl
  obtain ⟨hx, hb, hr, hml, hown, hts, hlk, hin⟩ := X.1
  exact lv_lload_n hx hb hdg rfl (lv_at hl j hj) (kk H locs ls hP hD hS hl)
theorem g_lload (X : gX p s m meth c cc mL ret y0 args E A) {k : Nat} {x : Int64} (hdg : decode cc pc = .ok (.lload k, 2)) (j : Nat) (hj : lv[j]? = some (k, .long x)) (kk : gP p l e R s m args below meth c E A mL Q w (pc + 2) lv (.long x :: rest) t) : gP p l e R s m args below meth c E A mL Q w pc lv rest t := by
  intro H locs ls hP hD hS hl
  obtain ⟨hx, hb, hr, hml, hown, hts, hlk, hin⟩ := X.1
  exact lv_lload hx hb hdg (lv_at hl j hj) (kk H locs ls hP hD hS hl)
theorem g_lstore_n (X : gX p s m meth c cc mL ret y0 args E A) {k : Fin 4} {i : Nat} {x : Int64} {lv' : List (Nat × Value)} (hdg : decode cc pc = .ok (.lstore_n k, 1)) (hi : k.val = i) (hn : i + 1 < mL) (hl2 : (i, .long x) :: lv.filter (fun q => !(q.1 == i) && (!(q.1 == i + 1) && !(q.1 + 1 == i && q.2.category == 2))) = lv') (kk : gP p l e R s m args below meth c E A mL Q w (pc + 1) lv' rest t) : gP p l e R s m args below meth c E A mL Q w pc lv (.long x :: rest) t := by
  intro H locs ls hP hD hS hl
  obtain ⟨hx, hb, hr, hml, hown, hts, hlk, hin⟩ := X.1
  exact lv_lstore_n hx hb hdg hi hl hn hl2 (fun ls1 hl1 => kk H locs ls1 hP hD hS hl1)
theorem g_lstore (X : gX p s m meth c cc mL ret y0 args E A) {i : Nat} {x : Int64} {lv' : List (Nat × Value)} (hdg : decode cc pc = .ok (.lstore i, 2)) (hn : i + 1 < mL) (hl2 : (i, .long x) :: lv.filter (fun q => !(q.1 == i) && (!(q.1 == i + 1) && !(q.1 + 1 == i && q.2.category == 2))) = lv') (kk : gP p l e R s m args below meth c E A mL Q w (pc + 2) lv' rest t) : gP p l e R s m args below meth c E A mL Q w pc lv (.long x :: rest) t := by
  intro H locs ls hP hD hS hl
  obtain ⟨hx, hb, hr, hml, hown, hts, hlk, hin⟩ := X.1
  exact lv_lstore hx hb hdg hl hn hl2 (fun ls1 hl1 => kk H locs ls1 hP hD hS hl1)
theorem g_aload_n (X : gX p s m meth c cc mL ret y0 args E A) {k : Fin 4} {x : Nat} (hdg : decode cc pc = .ok (.aload_n k, 1)) (j : Nat) (hj : lv[j]? = some (k.val, .ref x)) (kk : gP p l e R s m args below meth c E A mL Q w (pc + 1) lv (.ref x :: rest) t) : gP p l e R s m args below meth c E A mL Q w pc lv rest t := by
  intro H locs ls hP hD hS hl
  obtain ⟨hx, hb, hr, hml, hown, hts, hlk, hin⟩ := X.1
  exact lv_aload_n hx hb hdg rfl (lv_at hl j hj) (kk H locs ls hP hD hS hl)
theorem g_aload (X : gX p s m meth c cc mL ret y0 args E A) {k : Nat} {x : Nat} (hdg : decode cc pc = .ok (.aload k, 2)) (j : Nat) (hj : lv[j]? = some (k, .ref x)) (kk : gP p l e R s m args below meth c E A mL Q w (pc + 2) lv (.ref x :: rest) t) : gP p l e R s m args below meth c E A mL Q w pc lv rest t := by
  intro H locs ls hP hD hS hl
  obtain ⟨hx, hb, hr, hml, hown, hts, hlk, hin⟩ := X.1
  exact lv_aload hx hb hdg (lv_at hl j hj) (kk H locs ls hP hD hS hl)
theorem g_astore_n (X : gX p s m meth c cc mL ret y0 args E A) {k : Fin 4} {i : Nat} {x : Nat} {lv' : List (Nat × Value)} (hdg : decode cc pc = .ok (.astore_n k, 1)) (hi : k.val = i) (hn : i < mL) (hl2 : (i, .ref x) :: lv.filter (fun q => !(q.1 == i) && !(q.1 + 1 == i && q.2.category == 2)) = lv') (kk : gP p l e R s m args below meth c E A mL Q w (pc + 1) lv' rest t) : gP p l e R s m args below meth c E A mL Q w pc lv (.ref x :: rest) t := by
  intro H locs ls hP hD hS hl
  obtain ⟨hx, hb, hr, hml, hown, hts, hlk, hin⟩ := X.1
  exact lv_astore_n hx hb hdg hi hl hn hl2 (fun ls1 hl1 => kk H locs ls1 hP hD hS hl1)
theorem g_astore (X : gX p s m meth c cc mL ret y0 args E A) {i : Nat} {x : Nat} {lv' : List (Nat × Value)} (hdg : decode cc pc = .ok (.astore i, 2)) (hn : i < mL) (hl2 : (i, .ref x) :: lv.filter (fun q => !(q.1 == i) && !(q.1 + 1 == i && q.2.category == 2)) = lv') (kk : gP p l e R s m args below meth c E A mL Q w (pc + 2) lv' rest t) : gP p l e R s m args below meth c E A mL Q w pc lv (.ref x :: rest) t := by
  intro H locs ls hP hD hS hl
  obtain ⟨hx, hb, hr, hml, hown, hts, hlk, hin⟩ := X.1
  exact lv_astore hx hb hdg hl hn hl2 (fun ls1 hl1 => kk H locs ls1 hP hD hS hl1)
theorem g_iinc (X : gX p s m meth c cc mL ret y0 args E A) {i k : Nat} {n : Int} {a : Int} {lv' : List (Nat × Value)} (hdg : decode cc pc = .ok (.iinc i n, 3)) (hk : lv[k]? = some (i, iv a)) (hn : i < mL) (hl2 : (i, iv (a + n)) :: lv.filter (fun q => !(q.1 == i) && !(q.1 + 1 == i && q.2.category == 2)) = lv') (kk : gP p l e R s m args below meth c E A mL Q w (pc + 3) lv' rest t) : gP p l e R s m args below meth c E A mL Q w pc lv rest t := by
  intro H locs ls hP hD hS hl
  obtain ⟨hx, hb, hr, hml, hown, hts, hlk, hin⟩ := X.1
  exact lv_iinc hx hb hdg hl hk (Int32.ofInt_add a n).symm hn hl2 (fun ls1 hl1 => kk H locs ls1 hP hD hS hl1)
theorem g_iconst (X : gX p s m meth c cc mL ret y0 args E A) {n : Int} (hdg : decode cc pc = .ok (.iconst n, 1)) (kk : gP p l e R s m args below meth c E A mL Q w (pc + 1) lv (iv n :: rest) t) : gP p l e R s m args below meth c E A mL Q w pc lv rest t := by
  intro H locs ls hP hD hS hl
  obtain ⟨hx, hb, hr, hml, hown, hts, hlk, hin⟩ := X.1
  exact lv_iconst hx hb hdg rfl (kk H locs ls hP hD hS hl)
theorem g_bipush (X : gX p s m meth c cc mL ret y0 args E A) {n : Int} (hdg : decode cc pc = .ok (.bipush n, 2)) (hv : (Int8.ofInt n).toInt32 = Int32.ofInt n) (kk : gP p l e R s m args below meth c E A mL Q w (pc + 2) lv (iv n :: rest) t) : gP p l e R s m args below meth c E A mL Q w pc lv rest t := by
  intro H locs ls hP hD hS hl
  obtain ⟨hx, hb, hr, hml, hown, hts, hlk, hin⟩ := X.1
  exact lv_bipush hx hb hdg hv (kk H locs ls hP hD hS hl)
theorem g_sipush (X : gX p s m meth c cc mL ret y0 args E A) {n : Int} (hdg : decode cc pc = .ok (.sipush n, 3)) (hv : (Int16.ofInt n).toInt32 = Int32.ofInt n) (kk : gP p l e R s m args below meth c E A mL Q w (pc + 3) lv (iv n :: rest) t) : gP p l e R s m args below meth c E A mL Q w pc lv rest t := by
  intro H locs ls hP hD hS hl
  obtain ⟨hx, hb, hr, hml, hown, hts, hlk, hin⟩ := X.1
  exact lv_sipush hx hb hdg hv (kk H locs ls hP hD hS hl)
theorem g_lconst (X : gX p s m meth c cc mL ret y0 args E A) {n : Fin 2} {v : Int64} (hdg : decode cc pc = .ok (.lconst n, 1)) (hv : Int64.ofNat (n : Nat) = v) (kk : gP p l e R s m args below meth c E A mL Q w (pc + 1) lv (.long v :: rest) t) : gP p l e R s m args below meth c E A mL Q w pc lv rest t := by
  intro H locs ls hP hD hS hl
  obtain ⟨hx, hb, hr, hml, hown, hts, hlk, hin⟩ := X.1
  exact lv_lconst hx hb hdg hv (kk H locs ls hP hD hS hl)
theorem g_ldc (X : gX p s m meth c cc mL ret y0 args E A) {own : String} {index : Nat} {v : Int32} {n : Int} (ho : y0.cls = own) (hc : Cond.constant own index v ∈ TB) (hv : v = Int32.ofInt n) (hdg : decode cc pc = .ok (.ldc index, 2)) (kk : gP p l e R s m args below meth c E A mL Q w (pc + 2) lv (iv n :: rest) t) : gP p l e R s m args below meth c E A mL Q w pc lv rest t := by
  intro H locs ls hP hD hS hl
  obtain ⟨hx, hb, hr, hml, hown, hts, hlk, hin⟩ := X.1
  subst ho
  subst hv
  exact lv_ldc hx hb hown (hts _ hc) hdg (kk H locs ls hP hD hS hl)
theorem g_ldcw (X : gX p s m meth c cc mL ret y0 args E A) {own : String} {index : Nat} {v : Int32} {n : Int} (ho : y0.cls = own) (hc : Cond.constant own index v ∈ TB) (hv : v = Int32.ofInt n) (hdg : decode cc pc = .ok (.ldc_w index, 3)) (kk : gP p l e R s m args below meth c E A mL Q w (pc + 3) lv (iv n :: rest) t) : gP p l e R s m args below meth c E A mL Q w pc lv rest t := by
  intro H locs ls hP hD hS hl
  obtain ⟨hx, hb, hr, hml, hown, hts, hlk, hin⟩ := X.1
  subst ho
  subst hv
  exact lv_ldcw hx hb hown (hts _ hc) hdg (kk H locs ls hP hD hS hl)
theorem g_ldc2 (X : gX p s m meth c cc mL ret y0 args E A) {own : String} {index : Nat} {v : Int64} (ho : y0.cls = own) (hc : Cond.constantLong own index v ∈ TB) (hdg : decode cc pc = .ok (.ldc2_w index, 3)) (kk : gP p l e R s m args below meth c E A mL Q w (pc + 3) lv (.long v :: rest) t) : gP p l e R s m args below meth c E A mL Q w pc lv rest t := by
  intro H locs ls hP hD hS hl
  obtain ⟨hx, hb, hr, hml, hown, hts, hlk, hin⟩ := X.1
  subst ho
  exact lv_ldc2 hx hb hown (hts _ hc) hdg (kk H locs ls hP hD hS hl)
theorem g_iadd (X : gX p s m meth c cc mL ret y0 args E A) {a b : Int} (hdg : decode cc pc = .ok (.iadd, 1)) (kk : gP p l e R s m args below meth c E A mL Q w (pc + 1) lv (iv (a + b) :: rest) t) : gP p l e R s m args below meth c E A mL Q w pc lv (iv b :: iv a :: rest) t := by
  intro H locs ls hP hD hS hl
  obtain ⟨hx, hb, hr, hml, hown, hts, hlk, hin⟩ := X.1
  refine lv_iadd hx hb hdg ?_
  rw [← Int32.ofInt_add a b]
  exact kk H locs ls hP hD hS hl
theorem g_isub (X : gX p s m meth c cc mL ret y0 args E A) {a b : Int} (hdg : decode cc pc = .ok (.isub, 1)) (kk : gP p l e R s m args below meth c E A mL Q w (pc + 1) lv (iv (a - b) :: rest) t) : gP p l e R s m args below meth c E A mL Q w pc lv (iv b :: iv a :: rest) t := by
  intro H locs ls hP hD hS hl
  obtain ⟨hx, hb, hr, hml, hown, hts, hlk, hin⟩ := X.1
  refine lv_isub hx hb hdg ?_
  rw [← Int32.ofInt_sub a b]
  exact kk H locs ls hP hD hS hl
theorem g_imul (X : gX p s m meth c cc mL ret y0 args E A) {a b : Int} (hdg : decode cc pc = .ok (.imul, 1)) (kk : gP p l e R s m args below meth c E A mL Q w (pc + 1) lv (iv (a * b) :: rest) t) : gP p l e R s m args below meth c E A mL Q w pc lv (iv b :: iv a :: rest) t := by
  intro H locs ls hP hD hS hl
  obtain ⟨hx, hb, hr, hml, hown, hts, hlk, hin⟩ := X.1
  refine lv_imul hx hb hdg ?_
  rw [← Int32.ofInt_mul a b]
  exact kk H locs ls hP hD hS hl
theorem g_ineg (X : gX p s m meth c cc mL ret y0 args E A) {a : Int} (hdg : decode cc pc = .ok (.ineg, 1)) (kk : gP p l e R s m args below meth c E A mL Q w (pc + 1) lv (iv (-a) :: rest) t) : gP p l e R s m args below meth c E A mL Q w pc lv (iv a :: rest) t := by
  intro H locs ls hP hD hS hl
  obtain ⟨hx, hb, hr, hml, hown, hts, hlk, hin⟩ := X.1
  refine lv_ineg hx hb hdg ?_
  rw [← Int32.ofInt_neg a]
  exact kk H locs ls hP hD hS hl
theorem g_iand (X : gX p s m meth c cc mL ret y0 args E A) {a b : Int} (hdg : decode cc pc = .ok (.iand, 1)) (kk : gP p l e R s m args below meth c E A mL Q w (pc + 1) lv (iv (iandZ a b) :: rest) t) : gP p l e R s m args below meth c E A mL Q w pc lv (iv b :: iv a :: rest) t := by
  intro H locs ls hP hD hS hl
  obtain ⟨hx, hb, hr, hml, hown, hts, hlk, hin⟩ := X.1
  refine lv_iand hx hb hdg ?_
  rw [show Int32.ofInt a &&& Int32.ofInt b = Int32.ofInt (iandZ a b) from (z_of _).symm]
  exact kk H locs ls hP hD hS hl
theorem g_ior (X : gX p s m meth c cc mL ret y0 args E A) {a b : Int} (hdg : decode cc pc = .ok (.ior, 1)) (kk : gP p l e R s m args below meth c E A mL Q w (pc + 1) lv (iv (iorZ a b) :: rest) t) : gP p l e R s m args below meth c E A mL Q w pc lv (iv b :: iv a :: rest) t := by
  intro H locs ls hP hD hS hl
  obtain ⟨hx, hb, hr, hml, hown, hts, hlk, hin⟩ := X.1
  refine lv_ior hx hb hdg ?_
  rw [show Int32.ofInt a ||| Int32.ofInt b = Int32.ofInt (iorZ a b) from (z_of _).symm]
  exact kk H locs ls hP hD hS hl
theorem g_ixor (X : gX p s m meth c cc mL ret y0 args E A) {a b : Int} (hdg : decode cc pc = .ok (.ixor, 1)) (kk : gP p l e R s m args below meth c E A mL Q w (pc + 1) lv (iv (ixorZ a b) :: rest) t) : gP p l e R s m args below meth c E A mL Q w pc lv (iv b :: iv a :: rest) t := by
  intro H locs ls hP hD hS hl
  obtain ⟨hx, hb, hr, hml, hown, hts, hlk, hin⟩ := X.1
  refine lv_ixor hx hb hdg ?_
  rw [show Int32.ofInt a ^^^ Int32.ofInt b = Int32.ofInt (ixorZ a b) from (z_of _).symm]
  exact kk H locs ls hP hD hS hl
theorem g_mask (X : gX p s m meth c cc mL ret y0 args E A) (k : Nat) (hk : k < 32) {a b M : Int} (hb2 : b = 2 ^ k - 1) (hM : 2 ^ k = M) (hdg : decode cc pc = .ok (.iand, 1)) (kk : gP p l e R s m args below meth c E A mL Q w (pc + 1) lv (iv (a % M) :: rest) t) : gP p l e R s m args below meth c E A mL Q w pc lv (iv b :: iv a :: rest) t := by
  intro H locs ls hP hD hS hl
  obtain ⟨hx, hb, hr, hml, hown, hts, hlk, hin⟩ := X.1
  refine lv_iand hx hb hdg ?_
  rw [hb2, z_and a k hk, hM]
  exact kk H locs ls hP hD hS hl
theorem g_shl (X : gX p s m meth c cc mL ret y0 args E A) (k : Nat) (hk : k < 32) {a b M : Int} (hb2 : b = k) (hM : 2 ^ k = M) (hdg : decode cc pc = .ok (.ishl, 1)) (kk : gP p l e R s m args below meth c E A mL Q w (pc + 1) lv (iv (a * M) :: rest) t) : gP p l e R s m args below meth c E A mL Q w pc lv (iv b :: iv a :: rest) t := by
  intro H locs ls hP hD hS hl
  obtain ⟨hx, hb, hr, hml, hown, hts, hlk, hin⟩ := X.1
  refine lv_ishl hx hb hdg ?_
  rw [hb2, z_shl a k hk, hM]
  exact kk H locs ls hP hD hS hl
theorem g_shr (X : gX p s m meth c cc mL ret y0 args E A) {Z : Type} {z : Z} {x : Option Z} (k : Nat) (hk : k < 32) {a b M : Int} (hb2 : b = k) (hM : 2 ^ k = M) (hdg : decode cc pc = .ok (.ishr, 1)) (h : rnI a x = some z) (kk : x = some z → gP p l e R s m args below meth c E A mL Q w (pc + 1) lv (iv (a / M) :: rest) t) : gP p l e R s m args below meth c E A mL Q w pc lv (iv b :: iv a :: rest) t := by
  intro H locs ls hP hD hS hl
  obtain ⟨hx, hb, hr, hml, hown, hts, hlk, hin⟩ := X.1
  obtain ⟨h1, h2⟩ := rnI_some h
  refine lv_ishr hx hb hdg ?_
  rw [hb2, z_shr h1 k hk, hM]
  exact kk h2 H locs ls hP hD hS hl
theorem g_ishrV (X : gX p s m meth c cc mL ret y0 args E A) {a b : Int} (hdg : decode cc pc = .ok (.ishr, 1)) (kk : gP p l e R s m args below meth c E A mL Q w (pc + 1) lv (iv (ishrZ a b) :: rest) t) : gP p l e R s m args below meth c E A mL Q w pc lv (iv b :: iv a :: rest) t := by
  intro H locs ls hP hD hS hl
  obtain ⟨hx, hb, hr, hml, hown, hts, hlk, hin⟩ := X.1
  refine lv_ishr hx hb hdg ?_
  rw [show Int32.ofInt a >>> (Int32.ofInt b &&& 31) = Int32.ofInt (ishrZ a b) from (z_of _).symm]
  exact kk H locs ls hP hD hS hl
theorem g_idiv (X : gX p s m meth c cc mL ret y0 args E A) {Z : Type} {z : Z} {x : Option Z} {a b : Int} (hdg : decode cc pc = .ok (.idiv, 1)) (h : dvI a b x = some z) (kk : x = some z → gP p l e R s m args below meth c E A mL Q w (pc + 1) lv (iv (a / b) :: rest) t) : gP p l e R s m args below meth c E A mL Q w pc lv (iv b :: iv a :: rest) t := by
  intro H locs ls hP hD hS hl
  obtain ⟨hx, hb, hr, hml, hown, hts, hlk, hin⟩ := X.1
  obtain ⟨h1, h2, h3, h4, h5⟩ := dvI_some h
  refine lv_idiv hx hb hdg (z_ne0 h2 h4) ?_
  rw [z_div h1 h2 h3 h4]
  exact kk h5 H locs ls hP hD hS hl
theorem g_irem (X : gX p s m meth c cc mL ret y0 args E A) {Z : Type} {z : Z} {x : Option Z} {a b : Int} (hdg : decode cc pc = .ok (.irem, 1)) (h : dvI a b x = some z) (kk : x = some z → gP p l e R s m args below meth c E A mL Q w (pc + 1) lv (iv (a % b) :: rest) t) : gP p l e R s m args below meth c E A mL Q w pc lv (iv b :: iv a :: rest) t := by
  intro H locs ls hP hD hS hl
  obtain ⟨hx, hb, hr, hml, hown, hts, hlk, hin⟩ := X.1
  obtain ⟨h1, h2, h3, h4, h5⟩ := dvI_some h
  refine lv_irem hx hb hdg (z_ne0 h2 h4) ?_
  rw [z_rem h1 h2 h3 h4]
  exact kk h5 H locs ls hP hD hS hl
theorem g_i2b (X : gX p s m meth c cc mL ret y0 args E A) {a : Int} (hdg : decode cc pc = .ok (.i2b, 1)) (kk : gP p l e R s m args below meth c E A mL Q w (pc + 1) lv (iv (b8 a) :: rest) t) : gP p l e R s m args below meth c E A mL Q w pc lv (iv a :: rest) t := by
  intro H locs ls hP hD hS hl
  obtain ⟨hx, hb, hr, hml, hown, hts, hlk, hin⟩ := X.1
  exact lv_i2b hx hb hdg (z_b8 a) (kk H locs ls hP hD hS hl)
theorem g_i2s (X : gX p s m meth c cc mL ret y0 args E A) {a : Int} (hdg : decode cc pc = .ok (.i2s, 1)) (kk : gP p l e R s m args below meth c E A mL Q w (pc + 1) lv (iv (b16 a) :: rest) t) : gP p l e R s m args below meth c E A mL Q w pc lv (iv a :: rest) t := by
  intro H locs ls hP hD hS hl
  obtain ⟨hx, hb, hr, hml, hown, hts, hlk, hin⟩ := X.1
  exact lv_i2s hx hb hdg (z_b16 a) (kk H locs ls hP hD hS hl)
theorem g_i2c (X : gX p s m meth c cc mL ret y0 args E A) {a : Int} (hdg : decode cc pc = .ok (.i2c, 1)) (kk : gP p l e R s m args below meth c E A mL Q w (pc + 1) lv (iv (a % 65536) :: rest) t) : gP p l e R s m args below meth c E A mL Q w pc lv (iv a :: rest) t := by
  intro H locs ls hP hD hS hl
  obtain ⟨hx, hb, hr, hml, hown, hts, hlk, hin⟩ := X.1
  exact lv_i2c hx hb hdg (z_i2c a) (kk H locs ls hP hD hS hl)
theorem g_i2l (X : gX p s m meth c cc mL ret y0 args E A) {Z : Type} {z : Z} {x : Option Z} {a : Int} (hdg : decode cc pc = .ok (.i2l, 1)) (h : rnI a x = some z) (kk : x = some z → gP p l e R s m args below meth c E A mL Q w (pc + 1) lv (.long (Int64.ofInt a) :: rest) t) : gP p l e R s m args below meth c E A mL Q w pc lv (iv a :: rest) t := by
  intro H locs ls hP hD hS hl
  obtain ⟨hx, hb, hr, hml, hown, hts, hlk, hin⟩ := X.1
  obtain ⟨h1, h2⟩ := rnI_some h
  exact lv_i2l hx hb hdg (z_i2l h1) (kk h2 H locs ls hP hD hS hl)
theorem g_l2i (X : gX p s m meth c cc mL ret y0 args E A) {x : Int64} (hdg : decode cc pc = .ok (.l2i, 1)) (kk : gP p l e R s m args below meth c E A mL Q w (pc + 1) lv (iv x.toInt :: rest) t) : gP p l e R s m args below meth c E A mL Q w pc lv (.long x :: rest) t := by
  intro H locs ls hP hD hS hl
  obtain ⟨hx, hb, hr, hml, hown, hts, hlk, hin⟩ := X.1
  exact lv_l2i hx hb hdg (z_l2i x) (kk H locs ls hP hD hS hl)
theorem g_ladd (X : gX p s m meth c cc mL ret y0 args E A) {a b : Int64} (hdg : decode cc pc = .ok (.ladd, 1)) (kk : gP p l e R s m args below meth c E A mL Q w (pc + 1) lv (.long (a + b) :: rest) t) : gP p l e R s m args below meth c E A mL Q w pc lv (.long b :: .long a :: rest) t := by
  intro H locs ls hP hD hS hl
  obtain ⟨hx, hb, hr, hml, hown, hts, hlk, hin⟩ := X.1
  exact lv_ladd hx hb hdg (kk H locs ls hP hD hS hl)
theorem g_lsub (X : gX p s m meth c cc mL ret y0 args E A) {a b : Int64} (hdg : decode cc pc = .ok (.lsub, 1)) (kk : gP p l e R s m args below meth c E A mL Q w (pc + 1) lv (.long (a - b) :: rest) t) : gP p l e R s m args below meth c E A mL Q w pc lv (.long b :: .long a :: rest) t := by
  intro H locs ls hP hD hS hl
  obtain ⟨hx, hb, hr, hml, hown, hts, hlk, hin⟩ := X.1
  exact lv_lsub hx hb hdg (kk H locs ls hP hD hS hl)
theorem g_lmul (X : gX p s m meth c cc mL ret y0 args E A) {a b : Int64} (hdg : decode cc pc = .ok (.lmul, 1)) (kk : gP p l e R s m args below meth c E A mL Q w (pc + 1) lv (.long (a * b) :: rest) t) : gP p l e R s m args below meth c E A mL Q w pc lv (.long b :: .long a :: rest) t := by
  intro H locs ls hP hD hS hl
  obtain ⟨hx, hb, hr, hml, hown, hts, hlk, hin⟩ := X.1
  exact lv_lmul hx hb hdg (kk H locs ls hP hD hS hl)
theorem g_land (X : gX p s m meth c cc mL ret y0 args E A) {a b : Int64} (hdg : decode cc pc = .ok (.land, 1)) (kk : gP p l e R s m args below meth c E A mL Q w (pc + 1) lv (.long (a &&& b) :: rest) t) : gP p l e R s m args below meth c E A mL Q w pc lv (.long b :: .long a :: rest) t := by
  intro H locs ls hP hD hS hl
  obtain ⟨hx, hb, hr, hml, hown, hts, hlk, hin⟩ := X.1
  exact lv_land hx hb hdg (kk H locs ls hP hD hS hl)
theorem g_lor (X : gX p s m meth c cc mL ret y0 args E A) {a b : Int64} (hdg : decode cc pc = .ok (.lor, 1)) (kk : gP p l e R s m args below meth c E A mL Q w (pc + 1) lv (.long (a ||| b) :: rest) t) : gP p l e R s m args below meth c E A mL Q w pc lv (.long b :: .long a :: rest) t := by
  intro H locs ls hP hD hS hl
  obtain ⟨hx, hb, hr, hml, hown, hts, hlk, hin⟩ := X.1
  exact lv_lor hx hb hdg (kk H locs ls hP hD hS hl)
theorem g_lxor (X : gX p s m meth c cc mL ret y0 args E A) {a b : Int64} (hdg : decode cc pc = .ok (.lxor, 1)) (kk : gP p l e R s m args below meth c E A mL Q w (pc + 1) lv (.long (a ^^^ b) :: rest) t) : gP p l e R s m args below meth c E A mL Q w pc lv (.long b :: .long a :: rest) t := by
  intro H locs ls hP hD hS hl
  obtain ⟨hx, hb, hr, hml, hown, hts, hlk, hin⟩ := X.1
  exact lv_lxor hx hb hdg (kk H locs ls hP hD hS hl)
theorem g_lshl (X : gX p s m meth c cc mL ret y0 args E A) {x : Int64} {y : Int} (hdg : decode cc pc = .ok (.lshl, 1)) (kk : gP p l e R s m args below meth c E A mL Q w (pc + 1) lv (.long (shlL x y) :: rest) t) : gP p l e R s m args below meth c E A mL Q w pc lv (iv y :: .long x :: rest) t := by
  intro H locs ls hP hD hS hl
  obtain ⟨hx, hb, hr, hml, hown, hts, hlk, hin⟩ := X.1
  exact lv_lshl hx hb hdg rfl (kk H locs ls hP hD hS hl)
theorem g_lshr (X : gX p s m meth c cc mL ret y0 args E A) {x : Int64} {y : Int} (hdg : decode cc pc = .ok (.lshr, 1)) (kk : gP p l e R s m args below meth c E A mL Q w (pc + 1) lv (.long (shrL x y) :: rest) t) : gP p l e R s m args below meth c E A mL Q w pc lv (iv y :: .long x :: rest) t := by
  intro H locs ls hP hD hS hl
  obtain ⟨hx, hb, hr, hml, hown, hts, hlk, hin⟩ := X.1
  exact lv_lshr hx hb hdg rfl (kk H locs ls hP hD hS hl)
theorem g_lushr (X : gX p s m meth c cc mL ret y0 args E A) {x : Int64} {y : Int} (hdg : decode cc pc = .ok (.lushr, 1)) (kk : gP p l e R s m args below meth c E A mL Q w (pc + 1) lv (.long (ushrL x y) :: rest) t) : gP p l e R s m args below meth c E A mL Q w pc lv (iv y :: .long x :: rest) t := by
  intro H locs ls hP hD hS hl
  obtain ⟨hx, hb, hr, hml, hown, hts, hlk, hin⟩ := X.1
  exact lv_lushr hx hb hdg rfl (kk H locs ls hP hD hS hl)
theorem g_dup (X : gX p s m meth c cc mL ret y0 args E A) {v : Value} (hc : v.category = 1) (hdg : decode cc pc = .ok (.dup, 1)) (kk : gP p l e R s m args below meth c E A mL Q w (pc + 1) lv (v :: v :: rest) t) : gP p l e R s m args below meth c E A mL Q w pc lv (v :: rest) t := by
  intro H locs ls hP hD hS hl
  obtain ⟨hx, hb, hr, hml, hown, hts, hlk, hin⟩ := X.1
  exact lv_dup hx hb hdg hc (kk H locs ls hP hD hS hl)
theorem g_pop (X : gX p s m meth c cc mL ret y0 args E A) {v : Value} (hc : v.category = 1) (hdg : decode cc pc = .ok (.pop, 1)) (kk : gP p l e R s m args below meth c E A mL Q w (pc + 1) lv rest t) : gP p l e R s m args below meth c E A mL Q w pc lv (v :: rest) t := by
  intro H locs ls hP hD hS hl
  obtain ⟨hx, hb, hr, hml, hown, hts, hlk, hin⟩ := X.1
  exact lv_pop hx hb hdg hc (kk H locs ls hP hD hS hl)
theorem g_pop2 (X : gX p s m meth c cc mL ret y0 args E A) {v : Value} (hc : v.category = 2) (hdg : decode cc pc = .ok (.pop2, 1)) (kk : gP p l e R s m args below meth c E A mL Q w (pc + 1) lv rest t) : gP p l e R s m args below meth c E A mL Q w pc lv (v :: rest) t := by
  intro H locs ls hP hD hS hl
  obtain ⟨hx, hb, hr, hml, hown, hts, hlk, hin⟩ := X.1
  exact lv_pop2_2 hx hb hdg hc (kk H locs ls hP hD hS hl)
theorem g_dup2 (X : gX p s m meth c cc mL ret y0 args E A) {v u : Value} (hc : v.category = 1) (hc2 : u.category = 1) (hdg : decode cc pc = .ok (.dup2, 1)) (kk : gP p l e R s m args below meth c E A mL Q w (pc + 1) lv (v :: u :: v :: u :: rest) t) : gP p l e R s m args below meth c E A mL Q w pc lv (v :: u :: rest) t := by
  intro H locs ls hP hD hS hl
  obtain ⟨hx, hb, hr, hml, hown, hts, hlk, hin⟩ := X.1
  exact lv_dup2_11 hx hb hdg hc hc2 (kk H locs ls hP hD hS hl)
theorem g_dup2L (X : gX p s m meth c cc mL ret y0 args E A) {v : Value} (hc : v.category = 2) (hdg : decode cc pc = .ok (.dup2, 1)) (kk : gP p l e R s m args below meth c E A mL Q w (pc + 1) lv (v :: v :: rest) t) : gP p l e R s m args below meth c E A mL Q w pc lv (v :: rest) t := by
  intro H locs ls hP hD hS hl
  obtain ⟨hx, hb, hr, hml, hown, hts, hlk, hin⟩ := X.1
  exact lv_dup2_2 hx hb hdg hc (kk H locs ls hP hD hS hl)
theorem g_goto (X : gX p s m meth c cc mL ret y0 args E A) {off : Int} {tgt : Nat} (hdg : decode cc pc = .ok (.goto off, 3)) (ht : (pc : Int) + off = (tgt : Int)) (kk : gP p l e R s m args below meth c E A mL Q w tgt lv rest t) : gP p l e R s m args below meth c E A mL Q w pc lv rest t := by
  intro H locs ls hP hD hS hl
  obtain ⟨hx, hb, hr, hml, hown, hts, hlk, hin⟩ := X.1
  exact lv_goto hx hb hdg ht (kk H locs ls hP hD hS hl)
theorem g_icmp_eq (X : gX p s m meth c cc mL ret y0 args E A) {Z : Type} {z : Z} {x y : Option Z} {a b : Int} {off : Int} {tgt : Nat} (hdg : decode cc pc = .ok (.if_icmp .eq off, 3)) (ht : (pc : Int) + off = (tgt : Int)) (h : cmpI a b (if a = b then x else y) = some z) (kt : x = some z → gP p l e R s m args below meth c E A mL Q w tgt lv rest t) (kf : y = some z → gP p l e R s m args below meth c E A mL Q w (pc + 3) lv rest t) : gP p l e R s m args below meth c E A mL Q w pc lv (iv b :: iv a :: rest) t := by
  intro H locs ls hP hD hS hl
  obtain ⟨hx, hb, hr, hml, hown, hts, hlk, hin⟩ := X.1
  obtain ⟨h1, h2, h3⟩ := cmpI_some h
  refine lv_icmp_eq hx hb hdg ht (fun q => ?_) (fun q => ?_)
  · rw [if_pos ((z_eq h1 h2).mp q)] at h3
    exact kt h3 H locs ls hP hD hS hl
  · rw [if_neg (fun k => q ((z_eq h1 h2).mpr k))] at h3
    exact kf h3 H locs ls hP hD hS hl
theorem g_if_eq (X : gX p s m meth c cc mL ret y0 args E A) {Z : Type} {z : Z} {x y : Option Z} {a : Int} {off : Int} {tgt : Nat} (hdg : decode cc pc = .ok (.ifCond .eq off, 3)) (ht : (pc : Int) + off = (tgt : Int)) (h : cmpI a 0 (if a = 0 then x else y) = some z) (kt : x = some z → gP p l e R s m args below meth c E A mL Q w tgt lv rest t) (kf : y = some z → gP p l e R s m args below meth c E A mL Q w (pc + 3) lv rest t) : gP p l e R s m args below meth c E A mL Q w pc lv (iv a :: rest) t := by
  intro H locs ls hP hD hS hl
  obtain ⟨hx, hb, hr, hml, hown, hts, hlk, hin⟩ := X.1
  obtain ⟨h1, h2, h3⟩ := cmpI_some h
  refine lv_if_eq hx hb hdg ht (fun q => ?_) (fun q => ?_)
  · rw [if_pos ((z_eq h1 h2).mp q)] at h3
    exact kt h3 H locs ls hP hD hS hl
  · rw [if_neg (fun k => q ((z_eq h1 h2).mpr k))] at h3
    exact kf h3 H locs ls hP hD hS hl
theorem g_icmp_ne (X : gX p s m meth c cc mL ret y0 args E A) {Z : Type} {z : Z} {x y : Option Z} {a b : Int} {off : Int} {tgt : Nat} (hdg : decode cc pc = .ok (.if_icmp .ne off, 3)) (ht : (pc : Int) + off = (tgt : Int)) (h : cmpI a b (if a = b then y else x) = some z) (kt : x = some z → gP p l e R s m args below meth c E A mL Q w tgt lv rest t) (kf : y = some z → gP p l e R s m args below meth c E A mL Q w (pc + 3) lv rest t) : gP p l e R s m args below meth c E A mL Q w pc lv (iv b :: iv a :: rest) t := by
  intro H locs ls hP hD hS hl
  obtain ⟨hx, hb, hr, hml, hown, hts, hlk, hin⟩ := X.1
  obtain ⟨h1, h2, h3⟩ := cmpI_some h
  refine lv_icmp_ne hx hb hdg ht (fun q => ?_) (fun q => ?_)
  · rw [if_neg (fun k => q ((z_eq h1 h2).mpr k))] at h3
    exact kt h3 H locs ls hP hD hS hl
  · rw [if_pos ((z_eq h1 h2).mp q)] at h3
    exact kf h3 H locs ls hP hD hS hl
theorem g_if_ne (X : gX p s m meth c cc mL ret y0 args E A) {Z : Type} {z : Z} {x y : Option Z} {a : Int} {off : Int} {tgt : Nat} (hdg : decode cc pc = .ok (.ifCond .ne off, 3)) (ht : (pc : Int) + off = (tgt : Int)) (h : cmpI a 0 (if a = 0 then y else x) = some z) (kt : x = some z → gP p l e R s m args below meth c E A mL Q w tgt lv rest t) (kf : y = some z → gP p l e R s m args below meth c E A mL Q w (pc + 3) lv rest t) : gP p l e R s m args below meth c E A mL Q w pc lv (iv a :: rest) t := by
  intro H locs ls hP hD hS hl
  obtain ⟨hx, hb, hr, hml, hown, hts, hlk, hin⟩ := X.1
  obtain ⟨h1, h2, h3⟩ := cmpI_some h
  refine lv_if_ne hx hb hdg ht (fun q => ?_) (fun q => ?_)
  · rw [if_neg (fun k => q ((z_eq h1 h2).mpr k))] at h3
    exact kt h3 H locs ls hP hD hS hl
  · rw [if_pos ((z_eq h1 h2).mp q)] at h3
    exact kf h3 H locs ls hP hD hS hl
theorem g_icmp_lt (X : gX p s m meth c cc mL ret y0 args E A) {Z : Type} {z : Z} {x y : Option Z} {a b : Int} {off : Int} {tgt : Nat} (hdg : decode cc pc = .ok (.if_icmp .lt off, 3)) (ht : (pc : Int) + off = (tgt : Int)) (h : cmpI a b (if a < b then x else y) = some z) (kt : x = some z → gP p l e R s m args below meth c E A mL Q w tgt lv rest t) (kf : y = some z → gP p l e R s m args below meth c E A mL Q w (pc + 3) lv rest t) : gP p l e R s m args below meth c E A mL Q w pc lv (iv b :: iv a :: rest) t := by
  intro H locs ls hP hD hS hl
  obtain ⟨hx, hb, hr, hml, hown, hts, hlk, hin⟩ := X.1
  obtain ⟨h1, h2, h3⟩ := cmpI_some h
  refine lv_icmp_lt hx hb hdg ht (fun q => ?_) (fun q => ?_)
  · rw [if_pos ((z_lt h1 h2).mp q)] at h3
    exact kt h3 H locs ls hP hD hS hl
  · rw [if_neg (fun k => q ((z_lt h1 h2).mpr k))] at h3
    exact kf h3 H locs ls hP hD hS hl
theorem g_if_lt (X : gX p s m meth c cc mL ret y0 args E A) {Z : Type} {z : Z} {x y : Option Z} {a : Int} {off : Int} {tgt : Nat} (hdg : decode cc pc = .ok (.ifCond .lt off, 3)) (ht : (pc : Int) + off = (tgt : Int)) (h : cmpI a 0 (if a < 0 then x else y) = some z) (kt : x = some z → gP p l e R s m args below meth c E A mL Q w tgt lv rest t) (kf : y = some z → gP p l e R s m args below meth c E A mL Q w (pc + 3) lv rest t) : gP p l e R s m args below meth c E A mL Q w pc lv (iv a :: rest) t := by
  intro H locs ls hP hD hS hl
  obtain ⟨hx, hb, hr, hml, hown, hts, hlk, hin⟩ := X.1
  obtain ⟨h1, h2, h3⟩ := cmpI_some h
  refine lv_if_lt hx hb hdg ht (fun q => ?_) (fun q => ?_)
  · rw [if_pos ((z_lt h1 h2).mp q)] at h3
    exact kt h3 H locs ls hP hD hS hl
  · rw [if_neg (fun k => q ((z_lt h1 h2).mpr k))] at h3
    exact kf h3 H locs ls hP hD hS hl
theorem g_icmp_ge (X : gX p s m meth c cc mL ret y0 args E A) {Z : Type} {z : Z} {x y : Option Z} {a b : Int} {off : Int} {tgt : Nat} (hdg : decode cc pc = .ok (.if_icmp .ge off, 3)) (ht : (pc : Int) + off = (tgt : Int)) (h : cmpI a b (if a < b then y else x) = some z) (kt : x = some z → gP p l e R s m args below meth c E A mL Q w tgt lv rest t) (kf : y = some z → gP p l e R s m args below meth c E A mL Q w (pc + 3) lv rest t) : gP p l e R s m args below meth c E A mL Q w pc lv (iv b :: iv a :: rest) t := by
  intro H locs ls hP hD hS hl
  obtain ⟨hx, hb, hr, hml, hown, hts, hlk, hin⟩ := X.1
  obtain ⟨h1, h2, h3⟩ := cmpI_some h
  refine lv_icmp_ge hx hb hdg ht (fun q => ?_) (fun q => ?_)
  · rw [if_neg (fun k => Int.not_le.mpr k ((z_le h2 h1).mp q))] at h3
    exact kt h3 H locs ls hP hD hS hl
  · rw [if_pos (Int.not_le.mp (fun k => q ((z_le h2 h1).mpr k)))] at h3
    exact kf h3 H locs ls hP hD hS hl
theorem g_if_ge (X : gX p s m meth c cc mL ret y0 args E A) {Z : Type} {z : Z} {x y : Option Z} {a : Int} {off : Int} {tgt : Nat} (hdg : decode cc pc = .ok (.ifCond .ge off, 3)) (ht : (pc : Int) + off = (tgt : Int)) (h : cmpI a 0 (if a < 0 then y else x) = some z) (kt : x = some z → gP p l e R s m args below meth c E A mL Q w tgt lv rest t) (kf : y = some z → gP p l e R s m args below meth c E A mL Q w (pc + 3) lv rest t) : gP p l e R s m args below meth c E A mL Q w pc lv (iv a :: rest) t := by
  intro H locs ls hP hD hS hl
  obtain ⟨hx, hb, hr, hml, hown, hts, hlk, hin⟩ := X.1
  obtain ⟨h1, h2, h3⟩ := cmpI_some h
  refine lv_if_ge hx hb hdg ht (fun q => ?_) (fun q => ?_)
  · rw [if_neg (fun k => Int.not_le.mpr k ((z_le h2 h1).mp q))] at h3
    exact kt h3 H locs ls hP hD hS hl
  · rw [if_pos (Int.not_le.mp (fun k => q ((z_le h2 h1).mpr k)))] at h3
    exact kf h3 H locs ls hP hD hS hl
theorem g_icmp_gt (X : gX p s m meth c cc mL ret y0 args E A) {Z : Type} {z : Z} {x y : Option Z} {a b : Int} {off : Int} {tgt : Nat} (hdg : decode cc pc = .ok (.if_icmp .gt off, 3)) (ht : (pc : Int) + off = (tgt : Int)) (h : cmpI a b (if b < a then x else y) = some z) (kt : x = some z → gP p l e R s m args below meth c E A mL Q w tgt lv rest t) (kf : y = some z → gP p l e R s m args below meth c E A mL Q w (pc + 3) lv rest t) : gP p l e R s m args below meth c E A mL Q w pc lv (iv b :: iv a :: rest) t := by
  intro H locs ls hP hD hS hl
  obtain ⟨hx, hb, hr, hml, hown, hts, hlk, hin⟩ := X.1
  obtain ⟨h1, h2, h3⟩ := cmpI_some h
  refine lv_icmp_gt hx hb hdg ht (fun q => ?_) (fun q => ?_)
  · rw [if_pos ((z_lt h2 h1).mp q)] at h3
    exact kt h3 H locs ls hP hD hS hl
  · rw [if_neg (fun k => q ((z_lt h2 h1).mpr k))] at h3
    exact kf h3 H locs ls hP hD hS hl
theorem g_if_gt (X : gX p s m meth c cc mL ret y0 args E A) {Z : Type} {z : Z} {x y : Option Z} {a : Int} {off : Int} {tgt : Nat} (hdg : decode cc pc = .ok (.ifCond .gt off, 3)) (ht : (pc : Int) + off = (tgt : Int)) (h : cmpI a 0 (if 0 < a then x else y) = some z) (kt : x = some z → gP p l e R s m args below meth c E A mL Q w tgt lv rest t) (kf : y = some z → gP p l e R s m args below meth c E A mL Q w (pc + 3) lv rest t) : gP p l e R s m args below meth c E A mL Q w pc lv (iv a :: rest) t := by
  intro H locs ls hP hD hS hl
  obtain ⟨hx, hb, hr, hml, hown, hts, hlk, hin⟩ := X.1
  obtain ⟨h1, h2, h3⟩ := cmpI_some h
  refine lv_if_gt hx hb hdg ht (fun q => ?_) (fun q => ?_)
  · rw [if_pos ((z_lt h2 h1).mp q)] at h3
    exact kt h3 H locs ls hP hD hS hl
  · rw [if_neg (fun k => q ((z_lt h2 h1).mpr k))] at h3
    exact kf h3 H locs ls hP hD hS hl
theorem g_icmp_le (X : gX p s m meth c cc mL ret y0 args E A) {Z : Type} {z : Z} {x y : Option Z} {a b : Int} {off : Int} {tgt : Nat} (hdg : decode cc pc = .ok (.if_icmp .le off, 3)) (ht : (pc : Int) + off = (tgt : Int)) (h : cmpI a b (if b < a then y else x) = some z) (kt : x = some z → gP p l e R s m args below meth c E A mL Q w tgt lv rest t) (kf : y = some z → gP p l e R s m args below meth c E A mL Q w (pc + 3) lv rest t) : gP p l e R s m args below meth c E A mL Q w pc lv (iv b :: iv a :: rest) t := by
  intro H locs ls hP hD hS hl
  obtain ⟨hx, hb, hr, hml, hown, hts, hlk, hin⟩ := X.1
  obtain ⟨h1, h2, h3⟩ := cmpI_some h
  refine lv_icmp_le hx hb hdg ht (fun q => ?_) (fun q => ?_)
  · rw [if_neg (fun k => Int.not_le.mpr k ((z_le h1 h2).mp q))] at h3
    exact kt h3 H locs ls hP hD hS hl
  · rw [if_pos (Int.not_le.mp (fun k => q ((z_le h1 h2).mpr k)))] at h3
    exact kf h3 H locs ls hP hD hS hl
theorem g_if_le (X : gX p s m meth c cc mL ret y0 args E A) {Z : Type} {z : Z} {x y : Option Z} {a : Int} {off : Int} {tgt : Nat} (hdg : decode cc pc = .ok (.ifCond .le off, 3)) (ht : (pc : Int) + off = (tgt : Int)) (h : cmpI a 0 (if 0 < a then y else x) = some z) (kt : x = some z → gP p l e R s m args below meth c E A mL Q w tgt lv rest t) (kf : y = some z → gP p l e R s m args below meth c E A mL Q w (pc + 3) lv rest t) : gP p l e R s m args below meth c E A mL Q w pc lv (iv a :: rest) t := by
  intro H locs ls hP hD hS hl
  obtain ⟨hx, hb, hr, hml, hown, hts, hlk, hin⟩ := X.1
  obtain ⟨h1, h2, h3⟩ := cmpI_some h
  refine lv_if_le hx hb hdg ht (fun q => ?_) (fun q => ?_)
  · rw [if_neg (fun k => Int.not_le.mpr k ((z_le h1 h2).mp q))] at h3
    exact kt h3 H locs ls hP hD hS hl
  · rw [if_pos (Int.not_le.mp (fun k => q ((z_le h1 h2).mpr k)))] at h3
    exact kf h3 H locs ls hP hD hS hl
theorem g_lcmp_eq (X : gX p s m meth c cc mL ret y0 args E A) {Z : Type} {z : Z} {x y : Option Z} {a b : Int64} {off : Int} {tgt : Nat} (hdg0 : decode cc pc = .ok (.lcmp, 1)) (hdg : decode cc (pc + 1) = .ok (.ifCond .eq off, 3)) (ht : ((pc + 1 : Nat) : Int) + off = (tgt : Int)) (h : (if a = b then x else y) = some z) (kt : x = some z → gP p l e R s m args below meth c E A mL Q w tgt lv rest t) (kf : y = some z → gP p l e R s m args below meth c E A mL Q w (pc + 4) lv rest t) : gP p l e R s m args below meth c E A mL Q w pc lv (.long b :: .long a :: rest) t := by
  intro H locs ls hP hD hS hl
  obtain ⟨hx, hb, hr, hml, hown, hts, hlk, hin⟩ := X.1
  refine W.lcmp hx hb hdg0 ?_
  refine lv_if_eq hx hb hdg ht (fun q => ?_) (fun q => ?_)
  · rw [if_pos ((lg_cmp_eq a b).mp q)] at h
    exact kt h H locs ls hP hD hS hl
  · rw [if_neg (fun k => q ((lg_cmp_eq a b).mpr k))] at h
    exact kf h H locs ls hP hD hS hl
theorem g_lcmp_ne (X : gX p s m meth c cc mL ret y0 args E A) {Z : Type} {z : Z} {x y : Option Z} {a b : Int64} {off : Int} {tgt : Nat} (hdg0 : decode cc pc = .ok (.lcmp, 1)) (hdg : decode cc (pc + 1) = .ok (.ifCond .ne off, 3)) (ht : ((pc + 1 : Nat) : Int) + off = (tgt : Int)) (h : (if a = b then y else x) = some z) (kt : x = some z → gP p l e R s m args below meth c E A mL Q w tgt lv rest t) (kf : y = some z → gP p l e R s m args below meth c E A mL Q w (pc + 4) lv rest t) : gP p l e R s m args below meth c E A mL Q w pc lv (.long b :: .long a :: rest) t := by
  intro H locs ls hP hD hS hl
  obtain ⟨hx, hb, hr, hml, hown, hts, hlk, hin⟩ := X.1
  refine W.lcmp hx hb hdg0 ?_
  refine lv_if_ne hx hb hdg ht (fun q => ?_) (fun q => ?_)
  · rw [if_neg (fun k => q ((lg_cmp_eq a b).mpr k))] at h
    exact kt h H locs ls hP hD hS hl
  · rw [if_pos ((lg_cmp_eq a b).mp q)] at h
    exact kf h H locs ls hP hD hS hl
theorem g_lcmp_lt (X : gX p s m meth c cc mL ret y0 args E A) {Z : Type} {z : Z} {x y : Option Z} {a b : Int64} {off : Int} {tgt : Nat} (hdg0 : decode cc pc = .ok (.lcmp, 1)) (hdg : decode cc (pc + 1) = .ok (.ifCond .lt off, 3)) (ht : ((pc + 1 : Nat) : Int) + off = (tgt : Int)) (h : (if a < b then x else y) = some z) (kt : x = some z → gP p l e R s m args below meth c E A mL Q w tgt lv rest t) (kf : y = some z → gP p l e R s m args below meth c E A mL Q w (pc + 4) lv rest t) : gP p l e R s m args below meth c E A mL Q w pc lv (.long b :: .long a :: rest) t := by
  intro H locs ls hP hD hS hl
  obtain ⟨hx, hb, hr, hml, hown, hts, hlk, hin⟩ := X.1
  refine W.lcmp hx hb hdg0 ?_
  refine lv_if_lt hx hb hdg ht (fun q => ?_) (fun q => ?_)
  · rw [if_pos ((lg_cmp_lt a b).mp q)] at h
    exact kt h H locs ls hP hD hS hl
  · rw [if_neg (fun k => q ((lg_cmp_lt a b).mpr k))] at h
    exact kf h H locs ls hP hD hS hl
theorem g_lcmp_ge (X : gX p s m meth c cc mL ret y0 args E A) {Z : Type} {z : Z} {x y : Option Z} {a b : Int64} {off : Int} {tgt : Nat} (hdg0 : decode cc pc = .ok (.lcmp, 1)) (hdg : decode cc (pc + 1) = .ok (.ifCond .ge off, 3)) (ht : ((pc + 1 : Nat) : Int) + off = (tgt : Int)) (h : (if a < b then y else x) = some z) (kt : x = some z → gP p l e R s m args below meth c E A mL Q w tgt lv rest t) (kf : y = some z → gP p l e R s m args below meth c E A mL Q w (pc + 4) lv rest t) : gP p l e R s m args below meth c E A mL Q w pc lv (.long b :: .long a :: rest) t := by
  intro H locs ls hP hD hS hl
  obtain ⟨hx, hb, hr, hml, hown, hts, hlk, hin⟩ := X.1
  refine W.lcmp hx hb hdg0 ?_
  refine lv_if_ge hx hb hdg ht (fun q => ?_) (fun q => ?_)
  · rw [if_neg (fun k => Int32.not_le.mpr ((lg_cmp_lt a b).mpr k) q)] at h
    exact kt h H locs ls hP hD hS hl
  · rw [if_pos ((lg_cmp_lt a b).mp (Int32.not_le.mp q))] at h
    exact kf h H locs ls hP hD hS hl
theorem g_lcmp_gt (X : gX p s m meth c cc mL ret y0 args E A) {Z : Type} {z : Z} {x y : Option Z} {a b : Int64} {off : Int} {tgt : Nat} (hdg0 : decode cc pc = .ok (.lcmp, 1)) (hdg : decode cc (pc + 1) = .ok (.ifCond .gt off, 3)) (ht : ((pc + 1 : Nat) : Int) + off = (tgt : Int)) (h : (if b < a then x else y) = some z) (kt : x = some z → gP p l e R s m args below meth c E A mL Q w tgt lv rest t) (kf : y = some z → gP p l e R s m args below meth c E A mL Q w (pc + 4) lv rest t) : gP p l e R s m args below meth c E A mL Q w pc lv (.long b :: .long a :: rest) t := by
  intro H locs ls hP hD hS hl
  obtain ⟨hx, hb, hr, hml, hown, hts, hlk, hin⟩ := X.1
  refine W.lcmp hx hb hdg0 ?_
  refine lv_if_gt hx hb hdg ht (fun q => ?_) (fun q => ?_)
  · rw [if_pos ((lg_cmp_gt a b).mp q)] at h
    exact kt h H locs ls hP hD hS hl
  · rw [if_neg (fun k => q ((lg_cmp_gt a b).mpr k))] at h
    exact kf h H locs ls hP hD hS hl
theorem g_lcmp_le (X : gX p s m meth c cc mL ret y0 args E A) {Z : Type} {z : Z} {x y : Option Z} {a b : Int64} {off : Int} {tgt : Nat} (hdg0 : decode cc pc = .ok (.lcmp, 1)) (hdg : decode cc (pc + 1) = .ok (.ifCond .le off, 3)) (ht : ((pc + 1 : Nat) : Int) + off = (tgt : Int)) (h : (if b < a then y else x) = some z) (kt : x = some z → gP p l e R s m args below meth c E A mL Q w tgt lv rest t) (kf : y = some z → gP p l e R s m args below meth c E A mL Q w (pc + 4) lv rest t) : gP p l e R s m args below meth c E A mL Q w pc lv (.long b :: .long a :: rest) t := by
  intro H locs ls hP hD hS hl
  obtain ⟨hx, hb, hr, hml, hown, hts, hlk, hin⟩ := X.1
  refine W.lcmp hx hb hdg0 ?_
  refine lv_if_le hx hb hdg ht (fun q => ?_) (fun q => ?_)
  · rw [if_neg (fun k => Int32.not_le.mpr ((lg_cmp_gt a b).mpr k) q)] at h
    exact kt h H locs ls hP hD hS hl
  · rw [if_pos ((lg_cmp_gt a b).mp (Int32.not_le.mp q))] at h
    exact kf h H locs ls hP hD hS hl
theorem g_mmin (X : gX p s m meth c cc mL ret y0 args E A) {Z : Type} {z : Z} {x : Option Z} {a b : Int} {idx : Nat} (hlink : Cond.methodLink y0.cls idx yJ9_min_7cf53 ∈ TB) (hfr : 1 ≤ R.frames) (hlo : (rest.map fun v => v.category).sum + 13 ≤ R.locals) (hdg : decode cc pc = .ok (.invokestatic idx, 3)) (h : cmpI a b x = some z) (kk : x = some z → gP p l e R s m args below meth c E A mL Q w (pc + 3) lv (iv (min a b) :: rest) t) : gP p l e R s m args below meth c E A mL Q w pc lv (iv b :: iv a :: rest) t := by
  intro H locs ls hP hD hS hl
  obtain ⟨hx, hb, hr, hml, hown, hts, hlk, hin⟩ := X.1
  obtain ⟨h1, h2, h3⟩ := cmpI_some h
  refine cw_minI X.1 hl.1 hlink hfr hlo (Nat.zero_le _) (Nat.zero_le _) hdg ?_
  have e9 : (if Int32.ofInt b < Int32.ofInt a then Int32.ofInt b else Int32.ofInt a) = Int32.ofInt (min a b) := by
    by_cases q : b < a
    · rw [if_pos ((z_lt h2 h1).mpr q), show min a b = b from by omega]
    · rw [if_neg (fun k => q ((z_lt h2 h1).mp k)), show min a b = a from by omega]
  rw [e9]
  exact kk h3 H locs ls hP hD hS hl
theorem g_mmax (X : gX p s m meth c cc mL ret y0 args E A) {Z : Type} {z : Z} {x : Option Z} {a b : Int} {idx : Nat} (hlink : Cond.methodLink y0.cls idx yJ9_max_7cf53 ∈ TB) (hfr : 1 ≤ R.frames) (hlo : (rest.map fun v => v.category).sum + 13 ≤ R.locals) (hdg : decode cc pc = .ok (.invokestatic idx, 3)) (h : cmpI a b x = some z) (kk : x = some z → gP p l e R s m args below meth c E A mL Q w (pc + 3) lv (iv (max a b) :: rest) t) : gP p l e R s m args below meth c E A mL Q w pc lv (iv b :: iv a :: rest) t := by
  intro H locs ls hP hD hS hl
  obtain ⟨hx, hb, hr, hml, hown, hts, hlk, hin⟩ := X.1
  obtain ⟨h1, h2, h3⟩ := cmpI_some h
  refine cw_maxI X.1 hl.1 hlink hfr hlo (Nat.zero_le _) (Nat.zero_le _) hdg ?_
  have e9 : (if Int32.ofInt a < Int32.ofInt b then Int32.ofInt b else Int32.ofInt a) = Int32.ofInt (max a b) := by
    by_cases q : a < b
    · rw [if_pos ((z_lt h1 h2).mpr q), show max a b = b from by omega]
    · rw [if_neg (fun k => q ((z_lt h1 h2).mp k)), show max a b = a from by omega]
  rw [e9]
  exact kk h3 H locs ls hP hD hS hl
theorem g_tableIn (X : gX p s m meth c cc mL ret y0 args E A) {dflt lo hi : Int} {offs : Array Int} {len : Nat} {a : Int} {off : Int} {tgt : Nat} (hdg : decode cc pc = .ok (.tableswitch dflt lo hi offs, len)) {k : Int} (hr9 : inR a) (he : a = k) (h1 : ¬ k < lo) (h2 : ¬ hi < k) (ho : offs[(k - lo).toNat]? = some off) (ht : (pc : Int) + off = (tgt : Int)) (kk : gP p l e R s m args below meth c E A mL Q w tgt lv rest t) : gP p l e R s m args below meth c E A mL Q w pc lv (iv a :: rest) t := by
  intro H locs ls hP hD hS hl
  obtain ⟨hx, hb, hr, hml, hown, hts, hlk, hin⟩ := X.1
  have e9 := z_to hr9
  exact lv_tableIn hx hb hdg (by rw [e9, he]; exact h1) (by rw [e9, he]; exact h2) (by rw [e9, he]; exact ho) ht (kk H locs ls hP hD hS hl)
theorem g_tableOut (X : gX p s m meth c cc mL ret y0 args E A) {dflt lo hi : Int} {offs : Array Int} {len : Nat} {a : Int} {tgt : Nat} (hdg : decode cc pc = .ok (.tableswitch dflt lo hi offs, len)) (hr9 : inR a) (h1 : a < lo ∨ hi < a) (ht : (pc : Int) + dflt = (tgt : Int)) (kk : gP p l e R s m args below meth c E A mL Q w tgt lv rest t) : gP p l e R s m args below meth c E A mL Q w pc lv (iv a :: rest) t := by
  intro H locs ls hP hD hS hl
  obtain ⟨hx, hb, hr, hml, hown, hts, hlk, hin⟩ := X.1
  have e9 := z_to hr9
  exact lv_tableOut hx hb hdg (by rw [e9]; exact h1) ht (kk H locs ls hP hD hS hl)
theorem g_lookup (X : gX p s m meth c cc mL ret y0 args E A) {dflt : Int} {ps : Array (Int × Int)} {len : Nat} {a : Int} {off : Int} {tgt : Nat} (hdg : decode cc pc = .ok (.lookupswitch dflt ps, len)) (hr9 : inR a) (hp : (ps.toList.zip (ps.toList.drop 1)).all (fun (a, next) => a.1 < next.1) = true) (ho : Op.lookupswitch.offset ps.toList dflt a = off) (ht : (pc : Int) + off = (tgt : Int)) (kk : gP p l e R s m args below meth c E A mL Q w tgt lv rest t) : gP p l e R s m args below meth c E A mL Q w pc lv (iv a :: rest) t := by
  intro H locs ls hP hD hS hl
  obtain ⟨hx, hb, hr, hml, hown, hts, hlk, hin⟩ := X.1
  have e9 := z_to hr9
  exact lv_lookup hx hb hdg hp (by rw [e9]; exact ho) ht (kk H locs ls hP hD hS hl)
theorem g_let {V Z : Type} {z : Z} {v : V} {K : V → Option Z} {P : Prop} (h : lt1 v K = some z) (kk : ∀ v1 : V, K v1 = some z → P) : P := kk v h
theorem g_join {V Z : Type} {z : Z} {j : V} {K : V → Option Z} {P : Prop} {J : V → Prop} (h : jn1 j K = some z) (hj : J j) (kk : ∀ j1 : V, J j1 → K j1 = some z → P) : P := kk j hj h
/-- a field of a cell of the table, as a class links it -/
def gF (tab : List gS) (id f tag tg : Nat) (own : String) (idx : Nat) : Prop := ∃ (j ci N : Nat) (fs : List (Nat × Nat)) (C ref : String) (T : u_T), tab[j]? = some (id, 9, ci, fs) ∧ fs[f]? = some (tag, tg) ∧ vwCl[ci]? = some (C, T, N) ∧ f < N ∧ (∀ w ∈ u_ws C T N, w ∈ TB) ∧ Cond.fieldLink own idx ref (T f).2.1 (T f).2.2.1 ∈ TB ∧ ref = (T f).1
/-- and as one may write it -/
def gFw (tab : List gS) (id f tag tg : Nat) (own : String) (idx : Nat) (ty : FieldType) : Prop := ∃ (j ci N : Nat) (fs : List (Nat × Nat)) (C ref : String) (T : u_T) (ty0 : Nat → FieldType), tab[j]? = some (id, 9, ci, fs) ∧ fs[f]? = some (tag, tg) ∧ vwCl[ci]? = some (C, T, N) ∧ f < N ∧ (∀ w ∈ u_ws C T N, w ∈ TB) ∧ Cond.fieldLink own idx ref (T f).2.1 (T f).2.2.1 ∈ TB ∧ ref = (T f).1 ∧ (∀ k, k < N → parseFieldDescriptor (T k).2.2.1 = some (ty0 k)) ∧ (∀ a, a < N → ∀ b, b < N → a ≠ b → (T a).2.1 ≠ (T b).2.1) ∧ (T f).2.2.2 = false ∧ parseFieldDescriptor (T f).2.2.1 = some ty ∧ gU tab
/-- an array of the table -/
def gA (tab : List gS) (id so n : Nat) : Prop := ∃ j : Nat, tab[j]? = some (id, so, n, []) ∧ gU tab ∧ n ≤ 2147483647
/-- an object of the table -/
def gO (tab : List gS) (id ci : Nat) : Prop := ∃ (j : Nat) (fs : List (Nat × Nat)), tab[j]? = some (id, 9, ci, fs)
variable {r : Nat → Nat} {tab : List gS}
theorem g_getI (X : gX p s m meth c cc mL ret y0 args E A) {Z : Type} {z : Z} {id f tg idx : Nat} {own : String} {K : Int → Option Z} (hF : gF tab id f 0 tg own idx) (ho : y0.cls = own) (hdg : decode cc pc = .ok (.getfield idx, 3)) (h : lt1 (t.1 id f) K = some z) (kk : ∀ v : Int, K v = some z → gP p l e R s m args below meth c E A mL Q (gW E r tab) (pc + 3) lv (iv v :: rest) t) : gP p l e R s m args below meth c E A mL Q (gW E r tab) pc lv (.ref (r id) :: rest) t := by
  intro H locs ls hP hD hS hl
  obtain ⟨hx, hb, hr, hml, hown, hts, hlk, hin⟩ := X.1
  obtain ⟨j, ci, N, fs, C, ref, T, hj, hf, hci, hfn, hws, hlink, href⟩ := hF
  subst ho
  subst href
  exact va_get (D := E.1) (v := iv (t.1 id f)) hx hb hts hws hown X.2.2.1 hP j (gW_at hj) hci f hfn (hts _ hlink) (fun _ h9 => h9) ((gfs_at hf).trans (congrArg some rfl)) hdg (kk _ h H locs ls hP hD hS hl)
theorem g_getL (X : gX p s m meth c cc mL ret y0 args E A) {Z : Type} {z : Z} {id f tg idx : Nat} {own : String} {K : Int64 → Option Z} (hF : gF tab id f 2 tg own idx) (ho : y0.cls = own) (hdg : decode cc pc = .ok (.getfield idx, 3)) (h : lt1 (t.2 id f) K = some z) (kk : ∀ v : Int64, K v = some z → gP p l e R s m args below meth c E A mL Q (gW E r tab) (pc + 3) lv (.long v :: rest) t) : gP p l e R s m args below meth c E A mL Q (gW E r tab) pc lv (.ref (r id) :: rest) t := by
  intro H locs ls hP hD hS hl
  obtain ⟨hx, hb, hr, hml, hown, hts, hlk, hin⟩ := X.1
  obtain ⟨j, ci, N, fs, C, ref, T, hj, hf, hci, hfn, hws, hlink, href⟩ := hF
  subst ho
  subst href
  exact va_get (D := E.1) (v := .long (t.2 id f)) hx hb hts hws hown X.2.2.1 hP j (gW_at hj) hci f hfn (hts _ hlink) (fun _ h9 => h9) ((gfs_at hf).trans (congrArg some rfl)) hdg (kk _ h H locs ls hP hD hS hl)
theorem g_getR (X : gX p s m meth c cc mL ret y0 args E A) {id f tg idx : Nat} {own : String} (hF : gF tab id f 1 tg own idx) (ho : y0.cls = own) (hdg : decode cc pc = .ok (.getfield idx, 3)) (kk : gP p l e R s m args below meth c E A mL Q (gW E r tab) (pc + 3) lv (.ref (r tg) :: rest) t) : gP p l e R s m args below meth c E A mL Q (gW E r tab) pc lv (.ref (r id) :: rest) t := by
  intro H locs ls hP hD hS hl
  obtain ⟨hx, hb, hr, hml, hown, hts, hlk, hin⟩ := X.1
  obtain ⟨j, ci, N, fs, C, ref, T, hj, hf, hci, hfn, hws, hlink, href⟩ := hF
  subst ho
  subst href
  exact va_get (D := E.1) (v := .ref (r tg)) hx hb hts hws hown X.2.2.1 hP j (gW_at hj) hci f hfn (hts _ hlink) (fun _ h9 => h9) ((gfs_at hf).trans (congrArg some rfl)) hdg (kk H locs ls hP hD hS hl)
theorem g_putI (X : gX p s m meth c cc mL ret y0 args E A) {Z : Type} {z : Z} {id f tg idx : Nat} {own : String} {a : Int} {K : St → Option Z} (hF : gFw tab id f 0 tg own idx .int) (ho : y0.cls = own) (hdg : decode cc pc = .ok (.putfield idx, 3)) (h : lt1 (pI t id f a) K = some z) (kk : ∀ t1 : St, K t1 = some z → gP p l e R s m args below meth c E A mL Q (gW E r tab) (pc + 3) lv rest t1) : gP p l e R s m args below meth c E A mL Q (gW E r tab) pc lv (iv a :: .ref (r id) :: rest) t := by
  intro H locs ls hP hD hS hl
  obtain ⟨hx, hb, hr, hml, hown, hts, hlk, hin⟩ := X.1
  obtain ⟨j, ci, N, fs, C, ref, T, ty0, hj, hf, hci, hfn, hws, hlink, href, hty, hnm, hfin, hpf, hU⟩ := hF
  subst ho
  subst href
  refine va_put (D := E.1) (v := iv a) (ty := .int) hx hb hts hws ty0 hty hnm hown X.2.2.1 hP hD hS j (gW_at hj) hci f hfn (hts _ hlink) (fun _ h9 => h9) hfin hpf rfl rfl (by rw [gfs_len]; exact (List.getElem?_eq_some_iff.mp hf).1) hdg (fun H1 locs1 hP1 hD1 hS1 => ?_)
  have e1 : (gW E r tab t).set j (r id, ob ci ((gfs r t id fs).set f (iv a))) = gW E r tab (pI t id f a) := by
    rw [gfs_setI hf]
    exact gW_set (q := (id, 9, ci, fs)) (t1 := pI t id f a) hU hj (fun id2 h9 => ⟨pI_ne h9, rfl⟩)
  have hP2 : va_P E.1 vwCl ((gW E r tab t).set j (r id, ob ci ((gfs r t id fs).set f (iv a)))) H1 := hP1
  have hD2 : va_D A ((gW E r tab t).set j (r id, ob ci ((gfs r t id fs).set f (iv a)))) := hD1
  rw [e1] at hP2 hD2
  exact kk _ h H1 locs1 ls hP2 hD2 hS1 hl
theorem g_putZ (X : gX p s m meth c cc mL ret y0 args E A) {Z : Type} {z : Z} {id f tg idx : Nat} {own : String} {a : Int} {K : St → Option Z} (hF : gFw tab id f 0 tg own idx .boolean) (ho : y0.cls = own) (hdg : decode cc pc = .ok (.putfield idx, 3)) (h : boI a (lt1 (pI t id f a) K) = some z) (kk : ∀ t1 : St, K t1 = some z → gP p l e R s m args below meth c E A mL Q (gW E r tab) (pc + 3) lv rest t1) : gP p l e R s m args below meth c E A mL Q (gW E r tab) pc lv (iv a :: .ref (r id) :: rest) t := by
  intro H locs ls hP hD hS hl
  obtain ⟨hx, hb, hr, hml, hown, hts, hlk, hin⟩ := X.1
  obtain ⟨j, ci, N, fs, C, ref, T, ty0, hj, hf, hci, hfn, hws, hlink, href, hty, hnm, hfin, hpf, hU⟩ := hF
  subst ho
  subst href
  obtain ⟨h01, h⟩ := boI_some h
  refine va_put (D := E.1) (v := iv a) (ty := .boolean) hx hb hts hws ty0 hty hnm hown X.2.2.1 hP hD hS j (gW_at hj) hci f hfn (hts _ hlink) (fun _ h9 => h9) hfin hpf (by rcases h01 with rfl | rfl <;> decide) (by rcases h01 with rfl | rfl <;> decide) (by rw [gfs_len]; exact (List.getElem?_eq_some_iff.mp hf).1) hdg (fun H1 locs1 hP1 hD1 hS1 => ?_)
  have e1 : (gW E r tab t).set j (r id, ob ci ((gfs r t id fs).set f (iv a))) = gW E r tab (pI t id f a) := by
    rw [gfs_setI hf]
    exact gW_set (q := (id, 9, ci, fs)) (t1 := pI t id f a) hU hj (fun id2 h9 => ⟨pI_ne h9, rfl⟩)
  have hP2 : va_P E.1 vwCl ((gW E r tab t).set j (r id, ob ci ((gfs r t id fs).set f (iv a)))) H1 := hP1
  have hD2 : va_D A ((gW E r tab t).set j (r id, ob ci ((gfs r t id fs).set f (iv a)))) := hD1
  rw [e1] at hP2 hD2
  exact kk _ h H1 locs1 ls hP2 hD2 hS1 hl
theorem g_putL (X : gX p s m meth c cc mL ret y0 args E A) {Z : Type} {z : Z} {id f tg idx : Nat} {own : String} {a : Int64} {K : St → Option Z} (hF : gFw tab id f 2 tg own idx .long) (ho : y0.cls = own) (hdg : decode cc pc = .ok (.putfield idx, 3)) (h : lt1 (pL t id f a) K = some z) (kk : ∀ t1 : St, K t1 = some z → gP p l e R s m args below meth c E A mL Q (gW E r tab) (pc + 3) lv rest t1) : gP p l e R s m args below meth c E A mL Q (gW E r tab) pc lv (.long a :: .ref (r id) :: rest) t := by
  intro H locs ls hP hD hS hl
  obtain ⟨hx, hb, hr, hml, hown, hts, hlk, hin⟩ := X.1
  obtain ⟨j, ci, N, fs, C, ref, T, ty0, hj, hf, hci, hfn, hws, hlink, href, hty, hnm, hfin, hpf, hU⟩ := hF
  subst ho
  subst href
  refine va_put (D := E.1) (v := .long a) (ty := .long) hx hb hts hws ty0 hty hnm hown X.2.2.1 hP hD hS j (gW_at hj) hci f hfn (hts _ hlink) (fun _ h9 => h9) hfin hpf rfl rfl (by rw [gfs_len]; exact (List.getElem?_eq_some_iff.mp hf).1) hdg (fun H1 locs1 hP1 hD1 hS1 => ?_)
  have e1 : (gW E r tab t).set j (r id, ob ci ((gfs r t id fs).set f (.long a))) = gW E r tab (pL t id f a) := by
    rw [gfs_setL hf]
    exact gW_set (q := (id, 9, ci, fs)) (t1 := pL t id f a) hU hj (fun id2 h9 => ⟨rfl, pL_ne h9⟩)
  have hP2 : va_P E.1 vwCl ((gW E r tab t).set j (r id, ob ci ((gfs r t id fs).set f (.long a)))) H1 := hP1
  have hD2 : va_D A ((gW E r tab t).set j (r id, ob ci ((gfs r t id fs).set f (.long a)))) := hD1
  rw [e1] at hP2 hD2
  exact kk _ h H1 locs1 ls hP2 hD2 hS1 hl
theorem g_iald (X : gX p s m meth c cc mL ret y0 args E A) {Z : Type} {z : Z} {id n : Nat} {i : Int} {K : Int → Option Z} (hA : gA tab id 1 n) (hdg : decode cc pc = .ok (.iaload, 1)) (h : ixI i n (lt1 (t.1 id i.toNat) K) = some z) (kk : ∀ v : Int, K v = some z → gP p l e R s m args below meth c E A mL Q (gW E r tab) (pc + 1) lv (iv v :: rest) t) : gP p l e R s m args below meth c E A mL Q (gW E r tab) pc lv (iv i :: .ref (r id) :: rest) t := by
  intro H locs ls hP hD hS hl
  obtain ⟨hx, hb, hr, hml, hown, hts, hlk, hin⟩ := X.1
  obtain ⟨j, hj, hU, hn⟩ := hA
  obtain ⟨h1, h2, h3⟩ := ixI_some h
  refine va_iald (f := fun i => Int32.ofInt (t.1 id i)) hx hb X.2.2.1 hP j 1 (gW_at hj) rfl (vp_in_z h1 h2 hn) hdg ?_
  rw [z_cl h1 (by omega)]
  exact kk _ h3 H locs ls hP hD hS hl
theorem g_bald (X : gX p s m meth c cc mL ret y0 args E A) {Z : Type} {z : Z} {id n : Nat} {i : Int} {K : Int → Option Z} (hA : gA tab id 0 n) (hdg : decode cc pc = .ok (.baload, 1)) (h : ixI i n (lt1 (t.1 id i.toNat) K) = some z) (kk : ∀ v : Int, K v = some z → gP p l e R s m args below meth c E A mL Q (gW E r tab) (pc + 1) lv (iv v :: rest) t) : gP p l e R s m args below meth c E A mL Q (gW E r tab) pc lv (iv i :: .ref (r id) :: rest) t := by
  intro H locs ls hP hD hS hl
  obtain ⟨hx, hb, hr, hml, hown, hts, hlk, hin⟩ := X.1
  obtain ⟨j, hj, hU, hn⟩ := hA
  obtain ⟨h1, h2, h3⟩ := ixI_some h
  refine va_bald (f := fun i => Int32.ofInt (t.1 id i)) hx hb X.2.2.1 hP j 0 (gW_at hj) rfl (vp_in_z h1 h2 hn) hdg ?_
  rw [z_cl h1 (by omega)]
  exact kk _ h3 H locs ls hP hD hS hl
theorem g_sald (X : gX p s m meth c cc mL ret y0 args E A) {Z : Type} {z : Z} {id n : Nat} {i : Int} {K : Int → Option Z} (hA : gA tab id 3 n) (hdg : decode cc pc = .ok (.saload, 1)) (h : ixI i n (lt1 (t.1 id i.toNat) K) = some z) (kk : ∀ v : Int, K v = some z → gP p l e R s m args below meth c E A mL Q (gW E r tab) (pc + 1) lv (iv v :: rest) t) : gP p l e R s m args below meth c E A mL Q (gW E r tab) pc lv (iv i :: .ref (r id) :: rest) t := by
  intro H locs ls hP hD hS hl
  obtain ⟨hx, hb, hr, hml, hown, hts, hlk, hin⟩ := X.1
  obtain ⟨j, hj, hU, hn⟩ := hA
  obtain ⟨h1, h2, h3⟩ := ixI_some h
  refine va_sald (f := fun i => Int32.ofInt (t.1 id i)) hx hb X.2.2.1 hP j 3 (gW_at hj) rfl (vp_in_z h1 h2 hn) hdg ?_
  rw [z_cl h1 (by omega)]
  exact kk _ h3 H locs ls hP hD hS hl
theorem g_lald (X : gX p s m meth c cc mL ret y0 args E A) {Z : Type} {z : Z} {id n : Nat} {i : Int} {K : Int64 → Option Z} (hA : gA tab id 2 n) (hdg : decode cc pc = .ok (.laload, 1)) (h : ixI i n (lt1 (t.2 id i.toNat) K) = some z) (kk : ∀ v : Int64, K v = some z → gP p l e R s m args below meth c E A mL Q (gW E r tab) (pc + 1) lv (.long v :: rest) t) : gP p l e R s m args below meth c E A mL Q (gW E r tab) pc lv (iv i :: .ref (r id) :: rest) t := by
  intro H locs ls hP hD hS hl
  obtain ⟨hx, hb, hr, hml, hown, hts, hlk, hin⟩ := X.1
  obtain ⟨j, hj, hU, hn⟩ := hA
  obtain ⟨h1, h2, h3⟩ := ixI_some h
  refine va_lald (f := t.2 id) hx hb X.2.2.1 hP j 2 (gW_at hj) rfl (vp_in_z h1 h2 hn) hdg ?_
  rw [z_cl h1 (by omega)]
  exact kk _ h3 H locs ls hP hD hS hl
theorem g_iast (X : gX p s m meth c cc mL ret y0 args E A) {Z : Type} {z : Z} {id n : Nat} {i v : Int} {K : St → Option Z} (hA : gA tab id 1 n) (hdg : decode cc pc = .ok (.iastore, 1)) (h : ixI i n (lt1 (pI t id i.toNat (v)) K) = some z) (kk : ∀ t1 : St, K t1 = some z → gP p l e R s m args below meth c E A mL Q (gW E r tab) (pc + 1) lv rest t1) : gP p l e R s m args below meth c E A mL Q (gW E r tab) pc lv (iv v :: iv i :: .ref (r id) :: rest) t := by
  intro H locs ls hP hD hS hl
  obtain ⟨hx, hb, hr, hml, hown, hts, hlk, hin⟩ := X.1
  obtain ⟨j, hj, hU, hn⟩ := hA
  obtain ⟨h1, h2, h3⟩ := ixI_some h
  refine va_iast (f := fun i => Int32.ofInt (t.1 id i)) hx hb X.2.2.1 hP hD hS j 1 (gW_at hj) rfl (vp_in_z h1 h2 hn) hdg (fun H1 locs1 hP1 hD1 hS1 => ?_)
  rw [z_cl h1 (by omega)] at hP1 hD1
  have e1 : (gW E r tab t).set j (r id, aI E n (upd (fun i => Int32.ofInt (t.1 id i)) i.toNat (Int32.ofInt v))) = gW E r tab (pI t id i.toNat (v)) := by
    rw [← pI_up]
    exact gW_set (q := (id, 1, n, [])) (t1 := pI t id i.toNat (v)) hU hj (fun id2 h9 => ⟨pI_ne h9, rfl⟩)
  have hP2 : va_P E.1 vwCl ((gW E r tab t).set j (r id, aI E n (upd (fun i => Int32.ofInt (t.1 id i)) i.toNat (Int32.ofInt v)))) H1 := hP1
  have hD2 : va_D A ((gW E r tab t).set j (r id, aI E n (upd (fun i => Int32.ofInt (t.1 id i)) i.toNat (Int32.ofInt v)))) := hD1
  rw [e1] at hP2 hD2
  exact kk _ h3 H1 locs1 ls hP2 hD2 hS1 hl
theorem g_bast (X : gX p s m meth c cc mL ret y0 args E A) {Z : Type} {z : Z} {id n : Nat} {i v : Int} {K : St → Option Z} (hA : gA tab id 0 n) (hdg : decode cc pc = .ok (.bastore, 1)) (h : ixI i n (lt1 (pI t id i.toNat (b8 v)) K) = some z) (kk : ∀ t1 : St, K t1 = some z → gP p l e R s m args below meth c E A mL Q (gW E r tab) (pc + 1) lv rest t1) : gP p l e R s m args below meth c E A mL Q (gW E r tab) pc lv (iv v :: iv i :: .ref (r id) :: rest) t := by
  intro H locs ls hP hD hS hl
  obtain ⟨hx, hb, hr, hml, hown, hts, hlk, hin⟩ := X.1
  obtain ⟨j, hj, hU, hn⟩ := hA
  obtain ⟨h1, h2, h3⟩ := ixI_some h
  refine va_bast (f := fun i => Int32.ofInt (t.1 id i)) hx hb X.2.2.1 hP hD hS j 0 (gW_at hj) rfl (vp_in_z h1 h2 hn) hdg (fun H1 locs1 hP1 hD1 hS1 => ?_)
  rw [z_cl h1 (by omega)] at hP1 hD1
  have e1 : (gW E r tab t).set j (r id, aB E n (upd (fun i => Int32.ofInt (t.1 id i)) i.toNat (vp_nar .byte (Int32.ofInt v)))) = gW E r tab (pI t id i.toNat (b8 v)) := by
    rw [show vp_nar .byte (Int32.ofInt v) = Int32.ofInt (b8 v) from z_b8 v]
    rw [← pI_up]
    exact gW_set (q := (id, 0, n, [])) (t1 := pI t id i.toNat (b8 v)) hU hj (fun id2 h9 => ⟨pI_ne h9, rfl⟩)
  have hP2 : va_P E.1 vwCl ((gW E r tab t).set j (r id, aB E n (upd (fun i => Int32.ofInt (t.1 id i)) i.toNat (vp_nar .byte (Int32.ofInt v))))) H1 := hP1
  have hD2 : va_D A ((gW E r tab t).set j (r id, aB E n (upd (fun i => Int32.ofInt (t.1 id i)) i.toNat (vp_nar .byte (Int32.ofInt v))))) := hD1
  rw [e1] at hP2 hD2
  exact kk _ h3 H1 locs1 ls hP2 hD2 hS1 hl
theorem g_sast (X : gX p s m meth c cc mL ret y0 args E A) {Z : Type} {z : Z} {id n : Nat} {i v : Int} {K : St → Option Z} (hA : gA tab id 3 n) (hdg : decode cc pc = .ok (.sastore, 1)) (h : ixI i n (lt1 (pI t id i.toNat (b16 v)) K) = some z) (kk : ∀ t1 : St, K t1 = some z → gP p l e R s m args below meth c E A mL Q (gW E r tab) (pc + 1) lv rest t1) : gP p l e R s m args below meth c E A mL Q (gW E r tab) pc lv (iv v :: iv i :: .ref (r id) :: rest) t := by
  intro H locs ls hP hD hS hl
  obtain ⟨hx, hb, hr, hml, hown, hts, hlk, hin⟩ := X.1
  obtain ⟨j, hj, hU, hn⟩ := hA
  obtain ⟨h1, h2, h3⟩ := ixI_some h
  refine va_sast (f := fun i => Int32.ofInt (t.1 id i)) hx hb X.2.2.1 hP hD hS j 3 (gW_at hj) rfl (vp_in_z h1 h2 hn) hdg (fun H1 locs1 hP1 hD1 hS1 => ?_)
  rw [z_cl h1 (by omega)] at hP1 hD1
  have e1 : (gW E r tab t).set j (r id, aS E n (upd (fun i => Int32.ofInt (t.1 id i)) i.toNat (vp_nar .short (Int32.ofInt v)))) = gW E r tab (pI t id i.toNat (b16 v)) := by
    rw [show vp_nar .short (Int32.ofInt v) = Int32.ofInt (b16 v) from z_b16 v]
    rw [← pI_up]
    exact gW_set (q := (id, 3, n, [])) (t1 := pI t id i.toNat (b16 v)) hU hj (fun id2 h9 => ⟨pI_ne h9, rfl⟩)
  have hP2 : va_P E.1 vwCl ((gW E r tab t).set j (r id, aS E n (upd (fun i => Int32.ofInt (t.1 id i)) i.toNat (vp_nar .short (Int32.ofInt v))))) H1 := hP1
  have hD2 : va_D A ((gW E r tab t).set j (r id, aS E n (upd (fun i => Int32.ofInt (t.1 id i)) i.toNat (vp_nar .short (Int32.ofInt v))))) := hD1
  rw [e1] at hP2 hD2
  exact kk _ h3 H1 locs1 ls hP2 hD2 hS1 hl
theorem g_last (X : gX p s m meth c cc mL ret y0 args E A) {Z : Type} {z : Z} {id n : Nat} {i : Int} {v : Int64} {K : St → Option Z} (hA : gA tab id 2 n) (hdg : decode cc pc = .ok (.lastore, 1)) (h : ixI i n (lt1 (pL t id i.toNat v) K) = some z) (kk : ∀ t1 : St, K t1 = some z → gP p l e R s m args below meth c E A mL Q (gW E r tab) (pc + 1) lv rest t1) : gP p l e R s m args below meth c E A mL Q (gW E r tab) pc lv (.long v :: iv i :: .ref (r id) :: rest) t := by
  intro H locs ls hP hD hS hl
  obtain ⟨hx, hb, hr, hml, hown, hts, hlk, hin⟩ := X.1
  obtain ⟨j, hj, hU, hn⟩ := hA
  obtain ⟨h1, h2, h3⟩ := ixI_some h
  refine va_last (f := t.2 id) hx hb X.2.2.1 hP hD hS j 2 (gW_at hj) rfl (vp_in_z h1 h2 hn) hdg (fun H1 locs1 hP1 hD1 hS1 => ?_)
  rw [z_cl h1 (by omega)] at hP1 hD1
  have e1 : (gW E r tab t).set j (r id, aJ E n (vp_updL (t.2 id) i.toNat v)) = gW E r tab (pL t id i.toNat v) := by
    rw [← pL_up]
    exact gW_set (q := (id, 2, n, [])) (t1 := pL t id i.toNat v) hU hj (fun id2 h9 => ⟨rfl, pL_ne h9⟩)
  have hP2 : va_P E.1 vwCl ((gW E r tab t).set j (r id, aJ E n (vp_updL (t.2 id) i.toNat v))) H1 := hP1
  have hD2 : va_D A ((gW E r tab t).set j (r id, aJ E n (vp_updL (t.2 id) i.toNat v))) := hD1
  rw [e1] at hP2 hD2
  exact kk _ h3 H1 locs1 ls hP2 hD2 hS1 hl
theorem g_alen0 (X : gX p s m meth c cc mL ret y0 args E A) {id n : Nat} (hA : gA tab id 0 n) (hdg : decode cc pc = .ok (.arraylength, 1)) (kk : gP p l e R s m args below meth c E A mL Q (gW E r tab) (pc + 1) lv (iv (n : Int) :: rest) t) : gP p l e R s m args below meth c E A mL Q (gW E r tab) pc lv (.ref (r id) :: rest) t := by
  intro H locs ls hP hD hS hl
  obtain ⟨hx, hb, hr, hml, hown, hts, hlk, hin⟩ := X.1
  obtain ⟨j, hj, hU, hn⟩ := hA
  exact va_alen hx hb X.2.2.1 hP j 0 (gW_at hj) rfl (v := Int32.ofInt (n : Int)) Int32.ofInt_eq_ofNat.symm hdg (kk H locs ls hP hD hS hl)
theorem g_alen1 (X : gX p s m meth c cc mL ret y0 args E A) {id n : Nat} (hA : gA tab id 1 n) (hdg : decode cc pc = .ok (.arraylength, 1)) (kk : gP p l e R s m args below meth c E A mL Q (gW E r tab) (pc + 1) lv (iv (n : Int) :: rest) t) : gP p l e R s m args below meth c E A mL Q (gW E r tab) pc lv (.ref (r id) :: rest) t := by
  intro H locs ls hP hD hS hl
  obtain ⟨hx, hb, hr, hml, hown, hts, hlk, hin⟩ := X.1
  obtain ⟨j, hj, hU, hn⟩ := hA
  exact va_alen hx hb X.2.2.1 hP j 1 (gW_at hj) rfl (v := Int32.ofInt (n : Int)) Int32.ofInt_eq_ofNat.symm hdg (kk H locs ls hP hD hS hl)
theorem g_alen2 (X : gX p s m meth c cc mL ret y0 args E A) {id n : Nat} (hA : gA tab id 2 n) (hdg : decode cc pc = .ok (.arraylength, 1)) (kk : gP p l e R s m args below meth c E A mL Q (gW E r tab) (pc + 1) lv (iv (n : Int) :: rest) t) : gP p l e R s m args below meth c E A mL Q (gW E r tab) pc lv (.ref (r id) :: rest) t := by
  intro H locs ls hP hD hS hl
  obtain ⟨hx, hb, hr, hml, hown, hts, hlk, hin⟩ := X.1
  obtain ⟨j, hj, hU, hn⟩ := hA
  exact va_alen hx hb X.2.2.1 hP j 2 (gW_at hj) rfl (v := Int32.ofInt (n : Int)) Int32.ofInt_eq_ofNat.symm hdg (kk H locs ls hP hD hS hl)
theorem g_alen3 (X : gX p s m meth c cc mL ret y0 args E A) {id n : Nat} (hA : gA tab id 3 n) (hdg : decode cc pc = .ok (.arraylength, 1)) (kk : gP p l e R s m args below meth c E A mL Q (gW E r tab) (pc + 1) lv (iv (n : Int) :: rest) t) : gP p l e R s m args below meth c E A mL Q (gW E r tab) pc lv (.ref (r id) :: rest) t := by
  intro H locs ls hP hD hS hl
  obtain ⟨hx, hb, hr, hml, hown, hts, hlk, hin⟩ := X.1
  obtain ⟨j, hj, hU, hn⟩ := hA
  exact va_alen hx hb X.2.2.1 hP j 3 (gW_at hj) rfl (v := Int32.ofInt (n : Int)) Int32.ofInt_eq_ofNat.symm hdg (kk H locs ls hP hD hS hl)
abbrev gqV (E : cE) (w : St → va_W) (z : St) := qV E (fun (_ : Unit) => True) (fun (_ : Unit) => w z)
abbrev gqI (E : cE) (w : St → va_W) (z : Int × St) := qI E (fun (r9 : Int32) (_ : Unit) => r9 = Int32.ofInt z.1) (fun (_ : Unit) => w z.2)
abbrev gqL (E : cE) (w : St → va_W) (z : Int64 × St) := qL E (fun (r9 : Int64) (_ : Unit) => r9 = z.1) (fun (_ : Unit) => w z.2)
theorem g_vret (X : gX p s m meth c cc mL none y0 args E A) {z : St} {mc ms : Nat} (h : some t = some z) (hdg : decode cc pc = .ok (.return_, 1)) : gP p l e R s m args below meth c E A mL (MQ below ((gqV E w z) A) args s mc ms A) w pc lv [] t := by
  intro H locs ls hP hD hS hl
  obtain ⟨hx, hb, hr, hml, hown, hts, hlk, hin⟩ := X.1
  cases h
  refine W.widen (k := mc) (n := ms) (Nat.zero_le _) (Nat.zero_le _) ?_
  exact W.vret hx hb hr (fun t9 ht hW => ⟨⟨(), rfl, trivial, by rw [ht]; exact hP, va_K.moved hW.alike X.2.2.1, hD⟩, hS.F ht⟩) hS.2.2 hdg
theorem g_iret (X : gX p s m meth c cc mL (some .int) y0 args E A) {z : Int × St} {mc ms : Nat} {a : Int} (h : some (a, t) = some z) (hdg : decode cc pc = .ok (.ireturn, 1)) : gP p l e R s m args below meth c E A mL (MQ below ((gqI E w z) A) args s mc ms A) w pc lv [iv a] t := by
  intro H locs ls hP hD hS hl
  obtain ⟨hx, hb, hr, hml, hown, hts, hlk, hin⟩ := X.1
  cases h
  refine W.widen (k := mc) (n := ms) (Nat.zero_le _) (Nat.zero_le _) ?_
  exact W.iret hx hb hr (fun t9 ht hW => ⟨⟨_, (), rfl, rfl, by rw [ht]; exact hP, va_K.moved hW.alike X.2.2.1, hD⟩, hS.F ht⟩) hS.2.2 hdg
theorem g_zret (X : gX p s m meth c cc mL (some .boolean) y0 args E A) {z : Int × St} {mc ms : Nat} {a : Int} (h : boI a (some (a, t)) = some z) (hdg : decode cc pc = .ok (.ireturn, 1)) : gP p l e R s m args below meth c E A mL (MQ below ((gqI E w z) A) args s mc ms A) w pc lv [iv a] t := by
  intro H locs ls hP hD hS hl
  obtain ⟨hx, hb, hr, hml, hown, hts, hlk, hin⟩ := X.1
  obtain ⟨h01, h⟩ := boI_some h
  cases h
  refine W.widen (k := mc) (n := ms) (Nat.zero_le _) (Nat.zero_le _) ?_
  exact W.zret hx hb hr (by rcases h01 with rfl | rfl <;> decide) (fun t9 ht hW => ⟨⟨_, (), rfl, rfl, by rw [ht]; exact hP, va_K.moved hW.alike X.2.2.1, hD⟩, hS.F ht⟩) hS.2.2 hdg
theorem g_lret (X : gX p s m meth c cc mL (some .long) y0 args E A) {z : Int64 × St} {mc ms : Nat} {a : Int64} (h : some (a, t) = some z) (hdg : decode cc pc = .ok (.lreturn, 1)) : gP p l e R s m args below meth c E A mL (MQ below ((gqL E w z) A) args s mc ms A) w pc lv [.long a] t := by
  intro H locs ls hP hD hS hl
  obtain ⟨hx, hb, hr, hml, hown, hts, hlk, hin⟩ := X.1
  cases h
  refine W.widen (k := mc) (n := ms) (Nat.zero_le _) (Nat.zero_le _) ?_
  exact W.lret hx hb hr (fun t9 ht hW => ⟨⟨_, (), rfl, rfl, by rw [ht]; exact hP, va_K.moved hW.alike X.2.2.1, hD⟩, hS.F ht⟩) hS.2.2 hdg
theorem va_nd_range (n : Nat) : va_nd (List.range n) = true := by
  have h : ∀ l : List Nat, l.Nodup → va_nd l = true := by
    intro l
    induction l with
    | nil => intro _; rfl
    | cons a l ih =>
      intro h
      rw [List.nodup_cons] at h
      show (decide (a ∉ l) && va_nd l) = true
      rw [ih h.2, decide_eq_true h.1]; rfl
  exact h _ List.nodup_range
theorem rng_all (ws : va_W) : (List.range ws.length).map (fun i => ws[i]?) = ws.map some := by
  apply List.ext_getElem?
  intro i
  rw [List.getElem?_map, List.getElem?_map]
  by_cases h : i < ws.length
  · rw [List.getElem?_range h, List.getElem?_eq_getElem h]
    show some (ws[i]?) = some (some ws[i])
    rw [List.getElem?_eq_getElem h]
  · rw [List.getElem?_eq_none (by rw [List.length_range]; omega), List.getElem?_eq_none (by omega)]; rfl
variable {y : MethodName} {bytes : ByteArray} {maxL : Nat} {ret1 : Option FieldType} {rm : Room} {idx n : Nat} {As : List Value} {b : Nat} {stk : List Value}
theorem g_callV (X : gX p s m meth c cc mL ret y0 args E A) {Z : Type} {z : Z} {F : Option (St)} {K : St → Option Z} (hM : ∀ u : St, F = some u → cM l E y bytes maxL ret1 rm (.ref b :: As) (w t) (gqV E w u)) (hY : cY y bytes maxL ret1 n) (hI : cYi y) (hlink : Cond.methodLink y0.cls idx y ∈ TB) (rq ci : Nat) {rfs : List Value} {T : u_T} {N : Nat} (hrq : (w t)[rq]? = some (b, .inr (ci, rfs))) (hci : vwCl[ci]? = some (y.cls, T, N)) (hlen : As.length = n) (hst : stk = As.reverse ++ .ref b :: rest) (hcat : (rest.map fun v => v.category).sum ≤ 8) (hdg : decode cc pc = .ok (.invokevirtual idx, 3)) (hR : rm.frames + 1 ≤ R.frames ∧ 8 + (maxL + 11) + rm.locals ≤ R.locals) (h0 : rm.cells = 0 ∧ rm.slots = 0) (h : bdV F K = some z) (kk : ∀ t1 : St, K t1 = some z → gP p l e R s m args below meth c E A mL Q w (pc + 3) lv rest t1) : gP p l e R s m args below meth c E A mL Q w pc lv stk t := by
  intro H locs ls hP hD hS hl
  obtain ⟨hx, hb, hr, hml, hown, hts, hlk, hin⟩ := X.1
  unfold bdV at h
  cases hF : F with
  | none => rw [hF] at h; cases h
  | some u =>
    rw [hF] at h
    refine cV_go (wr := []) (cM_runV X.1 (hM u hF) hY hI hlink hP hD hS X.2.2.1 X.2.2.2 X.2.1 (List.range (w t).length) (va_nd_range _) (rng_all _) rq ci hrq hci hlen hl.1 hst hcat hdg hR ⟨by rw [h0.1]; exact Nat.zero_le _, by rw [h0.2]; exact Nat.zero_le _⟩) hP hD hS X.2.1 (List.range (w t).length) [] (rng_all _) rfl rfl (fun i h9 => absurd h9 List.not_mem_nil) (fun u9 H1 locs1 hw hP1 hD1 hS1 => ?_)
    rw [h0.1, h0.2]
    exact kk u h H1 locs1 ls hP1 hD1 hS1 hl
theorem g_callsV (X : gX p s m meth c cc mL ret y0 args E A) {Z : Type} {z : Z} {F : Option (St)} {K : St → Option Z} (hM : ∀ u : St, F = some u → cM l E y bytes maxL ret1 rm (As) (w t) (gqV E w u)) (hY : cY y bytes maxL ret1 n) (hsta : Cond.static y ∈ TB) (hlink : Cond.methodLink y0.cls idx y ∈ TB) (hlen : As.length = n) (hst : stk = As.reverse ++ rest) (hcat : (rest.map fun v => v.category).sum ≤ 8) (hdg : decode cc pc = .ok (.invokestatic idx, 3)) (hR : rm.frames + 1 ≤ R.frames ∧ 8 + (maxL + 11) + rm.locals ≤ R.locals) (h0 : rm.cells = 0 ∧ rm.slots = 0) (h : bdV F K = some z) (kk : ∀ t1 : St, K t1 = some z → gP p l e R s m args below meth c E A mL Q w (pc + 3) lv rest t1) : gP p l e R s m args below meth c E A mL Q w pc lv stk t := by
  intro H locs ls hP hD hS hl
  obtain ⟨hx, hb, hr, hml, hown, hts, hlk, hin⟩ := X.1
  unfold bdV at h
  cases hF : F with
  | none => rw [hF] at h; cases h
  | some u =>
    rw [hF] at h
    refine cV_go (wr := []) (cM_runS X.1 (hM u hF) hY hsta hlink hP hD hS X.2.2.1 X.2.2.2 X.2.1 (List.range (w t).length) (va_nd_range _) (rng_all _) hlen hl.1 hst hcat hdg hR ⟨by rw [h0.1]; exact Nat.zero_le _, by rw [h0.2]; exact Nat.zero_le _⟩) hP hD hS X.2.1 (List.range (w t).length) [] (rng_all _) rfl rfl (fun i h9 => absurd h9 List.not_mem_nil) (fun u9 H1 locs1 hw hP1 hD1 hS1 => ?_)
    rw [h0.1, h0.2]
    exact kk u h H1 locs1 ls hP1 hD1 hS1 hl
theorem g_callI (X : gX p s m meth c cc mL ret y0 args E A) {Z : Type} {z : Z} {F : Option (Int × St)} {K : Int → St → Option Z} (hM : ∀ u : Int × St, F = some u → cM l E y bytes maxL ret1 rm (.ref b :: As) (w t) (gqI E w u)) (hY : cY y bytes maxL ret1 n) (hI : cYi y) (hlink : Cond.methodLink y0.cls idx y ∈ TB) (rq ci : Nat) {rfs : List Value} {T : u_T} {N : Nat} (hrq : (w t)[rq]? = some (b, .inr (ci, rfs))) (hci : vwCl[ci]? = some (y.cls, T, N)) (hlen : As.length = n) (hst : stk = As.reverse ++ .ref b :: rest) (hcat : (rest.map fun v => v.category).sum ≤ 8) (hdg : decode cc pc = .ok (.invokevirtual idx, 3)) (hR : rm.frames + 1 ≤ R.frames ∧ 8 + (maxL + 11) + rm.locals ≤ R.locals) (h0 : rm.cells = 0 ∧ rm.slots = 0) (h : bdI F K = some z) (kk : ∀ (v : Int) (t1 : St), K v t1 = some z → gP p l e R s m args below meth c E A mL Q w (pc + 3) lv (iv v :: rest) t1) : gP p l e R s m args below meth c E A mL Q w pc lv stk t := by
  intro H locs ls hP hD hS hl
  obtain ⟨hx, hb, hr, hml, hown, hts, hlk, hin⟩ := X.1
  unfold bdI at h
  cases hF : F with
  | none => rw [hF] at h; cases h
  | some u =>
    rw [hF] at h
    refine cI_go (wr := []) (cM_runV X.1 (hM u hF) hY hI hlink hP hD hS X.2.2.1 X.2.2.2 X.2.1 (List.range (w t).length) (va_nd_range _) (rng_all _) rq ci hrq hci hlen hl.1 hst hcat hdg hR ⟨by rw [h0.1]; exact Nat.zero_le _, by rw [h0.2]; exact Nat.zero_le _⟩) hP hD hS X.2.1 (List.range (w t).length) [] (rng_all _) rfl rfl (fun i h9 => absurd h9 List.not_mem_nil) (fun r9 u9 H1 locs1 hw hP1 hD1 hS1 => ?_)
    rw [h0.1, h0.2, hw]
    exact kk u.1 u.2 h H1 locs1 ls hP1 hD1 hS1 hl
theorem g_callsI (X : gX p s m meth c cc mL ret y0 args E A) {Z : Type} {z : Z} {F : Option (Int × St)} {K : Int → St → Option Z} (hM : ∀ u : Int × St, F = some u → cM l E y bytes maxL ret1 rm (As) (w t) (gqI E w u)) (hY : cY y bytes maxL ret1 n) (hsta : Cond.static y ∈ TB) (hlink : Cond.methodLink y0.cls idx y ∈ TB) (hlen : As.length = n) (hst : stk = As.reverse ++ rest) (hcat : (rest.map fun v => v.category).sum ≤ 8) (hdg : decode cc pc = .ok (.invokestatic idx, 3)) (hR : rm.frames + 1 ≤ R.frames ∧ 8 + (maxL + 11) + rm.locals ≤ R.locals) (h0 : rm.cells = 0 ∧ rm.slots = 0) (h : bdI F K = some z) (kk : ∀ (v : Int) (t1 : St), K v t1 = some z → gP p l e R s m args below meth c E A mL Q w (pc + 3) lv (iv v :: rest) t1) : gP p l e R s m args below meth c E A mL Q w pc lv stk t := by
  intro H locs ls hP hD hS hl
  obtain ⟨hx, hb, hr, hml, hown, hts, hlk, hin⟩ := X.1
  unfold bdI at h
  cases hF : F with
  | none => rw [hF] at h; cases h
  | some u =>
    rw [hF] at h
    refine cI_go (wr := []) (cM_runS X.1 (hM u hF) hY hsta hlink hP hD hS X.2.2.1 X.2.2.2 X.2.1 (List.range (w t).length) (va_nd_range _) (rng_all _) hlen hl.1 hst hcat hdg hR ⟨by rw [h0.1]; exact Nat.zero_le _, by rw [h0.2]; exact Nat.zero_le _⟩) hP hD hS X.2.1 (List.range (w t).length) [] (rng_all _) rfl rfl (fun i h9 => absurd h9 List.not_mem_nil) (fun r9 u9 H1 locs1 hw hP1 hD1 hS1 => ?_)
    rw [h0.1, h0.2, hw]
    exact kk u.1 u.2 h H1 locs1 ls hP1 hD1 hS1 hl
theorem g_callL (X : gX p s m meth c cc mL ret y0 args E A) {Z : Type} {z : Z} {F : Option (Int64 × St)} {K : Int64 → St → Option Z} (hM : ∀ u : Int64 × St, F = some u → cM l E y bytes maxL ret1 rm (.ref b :: As) (w t) (gqL E w u)) (hY : cY y bytes maxL ret1 n) (hI : cYi y) (hlink : Cond.methodLink y0.cls idx y ∈ TB) (rq ci : Nat) {rfs : List Value} {T : u_T} {N : Nat} (hrq : (w t)[rq]? = some (b, .inr (ci, rfs))) (hci : vwCl[ci]? = some (y.cls, T, N)) (hlen : As.length = n) (hst : stk = As.reverse ++ .ref b :: rest) (hcat : (rest.map fun v => v.category).sum ≤ 8) (hdg : decode cc pc = .ok (.invokevirtual idx, 3)) (hR : rm.frames + 1 ≤ R.frames ∧ 8 + (maxL + 11) + rm.locals ≤ R.locals) (h0 : rm.cells = 0 ∧ rm.slots = 0) (h : bdL F K = some z) (kk : ∀ (v : Int64) (t1 : St), K v t1 = some z → gP p l e R s m args below meth c E A mL Q w (pc + 3) lv (.long v :: rest) t1) : gP p l e R s m args below meth c E A mL Q w pc lv stk t := by
  intro H locs ls hP hD hS hl
  obtain ⟨hx, hb, hr, hml, hown, hts, hlk, hin⟩ := X.1
  unfold bdL at h
  cases hF : F with
  | none => rw [hF] at h; cases h
  | some u =>
    rw [hF] at h
    refine cL_go (wr := []) (cM_runV X.1 (hM u hF) hY hI hlink hP hD hS X.2.2.1 X.2.2.2 X.2.1 (List.range (w t).length) (va_nd_range _) (rng_all _) rq ci hrq hci hlen hl.1 hst hcat hdg hR ⟨by rw [h0.1]; exact Nat.zero_le _, by rw [h0.2]; exact Nat.zero_le _⟩) hP hD hS X.2.1 (List.range (w t).length) [] (rng_all _) rfl rfl (fun i h9 => absurd h9 List.not_mem_nil) (fun r9 u9 H1 locs1 hw hP1 hD1 hS1 => ?_)
    rw [h0.1, h0.2, hw]
    exact kk u.1 u.2 h H1 locs1 ls hP1 hD1 hS1 hl
theorem g_callsL (X : gX p s m meth c cc mL ret y0 args E A) {Z : Type} {z : Z} {F : Option (Int64 × St)} {K : Int64 → St → Option Z} (hM : ∀ u : Int64 × St, F = some u → cM l E y bytes maxL ret1 rm (As) (w t) (gqL E w u)) (hY : cY y bytes maxL ret1 n) (hsta : Cond.static y ∈ TB) (hlink : Cond.methodLink y0.cls idx y ∈ TB) (hlen : As.length = n) (hst : stk = As.reverse ++ rest) (hcat : (rest.map fun v => v.category).sum ≤ 8) (hdg : decode cc pc = .ok (.invokestatic idx, 3)) (hR : rm.frames + 1 ≤ R.frames ∧ 8 + (maxL + 11) + rm.locals ≤ R.locals) (h0 : rm.cells = 0 ∧ rm.slots = 0) (h : bdL F K = some z) (kk : ∀ (v : Int64) (t1 : St), K v t1 = some z → gP p l e R s m args below meth c E A mL Q w (pc + 3) lv (.long v :: rest) t1) : gP p l e R s m args below meth c E A mL Q w pc lv stk t := by
  intro H locs ls hP hD hS hl
  obtain ⟨hx, hb, hr, hml, hown, hts, hlk, hin⟩ := X.1
  unfold bdL at h
  cases hF : F with
  | none => rw [hF] at h; cases h
  | some u =>
    rw [hF] at h
    refine cL_go (wr := []) (cM_runS X.1 (hM u hF) hY hsta hlink hP hD hS X.2.2.1 X.2.2.2 X.2.1 (List.range (w t).length) (va_nd_range _) (rng_all _) hlen hl.1 hst hcat hdg hR ⟨by rw [h0.1]; exact Nat.zero_le _, by rw [h0.2]; exact Nat.zero_le _⟩) hP hD hS X.2.1 (List.range (w t).length) [] (rng_all _) rfl rfl (fun i h9 => absurd h9 List.not_mem_nil) (fun r9 u9 H1 locs1 hw hP1 hD1 hS1 => ?_)
    rw [h0.1, h0.2, hw]
    exact kk u.1 u.2 h H1 locs1 ls hP1 hD1 hS1 hl
theorem gO_rq {E : cE} {id ci : Nat} (h : gO tab id ci) : ∃ (rq : Nat) (rfs : List Value), (gW E r tab t)[rq]? = some (r id, .inr (ci, rfs)) := by
  obtain ⟨j, fs, hj⟩ := h
  exact ⟨j, gfs r t id fs, gW_at hj⟩
/-- the head of a method: from its contract to its body -/
theorem g_of {rm : Room} {av : List Value} {Qf : (Nat → Prop) → Array Value → State → Outcome → State → Prop} {w : St → va_W} {t : St} (hy : plainName y.cls = true) (hfit : (lg_sl av).length ≤ maxL)
    (body : ∀ (p : Program) (e : Env) (s : State) (m : MethodId) (below : List Frame) (meth : Method) (c : Code) (A : Nat → Prop), gX p s m meth c bytes maxL ret1 y av.toArray E A → gP p l e rm s m av.toArray below meth c E A maxL (MQ below (Qf A) av.toArray s rm.cells rm.slots A) w 0 (lv_args 0 av) [] t) : cM l E y bytes maxL ret1 rm av (w t) Qf :=
  cM_of hy hfit (fun p e s m below meth c ls A F hA hS hP hD hK hZ hl => body p e s m below meth c A ⟨F, hA, hK, hZ⟩ s.heap [] ls hP hD hS hl)
end DK
