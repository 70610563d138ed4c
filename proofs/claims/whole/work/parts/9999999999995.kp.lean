/-! rows for bodies that make cells: worlds as lists, up to order -/
theorem va_nd_of : ∀ {l : List Nat}, l.Nodup → va_nd l = true := by
  intro l
  induction l with
  | nil => intro _; rfl
  | cons a l ih =>
    intro h
    rw [List.nodup_cons] at h
    show (decide (a ∉ l) && va_nd l) = true
    rw [ih h.2, decide_eq_true h.1]
    rfl
theorem rng_1 {a b : va_W} : (List.range a.length).map (fun i => (a ++ b)[i]?) = a.map some := by
  apply List.ext_getElem?
  intro i
  rw [List.getElem?_map, List.getElem?_map]
  by_cases h : i < a.length
  · rw [List.getElem?_range h, List.getElem?_eq_getElem h]
    show some ((a ++ b)[i]?) = some (some a[i])
    rw [List.getElem?_append_left h, List.getElem?_eq_getElem h]
  · rw [List.getElem?_eq_none (by rw [List.length_range]; omega), List.getElem?_eq_none (by omega)]
    rfl
theorem rng_2 {a b : va_W} : (List.range' a.length b.length).map (fun i => (a ++ b)[i]?) = b.map some := by
  apply List.ext_getElem?
  intro i
  rw [List.getElem?_map, List.getElem?_map]
  by_cases h : i < b.length
  · rw [List.getElem?_range' h, List.getElem?_eq_getElem h]
    show some ((a ++ b)[a.length + 1 * i]?) = some (some b[i])
    rw [List.getElem?_append_right (by omega), show a.length + 1 * i - a.length = i by omega, List.getElem?_eq_getElem h]
  · rw [List.getElem?_eq_none (by rw [List.length_range']; omega), List.getElem?_eq_none (by omega)]
    rfl
theorem va_P.perm {D : va_G} {cl : List vw_C} {w w' : va_W} {H : Heap} (h : w.Perm w') (hP : va_P D cl w H) : va_P D cl w' H := fun k q hk => by
  have h1 : q ∈ w := h.mem_iff.mpr (List.mem_of_getElem? hk)
  obtain ⟨i, hi⟩ := List.getElem?_of_mem h1
  exact hP i q hi
theorem va_D_nd {A : Nat → Prop} {w : va_W} : va_D A w ↔ (w.map (fun q => q.1)).Nodup ∧ ∀ q ∈ w, A q.1 := by
  constructor
  · rintro ⟨h1, h2⟩
    refine ⟨?_, fun q hq => ?_⟩
    · unfold List.Nodup
      rw [List.pairwise_iff_getElem]
      intro i j hi hj hij he
      rw [List.getElem_map, List.getElem_map] at he
      rw [List.length_map] at hi hj
      have := h1 i j _ _ (List.getElem?_eq_getElem hi) (List.getElem?_eq_getElem hj) he
      omega
    · obtain ⟨i, hi⟩ := List.getElem?_of_mem hq
      exact h2 i q hi
  · rintro ⟨h1, h2⟩
    refine ⟨fun i j p q hi hj he => ?_, fun k q hk => h2 q (List.mem_of_getElem? hk)⟩
    unfold List.Nodup at h1
    rw [List.pairwise_iff_getElem] at h1
    obtain ⟨hi1, hi2⟩ := List.getElem?_eq_some_iff.mp hi
    obtain ⟨hj1, hj2⟩ := List.getElem?_eq_some_iff.mp hj
    by_cases hij : i < j
    · have := h1 i j (by rw [List.length_map]; exact hi1) (by rw [List.length_map]; exact hj1) hij
      rw [List.getElem_map, List.getElem_map, hi2, hj2] at this
      exact absurd he this
    · by_cases hji : j < i
      · have := h1 j i (by rw [List.length_map]; exact hj1) (by rw [List.length_map]; exact hi1) hji
        rw [List.getElem_map, List.getElem_map, hi2, hj2] at this
        exact absurd he.symm this
      · omega
theorem va_D.perm {A : Nat → Prop} {w w' : va_W} (h : w.Perm w') (hD : va_D A w) : va_D A w' := by
  rw [va_D_nd] at hD ⊢
  exact ⟨(h.map _).nodup_iff.mp hD.1, fun q hq => hD.2 q (h.mem_iff.mpr hq)⟩
section KP
variable {p : Program} {l : Launch} {e : Env} {R : Room} {s : State} {m : MethodId} {args : Array Value} {below : List Frame} {meth : Method} {c : Code} {Q : State → Prop}
variable {E : cE} {A : Nat → Prop} {cc : ByteArray} {mL : Nat} {ret : Option FieldType} {y0 : MethodName}
variable {ws : va_W} {ce sl pc : Nat} {lv : List (Nat × Value)} {rest : List Value} {t : St} {r : Nat → Nat} {tab : List gS} {W0 : va_W}
/-- from here on all is well, with so many cells and slots made so far -/
def kP (ce sl : Nat) (p : Program) (l : Launch) (e : Env) (R : Room) (s : State) (m : MethodId) (args : Array Value) (below : List Frame) (meth : Method) (c : Code) (E : cE) (A : Nat → Prop) (mL : Nat) (Q : State → Prop) (ws : va_W) (pc : Nat) (lv : List (Nat × Value)) (stk : List Value) : Prop :=
  ∀ (H : Heap) (locs : List Loc) (ls : Array Slot), va_P E.1 vwCl ws H → va_D A ws → va_S A s.heap H locs → lv_has ls mL lv → W p l e R s m args below meth c H locs ce sl Q (F0 m pc ls stk)
theorem k_perm {w' : va_W} {stk : List Value} (h : ws.Perm w') (kk : kP ce sl p l e R s m args below meth c E A mL Q w' pc lv stk) : kP ce sl p l e R s m args below meth c E A mL Q ws pc lv stk := fun H locs ls hP hD hS hl => kk H locs ls (hP.perm h) (hD.perm h) hS hl
theorem k_sub {stk : List Value} (is : List Nat) {lv' : List (Nat × Value)} (hs : lv_pick lv is = lv') (k : kP ce sl p l e R s m args below meth c E A mL Q ws pc lv' stk) : kP ce sl p l e R s m args below meth c E A mL Q ws pc lv stk := fun H locs ls hP hD hS hl => k H locs ls hP hD hS (lv_sub hl is hs)
theorem k_iload_n (X : gX p s m meth c cc mL ret y0 args E A) {k : Fin 4} {x : Int32} (hdg : decode cc pc = .ok (.iload_n k, 1)) (j : Nat) (hj : lv[j]? = some (k.val, .int x)) (kk : kP ce sl p l e R s m args below meth c E A mL Q ws (pc + 1) lv (.int x :: rest)) : kP ce sl p l e R s m args below meth c E A mL Q ws pc lv rest := by
  intro H locs ls hP hD hS hl
  obtain ⟨hx, hb, hr, hml, hown, hts, hlk, hin⟩ := X.1
  exact lv_iload_n hx hb hdg rfl (lv_at hl j hj) (kk H locs ls hP hD hS hl)
theorem k_iload (X : gX p s m meth c cc mL ret y0 args E A) {k : Nat} {x : Int32} (hdg : decode cc pc = .ok (.iload k, 2)) (j : Nat) (hj : lv[j]? = some (k, .int x)) (kk : kP ce sl p l e R s m args below meth c E A mL Q ws (pc + 2) lv (.int x :: rest)) : kP ce sl p l e R s m args below meth c E A mL Q ws pc lv rest := by
  intro H locs ls hP hD hS hl
  obtain ⟨hx, hb, hr, hml, hown, hts, hlk, hin⟩ := X.1
  exact lv_iload hx hb hdg (lv_at hl j hj) (kk H locs ls hP hD hS hl)
theorem k_istore_n (X : gX p s m meth c cc mL ret y0 args E A) {k : Fin 4} {i : Nat} {x : Int32} {lv' : List (Nat × Value)} (hdg : decode cc pc = .ok (.istore_n k, 1)) (hi : k.val = i) (hn : i < mL) (hl2 : (i, .int x) :: lv.filter (fun q => !(q.1 == i) && !(q.1 + 1 == i && q.2.category == 2)) = lv') (kk : kP ce sl p l e R s m args below meth c E A mL Q ws (pc + 1) lv' rest) : kP ce sl p l e R s m args below meth c E A mL Q ws pc lv (.int x :: rest) := by
  intro H locs ls hP hD hS hl
  obtain ⟨hx, hb, hr, hml, hown, hts, hlk, hin⟩ := X.1
  exact lv_istore_n hx hb hdg hi hl hn hl2 (fun ls1 hl1 => kk H locs ls1 hP hD hS hl1)
theorem k_aload_n (X : gX p s m meth c cc mL ret y0 args E A) {k : Fin 4} {x : Nat} (hdg : decode cc pc = .ok (.aload_n k, 1)) (j : Nat) (hj : lv[j]? = some (k.val, .ref x)) (kk : kP ce sl p l e R s m args below meth c E A mL Q ws (pc + 1) lv (.ref x :: rest)) : kP ce sl p l e R s m args below meth c E A mL Q ws pc lv rest := by
  intro H locs ls hP hD hS hl
  obtain ⟨hx, hb, hr, hml, hown, hts, hlk, hin⟩ := X.1
  exact lv_aload_n hx hb hdg rfl (lv_at hl j hj) (kk H locs ls hP hD hS hl)
theorem k_aload (X : gX p s m meth c cc mL ret y0 args E A) {k : Nat} {x : Nat} (hdg : decode cc pc = .ok (.aload k, 2)) (j : Nat) (hj : lv[j]? = some (k, .ref x)) (kk : kP ce sl p l e R s m args below meth c E A mL Q ws (pc + 2) lv (.ref x :: rest)) : kP ce sl p l e R s m args below meth c E A mL Q ws pc lv rest := by
  intro H locs ls hP hD hS hl
  obtain ⟨hx, hb, hr, hml, hown, hts, hlk, hin⟩ := X.1
  exact lv_aload hx hb hdg (lv_at hl j hj) (kk H locs ls hP hD hS hl)
theorem k_astore_n (X : gX p s m meth c cc mL ret y0 args E A) {k : Fin 4} {i : Nat} {x : Nat} {lv' : List (Nat × Value)} (hdg : decode cc pc = .ok (.astore_n k, 1)) (hi : k.val = i) (hn : i < mL) (hl2 : (i, .ref x) :: lv.filter (fun q => !(q.1 == i) && !(q.1 + 1 == i && q.2.category == 2)) = lv') (kk : kP ce sl p l e R s m args below meth c E A mL Q ws (pc + 1) lv' rest) : kP ce sl p l e R s m args below meth c E A mL Q ws pc lv (.ref x :: rest) := by
  intro H locs ls hP hD hS hl
  obtain ⟨hx, hb, hr, hml, hown, hts, hlk, hin⟩ := X.1
  exact lv_astore_n hx hb hdg hi hl hn hl2 (fun ls1 hl1 => kk H locs ls1 hP hD hS hl1)
theorem k_astore (X : gX p s m meth c cc mL ret y0 args E A) {i : Nat} {x : Nat} {lv' : List (Nat × Value)} (hdg : decode cc pc = .ok (.astore i, 2)) (hn : i < mL) (hl2 : (i, .ref x) :: lv.filter (fun q => !(q.1 == i) && !(q.1 + 1 == i && q.2.category == 2)) = lv') (kk : kP ce sl p l e R s m args below meth c E A mL Q ws (pc + 2) lv' rest) : kP ce sl p l e R s m args below meth c E A mL Q ws pc lv (.ref x :: rest) := by
  intro H locs ls hP hD hS hl
  obtain ⟨hx, hb, hr, hml, hown, hts, hlk, hin⟩ := X.1
  exact lv_astore hx hb hdg hl hn hl2 (fun ls1 hl1 => kk H locs ls1 hP hD hS hl1)
theorem k_iconst (X : gX p s m meth c cc mL ret y0 args E A) {n : Int} (hdg : decode cc pc = .ok (.iconst n, 1)) (kk : kP ce sl p l e R s m args below meth c E A mL Q ws (pc + 1) lv (iv n :: rest)) : kP ce sl p l e R s m args below meth c E A mL Q ws pc lv rest := by
  intro H locs ls hP hD hS hl
  obtain ⟨hx, hb, hr, hml, hown, hts, hlk, hin⟩ := X.1
  exact lv_iconst hx hb hdg rfl (kk H locs ls hP hD hS hl)
theorem k_goto (X : gX p s m meth c cc mL ret y0 args E A) {off : Int} {tgt : Nat} (hdg : decode cc pc = .ok (.goto off, 3)) (ht : (pc : Int) + off = (tgt : Int)) (kk : kP ce sl p l e R s m args below meth c E A mL Q ws tgt lv rest) : kP ce sl p l e R s m args below meth c E A mL Q ws pc lv rest := by
  intro H locs ls hP hD hS hl
  obtain ⟨hx, hb, hr, hml, hown, hts, hlk, hin⟩ := X.1
  exact lv_goto hx hb hdg ht (kk H locs ls hP hD hS hl)
theorem gW_ap {q : gS} {j : Nat} (h : tab[j]? = some q) : (gW E r tab t ++ W0)[j]? = some (gc E r t q) := by
  have h1 := gW_at (E := E) (r := r) (t := t) h
  rw [List.getElem?_append_left (List.getElem?_eq_some_iff.mp h1).1]
  exact h1
theorem k_getI (X : gX p s m meth c cc mL ret y0 args E A) {id f tg idx : Nat} {own : String} (hF : gF tab id f 0 tg own idx) (ho : y0.cls = own) (hdg : decode cc pc = .ok (.getfield idx, 3)) (kk : kP ce sl p l e R s m args below meth c E A mL Q (gW E r tab t ++ W0) (pc + 3) lv (iv (t.1 id f) :: rest)) : kP ce sl p l e R s m args below meth c E A mL Q (gW E r tab t ++ W0) pc lv (.ref (r id) :: rest) := by
  intro H locs ls hP hD hS hl
  obtain ⟨hx, hb, hr, hml, hown, hts, hlk, hin⟩ := X.1
  obtain ⟨j, ci, N, fs, C, ref, T, hj, hf, hci, hfn, hws, hlink, href⟩ := hF
  subst ho
  subst href
  exact va_get (D := E.1) (v := iv (t.1 id f)) hx hb hts hws hown X.2.2.1 hP j (gW_ap hj) hci f hfn (hts _ hlink) (fun _ h9 => h9) ((gfs_at hf).trans (congrArg some rfl)) hdg (kk H locs ls hP hD hS hl)
theorem k_getR (X : gX p s m meth c cc mL ret y0 args E A) {id f tg idx : Nat} {own : String} (hF : gF tab id f 1 tg own idx) (ho : y0.cls = own) (hdg : decode cc pc = .ok (.getfield idx, 3)) (kk : kP ce sl p l e R s m args below meth c E A mL Q (gW E r tab t ++ W0) (pc + 3) lv (.ref (r tg) :: rest)) : kP ce sl p l e R s m args below meth c E A mL Q (gW E r tab t ++ W0) pc lv (.ref (r id) :: rest) := by
  intro H locs ls hP hD hS hl
  obtain ⟨hx, hb, hr, hml, hown, hts, hlk, hin⟩ := X.1
  obtain ⟨j, ci, N, fs, C, ref, T, hj, hf, hci, hfn, hws, hlink, href⟩ := hF
  subst ho
  subst href
  exact va_get (D := E.1) (v := .ref (r tg)) hx hb hts hws hown X.2.2.1 hP j (gW_ap hj) hci f hfn (hts _ hlink) (fun _ h9 => h9) ((gfs_at hf).trans (congrArg some rfl)) hdg (kk H locs ls hP hD hS hl)
theorem k_putI (X : gX p s m meth c cc mL ret y0 args E A) {id f tg idx : Nat} {own : String} {a : Int} (hF : gFw tab id f 0 tg own idx .int) (ho : y0.cls = own) (hdg : decode cc pc = .ok (.putfield idx, 3)) (kk : kP ce sl p l e R s m args below meth c E A mL Q (gW E r tab (pI t id f a) ++ W0) (pc + 3) lv rest) : kP ce sl p l e R s m args below meth c E A mL Q (gW E r tab t ++ W0) pc lv (iv a :: .ref (r id) :: rest) := by
  intro H locs ls hP hD hS hl
  obtain ⟨hx, hb, hr, hml, hown, hts, hlk, hin⟩ := X.1
  obtain ⟨j, ci, N, fs, C, ref, T, ty0, hj, hf, hci, hfn, hws, hlink, href, hty, hnm, hfin, hpf, hU⟩ := hF
  subst ho
  subst href
  refine va_put (D := E.1) (v := iv a) (ty := .int) hx hb hts hws ty0 hty hnm hown X.2.2.1 hP hD hS j (gW_ap hj) hci f hfn (hts _ hlink) (fun _ h9 => h9) hfin hpf rfl rfl (by rw [gfs_len]; exact (List.getElem?_eq_some_iff.mp hf).1) hdg (fun H1 locs1 hP1 hD1 hS1 => ?_)
  have e1 : (gW E r tab t ++ W0).set j (r id, ob ci ((gfs r t id fs).set f (iv a))) = gW E r tab (pI t id f a) ++ W0 := by
    rw [List.set_append_left _ _ (by unfold gW; rw [List.length_map]; exact (List.getElem?_eq_some_iff.mp hj).1), gfs_setI hf]
    congr 1
    exact gW_set (q := (id, 9, ci, fs)) (t1 := pI t id f a) hU hj (fun id2 h9 => ⟨pI_ne h9, rfl⟩)
  have hP2 : va_P E.1 vwCl ((gW E r tab t ++ W0).set j (r id, ob ci ((gfs r t id fs).set f (iv a)))) H1 := hP1
  have hD2 : va_D A ((gW E r tab t ++ W0).set j (r id, ob ci ((gfs r t id fs).set f (iv a)))) := hD1
  rw [e1] at hP2 hD2
  exact kk H1 locs1 ls hP2 hD2 hS1 hl
theorem k_putZ (X : gX p s m meth c cc mL ret y0 args E A) {id f tg idx : Nat} {own : String} {a : Int} (h01 : a = 0 ∨ a = 1) (hF : gFw tab id f 0 tg own idx .boolean) (ho : y0.cls = own) (hdg : decode cc pc = .ok (.putfield idx, 3)) (kk : kP ce sl p l e R s m args below meth c E A mL Q (gW E r tab (pI t id f a) ++ W0) (pc + 3) lv rest) : kP ce sl p l e R s m args below meth c E A mL Q (gW E r tab t ++ W0) pc lv (iv a :: .ref (r id) :: rest) := by
  intro H locs ls hP hD hS hl
  obtain ⟨hx, hb, hr, hml, hown, hts, hlk, hin⟩ := X.1
  obtain ⟨j, ci, N, fs, C, ref, T, ty0, hj, hf, hci, hfn, hws, hlink, href, hty, hnm, hfin, hpf, hU⟩ := hF
  subst ho
  subst href
  refine va_put (D := E.1) (v := iv a) (ty := .boolean) hx hb hts hws ty0 hty hnm hown X.2.2.1 hP hD hS j (gW_ap hj) hci f hfn (hts _ hlink) (fun _ h9 => h9) hfin hpf (by rcases h01 with rfl | rfl <;> decide) (by rcases h01 with rfl | rfl <;> decide) (by rw [gfs_len]; exact (List.getElem?_eq_some_iff.mp hf).1) hdg (fun H1 locs1 hP1 hD1 hS1 => ?_)
  have e1 : (gW E r tab t ++ W0).set j (r id, ob ci ((gfs r t id fs).set f (iv a))) = gW E r tab (pI t id f a) ++ W0 := by
    rw [List.set_append_left _ _ (by unfold gW; rw [List.length_map]; exact (List.getElem?_eq_some_iff.mp hj).1), gfs_setI hf]
    congr 1
    exact gW_set (q := (id, 9, ci, fs)) (t1 := pI t id f a) hU hj (fun id2 h9 => ⟨pI_ne h9, rfl⟩)
  have hP2 : va_P E.1 vwCl ((gW E r tab t ++ W0).set j (r id, ob ci ((gfs r t id fs).set f (iv a)))) H1 := hP1
  have hD2 : va_D A ((gW E r tab t ++ W0).set j (r id, ob ci ((gfs r t id fs).set f (iv a)))) := hD1
  rw [e1] at hP2 hD2
  exact kk H1 locs1 ls hP2 hD2 hS1 hl
/-- a branch on a number -/
theorem k_if_eq (X : gX p s m meth c cc mL ret y0 args E A) {a : Int} {off : Int} {tgt : Nat} (ha : inR a) (hdg : decode cc pc = .ok (.ifCond .eq off, 3)) (ht : (pc : Int) + off = (tgt : Int)) (kt : a = 0 → kP ce sl p l e R s m args below meth c E A mL Q ws tgt lv rest) (kf : a ≠ 0 → kP ce sl p l e R s m args below meth c E A mL Q ws (pc + 3) lv rest) : kP ce sl p l e R s m args below meth c E A mL Q ws pc lv (iv a :: rest) := by
  intro H locs ls hP hD hS hl
  obtain ⟨hx, hb, hr, hml, hown, hts, hlk, hin⟩ := X.1
  refine lv_if_eq hx hb hdg ht (fun q => ?_) (fun q => ?_)
  · exact kt ((z_eq ha (by omega)).mp q) H locs ls hP hD hS hl
  · exact kf (fun k => q ((z_eq ha (by omega)).mpr k)) H locs ls hP hD hS hl
theorem k_if_ne (X : gX p s m meth c cc mL ret y0 args E A) {a : Int} {off : Int} {tgt : Nat} (ha : inR a) (hdg : decode cc pc = .ok (.ifCond .ne off, 3)) (ht : (pc : Int) + off = (tgt : Int)) (kt : a ≠ 0 → kP ce sl p l e R s m args below meth c E A mL Q ws tgt lv rest) (kf : a = 0 → kP ce sl p l e R s m args below meth c E A mL Q ws (pc + 3) lv rest) : kP ce sl p l e R s m args below meth c E A mL Q ws pc lv (iv a :: rest) := by
  intro H locs ls hP hD hS hl
  obtain ⟨hx, hb, hr, hml, hown, hts, hlk, hin⟩ := X.1
  refine lv_if_ne hx hb hdg ht (fun q => ?_) (fun q => ?_)
  · exact kt (fun k => q ((z_eq ha (by omega)).mpr k)) H locs ls hP hD hS hl
  · exact kf ((z_eq ha (by omega)).mp q) H locs ls hP hD hS hl
theorem k_icmp_ne (X : gX p s m meth c cc mL ret y0 args E A) {a b : Int} {off : Int} {tgt : Nat} (ha : inR a) (hb2 : inR b) (hdg : decode cc pc = .ok (.if_icmp .ne off, 3)) (ht : (pc : Int) + off = (tgt : Int)) (kt : a ≠ b → kP ce sl p l e R s m args below meth c E A mL Q ws tgt lv rest) (kf : a = b → kP ce sl p l e R s m args below meth c E A mL Q ws (pc + 3) lv rest) : kP ce sl p l e R s m args below meth c E A mL Q ws pc lv (iv b :: iv a :: rest) := by
  intro H locs ls hP hD hS hl
  obtain ⟨hx, hb, hr, hml, hown, hts, hlk, hin⟩ := X.1
  refine lv_icmp_ne hx hb hdg ht (fun q => ?_) (fun q => ?_)
  · exact kt (fun k => q ((z_eq ha hb2).mpr k)) H locs ls hP hD hS hl
  · exact kf ((z_eq ha hb2).mp q) H locs ls hP hD hS hl
section calls
variable {y : MethodName} {bytes : ByteArray} {maxL : Nat} {ret1 : Option FieldType} {rm : Room} {idx n : Nat} {As st0 : List Value} {b : Nat} {wc wr : va_W}
/-- a call that needs a part of the world -/
theorem k_callV (X : gX p s m meth c cc mL ret y0 args E A) {S : Type} {post : S → Prop} {w' : S → va_W} (hM : cM l E y bytes maxL ret1 rm (.ref b :: As) wc (qV E post w')) (hY : cY y bytes maxL ret1 n) (hI : cYi y) (hlink : Cond.methodLink y0.cls idx y ∈ TB) (rq ci : Nat) {rfs : List Value} {T : u_T} {N : Nat} (hrq : (wc ++ wr)[rq]? = some (b, .inr (ci, rfs))) (hci : vwCl[ci]? = some (y.cls, T, N)) (hlen : As.length = n) (hst : st0 = As.reverse ++ .ref b :: rest) (hcat : (rest.map fun v => v.category).sum ≤ 8) (hdg : decode cc pc = .ok (.invokevirtual idx, 3)) (hR : rm.frames + 1 ≤ R.frames ∧ 8 + (maxL + 11) + rm.locals ≤ R.locals) (hf : ce + rm.cells ≤ R.cells ∧ sl + rm.slots ≤ R.slots)
    (kk : ∀ u : S, post u → kP (ce + rm.cells) (sl + rm.slots) p l e R s m args below meth c E A mL Q (w' u ++ wr) (pc + 3) lv rest) : kP ce sl p l e R s m args below meth c E A mL Q (wc ++ wr) pc lv st0 := by
  intro H locs ls hP hD hS hl
  have hdis : ∀ i ∈ List.range' wc.length wr.length, i ∉ List.range wc.length := fun i hi h2 => by
    rw [List.mem_range'_1] at hi
    rw [List.mem_range] at h2
    omega
  refine cV_go (cM_runV X.1 hM hY hI hlink hP hD hS X.2.2.1 X.2.2.2 X.2.1 (List.range wc.length) (va_nd_of List.nodup_range) rng_1 rq ci hrq hci hlen hl.1 hst hcat hdg hR hf) hP hD hS X.2.1 (List.range wc.length) (List.range' wc.length wr.length) rng_1 rng_2 (va_nd_of List.nodup_range') hdis (fun u H1 locs1 hu h1 h2 hS1 => ?_)
  exact kk u hu H1 locs1 ls (h1.perm List.perm_append_comm) (h2.perm List.perm_append_comm) hS1 hl
theorem k_callI (X : gX p s m meth c cc mL ret y0 args E A) {S : Type} {post : Int32 → S → Prop} {w' : S → va_W} (hM : cM l E y bytes maxL ret1 rm (.ref b :: As) wc (qI E post w')) (hY : cY y bytes maxL ret1 n) (hI : cYi y) (hlink : Cond.methodLink y0.cls idx y ∈ TB) (rq ci : Nat) {rfs : List Value} {T : u_T} {N : Nat} (hrq : (wc ++ wr)[rq]? = some (b, .inr (ci, rfs))) (hci : vwCl[ci]? = some (y.cls, T, N)) (hlen : As.length = n) (hst : st0 = As.reverse ++ .ref b :: rest) (hcat : (rest.map fun v => v.category).sum ≤ 8) (hdg : decode cc pc = .ok (.invokevirtual idx, 3)) (hR : rm.frames + 1 ≤ R.frames ∧ 8 + (maxL + 11) + rm.locals ≤ R.locals) (hf : ce + rm.cells ≤ R.cells ∧ sl + rm.slots ≤ R.slots)
    (kk : ∀ (v : Int32) (u : S), post v u → kP (ce + rm.cells) (sl + rm.slots) p l e R s m args below meth c E A mL Q (w' u ++ wr) (pc + 3) lv (.int v :: rest)) : kP ce sl p l e R s m args below meth c E A mL Q (wc ++ wr) pc lv st0 := by
  intro H locs ls hP hD hS hl
  have hdis : ∀ i ∈ List.range' wc.length wr.length, i ∉ List.range wc.length := fun i hi h2 => by
    rw [List.mem_range'_1] at hi
    rw [List.mem_range] at h2
    omega
  refine cI_go (cM_runV X.1 hM hY hI hlink hP hD hS X.2.2.1 X.2.2.2 X.2.1 (List.range wc.length) (va_nd_of List.nodup_range) rng_1 rq ci hrq hci hlen hl.1 hst hcat hdg hR hf) hP hD hS X.2.1 (List.range wc.length) (List.range' wc.length wr.length) rng_1 rng_2 (va_nd_of List.nodup_range') hdis (fun v u H1 locs1 hu h1 h2 hS1 => ?_)
  exact kk v u hu H1 locs1 ls (h1.perm List.perm_append_comm) (h2.perm List.perm_append_comm) hS1 hl
theorem k_callL (X : gX p s m meth c cc mL ret y0 args E A) {S : Type} {post : Int64 → S → Prop} {w' : S → va_W} (hM : cM l E y bytes maxL ret1 rm (.ref b :: As) wc (qL E post w')) (hY : cY y bytes maxL ret1 n) (hI : cYi y) (hlink : Cond.methodLink y0.cls idx y ∈ TB) (rq ci : Nat) {rfs : List Value} {T : u_T} {N : Nat} (hrq : (wc ++ wr)[rq]? = some (b, .inr (ci, rfs))) (hci : vwCl[ci]? = some (y.cls, T, N)) (hlen : As.length = n) (hst : st0 = As.reverse ++ .ref b :: rest) (hcat : (rest.map fun v => v.category).sum ≤ 8) (hdg : decode cc pc = .ok (.invokevirtual idx, 3)) (hR : rm.frames + 1 ≤ R.frames ∧ 8 + (maxL + 11) + rm.locals ≤ R.locals) (hf : ce + rm.cells ≤ R.cells ∧ sl + rm.slots ≤ R.slots)
    (kk : ∀ (v : Int64) (u : S), post v u → kP (ce + rm.cells) (sl + rm.slots) p l e R s m args below meth c E A mL Q (w' u ++ wr) (pc + 3) lv (.long v :: rest)) : kP ce sl p l e R s m args below meth c E A mL Q (wc ++ wr) pc lv st0 := by
  intro H locs ls hP hD hS hl
  have hdis : ∀ i ∈ List.range' wc.length wr.length, i ∉ List.range wc.length := fun i hi h2 => by
    rw [List.mem_range'_1] at hi
    rw [List.mem_range] at h2
    omega
  refine cL_go (cM_runV X.1 hM hY hI hlink hP hD hS X.2.2.1 X.2.2.2 X.2.1 (List.range wc.length) (va_nd_of List.nodup_range) rng_1 rq ci hrq hci hlen hl.1 hst hcat hdg hR hf) hP hD hS X.2.1 (List.range wc.length) (List.range' wc.length wr.length) rng_1 rng_2 (va_nd_of List.nodup_range') hdis (fun v u H1 locs1 hu h1 h2 hS1 => ?_)
  exact kk v u hu H1 locs1 ls (h1.perm List.perm_append_comm) (h2.perm List.perm_append_comm) hS1 hl
end calls
/-- the ends -/
theorem k_vret (X : gX p s m meth c cc mL none y0 args E A) {S : Type} {post : S → Prop} {w' : S → va_W} {mc ms : Nat} (u : S) (hu : post u) (hw : ws.Perm (w' u)) (hdg : decode cc pc = .ok (.return_, 1)) (h1 : ce ≤ mc) (h2 : sl ≤ ms) : kP ce sl p l e R s m args below meth c E A mL (MQ below (qV E post w' A) args s mc ms A) ws pc lv [] := by
  intro H locs ls hP hD hS hl
  obtain ⟨hx, hb, hr, hml, hown, hts, hlk, hin⟩ := X.1
  refine W.widen h1 h2 ?_
  exact W.vret hx hb hr (fun t9 ht hW => ⟨⟨u, rfl, hu, by rw [ht]; exact hP.perm hw, va_K.moved hW.alike X.2.2.1, hD.perm hw⟩, hS.F ht⟩) hS.2.2 hdg
theorem k_iret (X : gX p s m meth c cc mL (some .int) y0 args E A) {S : Type} {post : Int32 → S → Prop} {w' : S → va_W} {mc ms : Nat} {v : Int32} (u : S) (hu : post v u) (hw : ws.Perm (w' u)) (hdg : decode cc pc = .ok (.ireturn, 1)) (h1 : ce ≤ mc) (h2 : sl ≤ ms) : kP ce sl p l e R s m args below meth c E A mL (MQ below (qI E post w' A) args s mc ms A) ws pc lv [.int v] := by
  intro H locs ls hP hD hS hl
  obtain ⟨hx, hb, hr, hml, hown, hts, hlk, hin⟩ := X.1
  refine W.widen h1 h2 ?_
  exact W.iret hx hb hr (fun t9 ht hW => ⟨⟨v, u, rfl, hu, by rw [ht]; exact hP.perm hw, va_K.moved hW.alike X.2.2.1, hD.perm hw⟩, hS.F ht⟩) hS.2.2 hdg
theorem k_zret (X : gX p s m meth c cc mL (some .boolean) y0 args E A) {S : Type} {post : Int32 → S → Prop} {w' : S → va_W} {mc ms : Nat} {v : Int32} (hv : v = 0 ∨ v = 1) (u : S) (hu : post v u) (hw : ws.Perm (w' u)) (hdg : decode cc pc = .ok (.ireturn, 1)) (h1 : ce ≤ mc) (h2 : sl ≤ ms) : kP ce sl p l e R s m args below meth c E A mL (MQ below (qI E post w' A) args s mc ms A) ws pc lv [.int v] := by
  intro H locs ls hP hD hS hl
  obtain ⟨hx, hb, hr, hml, hown, hts, hlk, hin⟩ := X.1
  refine W.widen h1 h2 ?_
  exact W.zret hx hb hr (by rcases hv with rfl | rfl <;> decide) (fun t9 ht hW => ⟨⟨v, u, rfl, hu, by rw [ht]; exact hP.perm hw, va_K.moved hW.alike X.2.2.1, hD.perm hw⟩, hS.F ht⟩) hS.2.2 hdg
/-- a whole body -/
theorem k_of {y : MethodName} {bytes : ByteArray} {maxL : Nat} {ret1 : Option FieldType} {rm : Room} {av : List Value} {Qf : (Nat → Prop) → Array Value → State → Outcome → State → Prop} (hy : plainName y.cls = true) (hfit : (lg_sl av).length ≤ maxL)
    (body : ∀ (p : Program) (e : Env) (s : State) (m : MethodId) (below : List Frame) (meth : Method) (c : Code) (A : Nat → Prop), gX p s m meth c bytes maxL ret1 y av.toArray E A → kP 0 0 p l e rm s m av.toArray below meth c E A maxL (MQ below (Qf A) av.toArray s rm.cells rm.slots A) ws 0 (lv_args 0 av) []) : cM l E y bytes maxL ret1 rm av ws Qf :=
  cM_of hy hfit (fun p e s m below meth c ls A F hA hS hP hD hK hZ hl => body p e s m below meth c A ⟨F, hA, hK, hZ⟩ s.heap [] ls hP hD hS hl)
end KP
