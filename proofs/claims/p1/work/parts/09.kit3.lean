theorem arrV_ext {cA : ClassId} {n : Nat} {f g : Nat → Value} (h : ∀ j, j < n → f j = g j) : arrV cA n f = arrV cA n g := by
  have e : ∀ z : Nat → Value, arrV cA n z = arrV cA n z := fun _ => rfl
  unfold arrV
  congr 1
  apply Array.ext
  · simp
  · intro i h1 h2
    simp at h1 ⊢
    exact h i h1
theorem cw_extI {E : cE} {A : Nat → Prop} {ws : va_W} {H : Heap} {a n : Nat} {cA : ClassId} {f g : Nat → Int32} (hP : va_P E.1 vwCl ws H) (hD : va_D A ws) (q0 : Nat) (hq : ws[q0]? = some (a, .inl (cA, n, .inl f))) (h : ∀ j, j < n → f j = g j) : va_P E.1 vwCl (ws.set q0 (a, .inl (cA, n, .inl g))) H ∧ va_D A (ws.set q0 (a, .inl (cA, n, .inl g))) := by
  refine ⟨?_, hD.set hq⟩
  intro k q hk
  by_cases e : k = q0
  · subst e
    rw [List.getElem?_set_self (by exact (List.getElem?_eq_some_iff.mp hq).1)] at hk
    cases hk
    have h1 := hP k _ hq
    show H[a]? = some (vp_cell cA (n, .inl g))
    rw [show vp_cell cA (n, .inl g) = vp_cell cA (n, .inl f) from (arrV_ext (fun j hj => congrArg Value.int (h j hj))).symm]
    exact h1
  · rw [List.getElem?_set_ne (fun h => e h.symm)] at hk
    exact hP k q hk
theorem cw_extJ {E : cE} {A : Nat → Prop} {ws : va_W} {H : Heap} {a n : Nat} {cA : ClassId} {f g : Nat → Int64} (hP : va_P E.1 vwCl ws H) (hD : va_D A ws) (q0 : Nat) (hq : ws[q0]? = some (a, .inl (cA, n, .inr (.inl f)))) (h : ∀ j, j < n → f j = g j) : va_P E.1 vwCl (ws.set q0 (a, .inl (cA, n, .inr (.inl g)))) H ∧ va_D A (ws.set q0 (a, .inl (cA, n, .inr (.inl g)))) := by
  refine ⟨?_, hD.set hq⟩
  intro k q hk
  by_cases e : k = q0
  · subst e
    rw [List.getElem?_set_self (by exact (List.getElem?_eq_some_iff.mp hq).1)] at hk
    cases hk
    have h1 := hP k _ hq
    show H[a]? = some (vp_cell cA (n, .inr (.inl g)))
    rw [show vp_cell cA (n, .inr (.inl g)) = vp_cell cA (n, .inr (.inl f)) from (arrV_ext (fun j hj => congrArg Value.long (h j hj))).symm]
    exact h1
  · rw [List.getElem?_set_ne (fun h => e h.symm)] at hk
    exact hP k q hk
theorem cw_nar0 : vp_nar .byte (nI 0) = 0 := by decide
theorem min_nI {a b : Nat} (ha : a < 2 ^ 31) (hb : b < 2 ^ 31) : (if nI b < nI a then nI b else nI a) = nI (min a b) := by
  by_cases h : b < a
  · rw [if_pos (nI_lt h ha), Nat.min_eq_right (by omega)]
  · rw [if_neg (fun q => h ((nI_ltI hb ha).mp q)), Nat.min_eq_left (by omega)]
section MyMath
variable {p : Program} {l : Launch} {e : Env} {R : Room} {s : State} {m : MethodId} {args : Array Value} {below : List Frame} {meth : Method} {c : Code} {H : Heap} {locs : List Loc} {cells slots : Nat} {Q : State → Prop}
variable {cc : ByteArray} {mL : Nat} {ret : Option FieldType} {y0 : MethodName} {pc : Nat} {ls : Array Slot} {rest : List Value} {idx : Nat}
theorem cw_minI (F : cX p s m meth c cc mL ret y0 args) (hsz : ls.size = mL) (hlink : Cond.methodLink y0.cls idx yJ9_min_7cf53 ∈ TB) {a b : Int32} (hfr : 1 ≤ R.frames) (hlo : (rest.map fun v => v.category).sum + 13 ≤ R.locals) (hc : cells ≤ R.cells) (hs : slots ≤ R.slots) (hdg : decode cc pc = .ok (.invokestatic idx, 3))
    (kk : W p l e R s m args below meth c H locs cells slots Q (F0 m (pc + 3) ls (.int (if b < a then b else a) :: rest))) : W p l e R s m args below meth c H locs cells slots Q (F0 m pc ls (.int b :: .int a :: rest)) := by
  obtain ⟨hx, hb, hr, hml, hown, hts, hlk, hin⟩ := F
  exact va_mmin hx hb (hml.trans hsz.symm) hown (hts _ hlink) (hts _ wdT_J9_min_7cf53) (hts _ wdZ_RJ9) (hts _ wdK_J9_min_7cf53) hfr hlo hc hs hdg kk
theorem cw_maxI (F : cX p s m meth c cc mL ret y0 args) (hsz : ls.size = mL) (hlink : Cond.methodLink y0.cls idx yJ9_max_7cf53 ∈ TB) {a b : Int32} (hfr : 1 ≤ R.frames) (hlo : (rest.map fun v => v.category).sum + 13 ≤ R.locals) (hc : cells ≤ R.cells) (hs : slots ≤ R.slots) (hdg : decode cc pc = .ok (.invokestatic idx, 3))
    (kk : W p l e R s m args below meth c H locs cells slots Q (F0 m (pc + 3) ls (.int (if a < b then b else a) :: rest))) : W p l e R s m args below meth c H locs cells slots Q (F0 m pc ls (.int b :: .int a :: rest)) := by
  obtain ⟨hx, hb, hr, hml, hown, hts, hlk, hin⟩ := F
  exact va_mmax hx hb (hml.trans hsz.symm) hown (hts _ hlink) (hts _ wdT_J9_max_7cf53) (hts _ wdZ_RJ9) (hts _ wdK_J9_max_7cf53) hfr hlo hc hs hdg kk
theorem cw_min (F : cX p s m meth c cc mL ret y0 args) (hsz : ls.size = mL) (hlink : Cond.methodLink y0.cls idx yJ9_min_7cf53 ∈ TB) {a b : Nat} (ha : a < 2 ^ 31) (hb9 : b < 2 ^ 31) (hfr : 1 ≤ R.frames) (hlo : (rest.map fun v => v.category).sum + 13 ≤ R.locals) (hc : cells ≤ R.cells) (hs : slots ≤ R.slots) (hdg : decode cc pc = .ok (.invokestatic idx, 3))
    (kk : W p l e R s m args below meth c H locs cells slots Q (F0 m (pc + 3) ls (.int (nI (min a b)) :: rest))) : W p l e R s m args below meth c H locs cells slots Q (F0 m pc ls (.int (nI b) :: .int (nI a) :: rest)) := by
  refine cw_minI F hsz hlink hfr hlo hc hs hdg ?_
  rw [min_nI ha hb9]
  exact kk
end MyMath
