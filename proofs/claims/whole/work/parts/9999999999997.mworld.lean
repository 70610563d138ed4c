/-! the history's Moments in the world -/
theorem dX5_init_0 : decode cX5_init 0 = .ok (.aload_n 0, 1) := by decide +kernel
theorem dX5_init_1 : decode cX5_init 1 = .ok (.invokespecial 3, 3) := by decide +kernel
theorem dX5_init_4 : decode cX5_init 4 = .ok (.aload_n 0, 1) := by decide +kernel
theorem dX5_init_5 : decode cX5_init 5 = .ok (.bipush 64, 2) := by decide +kernel
theorem dX5_init_7 : decode cX5_init 7 = .ok (.newarray .int, 2) := by decide +kernel
theorem dX5_init_9 : decode cX5_init 9 = .ok (.putfield 9, 3) := by decide +kernel
theorem dX5_init_12 : decode cX5_init 12 = .ok (.aload_n 0, 1) := by decide +kernel
theorem dX5_init_13 : decode cX5_init 13 = .ok (.iconst 4, 1) := by decide +kernel
theorem dX5_init_14 : decode cX5_init 14 = .ok (.newarray .long, 2) := by decide +kernel
theorem dX5_init_16 : decode cX5_init 16 = .ok (.putfield 15, 3) := by decide +kernel
theorem dX5_init_19 : decode cX5_init 19 = .ok (.return_, 1) := by decide +kernel
abbrev rm_c_X5_init : Room := { frames := 1, cells := 2, slots := 68, locals := 20 }
set_option maxHeartbeats 4000000 in
set_option maxRecDepth 100000 in
theorem c_X5_init (l : Launch) (E : cE) (h0 : Nat) : cM l E yX5_init cX5_init 1 none rm_c_X5_init [.ref h0] [(h0, ob 5 [.null, .int 0, .int 0, .long 0, .null, .int 0, .int 0, .int 0])] (qV E (fun (_ : Nat × Nat) => True) (fun (q : Nat × Nat) => [(h0, ob 5 [.ref q.1, .int 0, .int 0, .long 0, .ref q.2, .int 0, .int 0, .int 0]), (q.1, aI E 64 (fun _ => 0)), (q.2, aJ E 4 (fun _ => 0))])) := by
  refine cM_of (by decide) (Nat.le_of_ble_eq_true rfl) ?_
  intro p e s m below meth c ls A F hA hS hP hD hK hZ hl
  obtain ⟨hx, hb, hr, hml, hown, hts, hlk, hin⟩ := id F
  have hown : s.vm.findClass RX5 = some m.cls := hown
  have hin : meth.name = "<init>" := hin
  have hl : lv_has ls 1 [(0, .ref h0)] := hl
  refine lv_aload_n hx hb dX5_init_0 rfl (lv_at hl 0 rfl) ?_
  refine W.objInit hx hb hown (hts _ wdM_RX5_3) (hts _ wd_oi) (hts _ wd_oc) rfl (by rw [hml]; exact hl.1) rfl dX5_init_1 (by decide) (Nat.le_of_ble_eq_true rfl) ?_
  refine W.eq (g2 := F0 m 4 ls []) rfl ?_
  refine lv_aload_n hx hb dX5_init_4 rfl (lv_at hl 0 rfl) ?_
  refine lv_bipush (v := nI 64) hx hb dX5_init_5 (by decide) ?_
  refine cw_newa (E := E) (atype := .int) (ty := .int) (a0 := (64, .inl (fun _ => 0))) hx hb (hts _ wdA_int) rfl hK hP hD hS hA 1 rfl rfl (fun _ => rfl) (by decide) (by decide) (by decide) (by decide) (by decide) dX5_init_7 (fun q_1 H hP hD hS => ?_)
  have hP : va_P E.1 vwCl [(h0, ob 5 [.null, .int 0, .int 0, .long 0, .null, .int 0, .int 0, .int 0]), (q_1, aI E 64 (fun _ => 0))] H := hP
  have hD : va_D A [(h0, ob 5 [.null, .int 0, .int 0, .long 0, .null, .int 0, .int 0, .int 0]), (q_1, aI E 64 (fun _ => 0))] := hD
  refine W.widen (k := 1) (n := 64) (by decide) (by decide) ?_
  refine va_putF (D := E.1) (ci := 5) (v := .ref q_1) (ty := .array .int) (C := RX5) (T := TX5) (N := 8) hx hb hts iX5 tyX5 tyX5_ok nmX5 hown hK hP hD hS 0 rfl rfl 0 (by decide) (hts _ wdF_RX5_9) (fun _ h9 => h9) rfl hin rfl (by decide +kernel) rfl rfl (Nat.le_of_ble_eq_true rfl) dX5_init_9 (fun H locs hP hD hS => ?_)
  have hP : va_P E.1 vwCl [(h0, ob 5 [.ref q_1, .int 0, .int 0, .long 0, .null, .int 0, .int 0, .int 0]), (q_1, aI E 64 (fun _ => 0))] H := hP
  have hD : va_D A [(h0, ob 5 [.ref q_1, .int 0, .int 0, .long 0, .null, .int 0, .int 0, .int 0]), (q_1, aI E 64 (fun _ => 0))] := hD
  refine lv_aload_n hx hb dX5_init_12 rfl (lv_at hl 0 rfl) ?_
  refine lv_iconst (v := nI 4) hx hb dX5_init_13 (by decide) ?_
  refine cw_newa (E := E) (atype := .long) (ty := .long) (a0 := (4, .inr (.inl (fun _ => 0)))) hx hb (hts _ wdA_long) rfl hK hP hD hS hA 2 rfl rfl (fun _ => rfl) (by decide) (by decide) (by decide) (by decide) (by decide) dX5_init_14 (fun q_2 H hP hD hS => ?_)
  have hP : va_P E.1 vwCl [(h0, ob 5 [.ref q_1, .int 0, .int 0, .long 0, .null, .int 0, .int 0, .int 0]), (q_1, aI E 64 (fun _ => 0)), (q_2, aJ E 4 (fun _ => 0))] H := hP
  have hD : va_D A [(h0, ob 5 [.ref q_1, .int 0, .int 0, .long 0, .null, .int 0, .int 0, .int 0]), (q_1, aI E 64 (fun _ => 0)), (q_2, aJ E 4 (fun _ => 0))] := hD
  refine W.widen (k := 2) (n := 68) (by decide) (by decide) ?_
  refine va_put (D := E.1) (ci := 5) (v := .ref q_2) (ty := .array .long) (C := RX5) (T := TX5) (N := 8) hx hb hts iX5 tyX5 tyX5_ok nmX5 hown hK hP hD hS 0 rfl rfl 4 (by decide) (hts _ wdF_RX5_15) (fun _ h9 => h9) rfl (by decide +kernel) rfl rfl (Nat.le_of_ble_eq_true rfl) dX5_init_16 (fun H locs hP hD hS => ?_)
  have hP : va_P E.1 vwCl [(h0, ob 5 [.ref q_1, .int 0, .int 0, .long 0, .ref q_2, .int 0, .int 0, .int 0]), (q_1, aI E 64 (fun _ => 0)), (q_2, aJ E 4 (fun _ => 0))] H := hP
  have hD : va_D A [(h0, ob 5 [.ref q_1, .int 0, .int 0, .long 0, .ref q_2, .int 0, .int 0, .int 0]), (q_1, aI E 64 (fun _ => 0)), (q_2, aJ E 4 (fun _ => 0))] := hD
  exact cV_ret F hP hD hS hK ((q_1, q_2) : Nat × Nat) trivial [0, 1, 2] rfl rfl dX5_init_19 (by decide) (by decide)
theorem yy_X5_init : cY yX5_init cX5_init 1 none 0 := ⟨wdK_X5_init, wdZ_RX5, by decide +kernel⟩
/-- a Moment's three cells, and all of them with the array of references -/
def mC (E : cE) (r : Nat → Nat) (len : Nat → Nat) (μ : St) (i : Nat) : va_W := [(r (1000 + i), ob 5 [.ref (r (1300 + i)), iv (μ.1 (1000 + i) 1), iv (μ.1 (1000 + i) 2), .long (μ.2 (1000 + i) 3), .ref (r (1600 + i)), iv (μ.1 (1000 + i) 5), iv (μ.1 (1000 + i) 6), iv (μ.1 (1000 + i) 7)]), (r (1300 + i), aI E 64 (fun d => Int32.ofInt (μ.1 (1300 + i) d))), (r (1600 + i), aJ E (len i) (μ.2 (1600 + i)))]
def mQ (r : Nat → Nat) (B : Nat) : Nat → Option Nat := fun i => if i < B then some (r (1000 + i)) else none
def exL (E : cE) (r : Nat → Nat) (B : Nat) (len : Nat → Nat) (μ : St) : va_W := (r 420, aQ E 201 (mQ r B)) :: (List.range B).flatMap (mC E r len μ)
theorem flm_perm {α β : Type} {f : α → List β} {a b : List α} (h : a.Perm b) : (a.flatMap f).Perm (b.flatMap f) := by
  induction h with
  | nil => exact List.Perm.refl _
  | cons x _ ih => rw [List.flatMap_cons, List.flatMap_cons]; exact List.Perm.append_left _ ih
  | swap x y l =>
    rw [List.flatMap_cons, List.flatMap_cons, List.flatMap_cons, List.flatMap_cons, ← List.append_assoc, ← List.append_assoc]
    exact List.Perm.append_right _ List.perm_append_comm
  | trans _ _ ih1 ih2 => exact ih1.trans ih2
theorem flm_cong {α β : Type} {f g : α → List β} : ∀ {a : List α}, (∀ x ∈ a, f x = g x) → a.flatMap f = a.flatMap g := by
  intro a
  induction a with
  | nil => intro _; rfl
  | cons x a ih =>
    intro h
    rw [List.flatMap_cons, List.flatMap_cons, h x (List.mem_cons_self ..), ih (fun y hy => h y (List.mem_cons_of_mem _ hy))]
/-- the other Moments -/
def mR (E : cE) (r : Nat → Nat) (B : Nat) (len : Nat → Nat) (μ : St) (i : Nat) : va_W := (r 420, aQ E 201 (mQ r B)) :: ((List.range B).erase i).flatMap (mC E r len μ)
theorem exL_pick {E : cE} {r : Nat → Nat} {B : Nat} {len : Nat → Nat} {μ : St} {i : Nat} (h : i < B) : (exL E r B len μ).Perm (mC E r len μ i ++ mR E r B len μ i) := by
  unfold exL mR
  have h1 : ((List.range B).flatMap (mC E r len μ)).Perm (mC E r len μ i ++ ((List.range B).erase i).flatMap (mC E r len μ)) := by
    have := flm_perm (f := mC E r len μ) (List.perm_cons_erase (List.mem_range.mpr h))
    rw [List.flatMap_cons] at this
    exact this
  exact ((List.Perm.cons _ h1).trans List.perm_middle.symm)
theorem mC_cg {E : cE} {r r2 : Nat → Nat} {len len2 : Nat → Nat} {μ μ2 : St} {j : Nat} (h1 : r2 (1000 + j) = r (1000 + j) ∧ r2 (1300 + j) = r (1300 + j) ∧ r2 (1600 + j) = r (1600 + j)) (h2 : len2 j = len j) (h3 : μ2.1 (1000 + j) = μ.1 (1000 + j) ∧ μ2.1 (1300 + j) = μ.1 (1300 + j) ∧ μ2.2 (1000 + j) = μ.2 (1000 + j) ∧ μ2.2 (1600 + j) = μ.2 (1600 + j)) : mC E r2 len2 μ2 j = mC E r len μ j := by
  unfold mC
  rw [h1.1, h1.2.1, h1.2.2, h2, h3.1, h3.2.1, h3.2.2.1, h3.2.2.2]
theorem mR_cg {E : cE} {r r2 : Nat → Nat} {B : Nat} {len len2 : Nat → Nat} {μ μ2 : St} {i : Nat} (h0 : r2 420 = r 420 ∧ ∀ j, j < B → r2 (1000 + j) = r (1000 + j)) (h : ∀ j, j < B → j ≠ i → (r2 (1300 + j) = r (1300 + j) ∧ r2 (1600 + j) = r (1600 + j)) ∧ len2 j = len j ∧ (μ2.1 (1000 + j) = μ.1 (1000 + j) ∧ μ2.1 (1300 + j) = μ.1 (1300 + j) ∧ μ2.2 (1000 + j) = μ.2 (1000 + j) ∧ μ2.2 (1600 + j) = μ.2 (1600 + j))) : mR E r2 B len2 μ2 i = mR E r B len μ i := by
  unfold mR
  have hq : mQ r2 B = mQ r B := by
    funext j
    unfold mQ
    by_cases hj : j < B
    · rw [if_pos hj, if_pos hj, h0.2 j hj]
    · rw [if_neg hj, if_neg hj]
  rw [h0.1, hq]
  congr 1
  refine flm_cong (fun j hj => ?_)
  rw [List.Nodup.mem_erase_iff List.nodup_range, List.mem_range] at hj
  have := h j hj.2 hj.1
  exact mC_cg ⟨h0.2 j hj.2, this.1.1, this.1.2⟩ this.2.1 this.2.2
/-- one Moment taken as the Moment of the table -/
def rsl (r : Nat → Nat) (i : Nat) : Nat → Nat := fun a => if a = 1000 then r (1000 + i) else if a = 1300 then r (1300 + i) else if a = 1600 then r (1600 + i) else r a
def cmb (t μ : St) (i : Nat) : St := (fun a => if a = 1000 then μ.1 (1000 + i) else if a = 1300 then μ.1 (1300 + i) else t.1 a, fun a => if a = 1000 then μ.2 (1000 + i) else if a = 1600 then μ.2 (1600 + i) else t.2 a)
theorem gW_mom {E : cE} {r : Nat → Nat} {n : Nat} {z : St} : gW E r (exN n) z = [(r 1000, ob 5 [.ref (r 1300), iv (z.1 1000 1), iv (z.1 1000 2), .long (z.2 1000 3), .ref (r 1600), iv (z.1 1000 5), iv (z.1 1000 6), iv (z.1 1000 7)]), (r 1300, aI E 64 (fun d => Int32.ofInt (z.1 1300 d))), (r 1600, aJ E n (z.2 1600))] := rfl
theorem gW_cmb {E : cE} {r : Nat → Nat} {len : Nat → Nat} {t μ : St} {i : Nat} (h3 : t.1 311 3 ≤ 1000) : gW E (rsl r i) (shH ++ exN (len i)) (cmb t μ i) = gW E r shH t ++ mC E r len μ i := by
  rw [gW_app, gW_mom]
  congr 1
  refine gW_cg shB_H (fun id hid => ?_) (fun id hid => ⟨?_, ?_⟩) h3
  · unfold rsl; rw [if_neg (by omega), if_neg (by omega), if_neg (by omega)]
  · show (if id = 1000 then μ.1 (1000 + i) else if id = 1300 then μ.1 (1300 + i) else t.1 id) = _
    rw [if_neg (by omega), if_neg (by omega)]
  · show (if id = 1000 then μ.2 (1000 + i) else if id = 1600 then μ.2 (1600 + i) else t.2 id) = _
    rw [if_neg (by omega), if_neg (by omega)]
/-- the Moment i as the state z has it, with beats and steps -/
def mU (μ : St) (i : Nat) (z : St) (b st : Int) : St := (fun a d => if a = 1000 + i then (if d = 6 then b else if d = 7 then st else z.1 1000 d) else if a = 1300 + i then z.1 1300 d else μ.1 a d, fun a d => if a = 1000 + i then z.2 1000 d else if a = 1600 + i then z.2 1600 d else μ.2 a d)
theorem mU_c {μ z : St} {i : Nat} {b st : Int} (hi : i < 201) : ((mU μ i z b st).1 (1000 + i) = fun d => if d = 6 then b else if d = 7 then st else z.1 1000 d) ∧ (mU μ i z b st).1 (1300 + i) = z.1 1300 ∧ (mU μ i z b st).2 (1000 + i) = z.2 1000 ∧ (mU μ i z b st).2 (1600 + i) = z.2 1600 := by
  refine ⟨?_, ?_, ?_, ?_⟩
  · funext d; show (if 1000 + i = 1000 + i then _ else _) = _; rw [if_pos rfl]
  · funext d; show (if 1300 + i = 1000 + i then _ else if 1300 + i = 1300 + i then _ else _) = _; rw [if_neg (by omega), if_pos rfl]
  · funext d; show (if 1000 + i = 1000 + i then _ else _) = _; rw [if_pos rfl]
  · funext d; show (if 1600 + i = 1000 + i then _ else if 1600 + i = 1600 + i then _ else _) = _; rw [if_neg (by omega), if_pos rfl]
theorem mU_o {μ z : St} {i j : Nat} {b st : Int} (hi : i < 201) (hj : j < 201) (hij : j ≠ i) : (mU μ i z b st).1 (1000 + j) = μ.1 (1000 + j) ∧ (mU μ i z b st).1 (1300 + j) = μ.1 (1300 + j) ∧ (mU μ i z b st).2 (1000 + j) = μ.2 (1000 + j) ∧ (mU μ i z b st).2 (1600 + j) = μ.2 (1600 + j) := by
  refine ⟨?_, ?_, ?_, ?_⟩
  · funext d; show (if 1000 + j = 1000 + i then _ else if 1000 + j = 1300 + i then _ else _) = _; rw [if_neg (by omega), if_neg (by omega)]
  · funext d; show (if 1300 + j = 1000 + i then _ else if 1300 + j = 1300 + i then _ else _) = _; rw [if_neg (by omega), if_neg (by omega)]
  · funext d; show (if 1000 + j = 1000 + i then _ else if 1000 + j = 1600 + i then _ else _) = _; rw [if_neg (by omega), if_neg (by omega)]
  · funext d; show (if 1600 + j = 1000 + i then _ else if 1600 + j = 1600 + i then _ else _) = _; rw [if_neg (by omega), if_neg (by omega)]
theorem mU_mU {μ z z2 : St} {i : Nat} {b st b2 st2 : Int} : mU (mU μ i z b st) i z2 b2 st2 = mU μ i z2 b2 st2 := by
  unfold mU
  refine Prod.ext ?_ ?_
  · funext a d
    show (if a = 1000 + i then _ else if a = 1300 + i then _ else _) = (if a = 1000 + i then _ else if a = 1300 + i then _ else _)
    by_cases h1 : a = 1000 + i
    · rw [if_pos h1, if_pos h1]
    · by_cases h2 : a = 1300 + i
      · rw [if_neg h1, if_neg h1, if_pos h2, if_pos h2]
      · rw [if_neg h1, if_neg h1, if_neg h2, if_neg h2]
        show (if a = 1000 + i then _ else if a = 1300 + i then _ else μ.1 a d) = μ.1 a d
        rw [if_neg h1, if_neg h2]
  · funext a d
    show (if a = 1000 + i then _ else if a = 1600 + i then _ else _) = (if a = 1000 + i then _ else if a = 1600 + i then _ else _)
    by_cases h1 : a = 1000 + i
    · rw [if_pos h1, if_pos h1]
    · by_cases h2 : a = 1600 + i
      · rw [if_neg h1, if_neg h1, if_pos h2, if_pos h2]
      · rw [if_neg h1, if_neg h1, if_neg h2, if_neg h2]
        show (if a = 1000 + i then _ else if a = 1600 + i then _ else μ.2 a d) = μ.2 a d
        rw [if_neg h1, if_neg h2]
