/-! reading in lock step: a slot -/
def FSh (f : Nat) (t u : St) : Prop := (∀ x y : Nat, x ≠ 303 → (x ≠ 302 ∨ y ≠ 19) → (x ≠ 350 ∨ y ≠ f) → (x ≠ 351 ∨ y < 32 * f) → (x ≠ 352 ∨ y < 32 * f) → (x ≠ 353 ∨ y < 8 * f) → u.1 x y = t.1 x y) ∧ u.2 = t.2
def FSm (f : Nat) (m v : St) : Prop := (∀ x y : Nat, (x ≠ 200 ∨ y < 2 ∨ (6 < y ∧ y ≠ 8)) → (x < 19 ∨ 22 < x ∨ y < 8 * f) → v.1 x y = m.1 x y) ∧ v.2 = m.2
theorem FSh.tr {f : Nat} {t u v : St} (h : FSh f t u) (g : FSh f u v) : FSh f t v := ⟨fun x y h1 h2 h3 h4 h5 h6 => (g.1 x y h1 h2 h3 h4 h5 h6).trans (h.1 x y h1 h2 h3 h4 h5 h6), g.2.trans h.2⟩
theorem FSm.tr {f : Nat} {t u v : St} (h : FSm f t u) (g : FSm f u v) : FSm f t v := ⟨fun x y h1 h2 => (g.1 x y h1 h2).trans (h.1 x y h1 h2), g.2.trans h.2⟩
theorem FSh.rf {f : Nat} {t : St} : FSh f t t := ⟨fun _ _ _ _ _ _ _ _ => rfl, rfl⟩
theorem FSm.rf {f : Nat} {t : St} : FSm f t t := ⟨fun _ _ _ _ => rfl, rfl⟩
theorem FSh.c {f : Nat} {t u : St} (h : sC t u) : FSh f t u := ⟨fun x y h1 h2 _ _ _ _ => h.1 x y (Or.inl h1) h2, h.2⟩
theorem FSm.c {f : Nat} {t u : St} (h : eqF t u) : FSm f t u := ⟨fun x y h1 _ => h.1 x y (by omega), h.2⟩
theorem FSh.p {f y : Nat} {t : St} {v : Int} : FSh f t (pI t 303 y v) := ⟨fun x z h1 _ _ _ _ _ => by rw [pI_ne h1], rfl⟩
theorem FSm.p8 {f : Nat} {m : St} {v : Int} : FSm f m (pI m 200 8 v) := ⟨fun x y h1 _ => by
  by_cases hx : x = 200
  · subst hx; rw [pI_nf (by omega)]
  · rw [pI_ne hx], rfl⟩
theorem FSm.s {f k q : Nat} {m : St} {v : Int} (hk : 19 ≤ k ∧ k ≤ 22) (hq : 8 * f ≤ q) : FSm f m (pI m k q v) := ⟨fun x y _ h2 => by
  by_cases hx : x = k
  · subst hx; rw [pI_nf (by omega)]
  · rw [pI_ne hx], rfl⟩
section
variable {N : Nat} {B : Nat → Int} {e mm i f n : Nat} {t m t0 m0 : St}
theorem PR.s {k q : Nat} {v : Int} (h : PR t m B e mm 0 i) (hk : 19 ≤ k ∧ k ≤ 22) : PR t (pI m k q v) B e mm 0 i :=
  h.mv (k2 := 0) h.1 (fun _ _ => rfl) rfl (fun b _ _ _ _ _ _ => by rw [pI_ne (by omega)]) (by rw [pI_ne (by omega)]) (by rw [pI_ne (by omega)]; exact h.2.2.2.2.2.2.2.1.1) h.2.2.2.2.2.2.2.1.2
theorem flt_s (w : Int) (h : PR t m B e mm 0 i) (hw : 1 ≤ w ∧ w ≤ 7) (g1 : FSh f t0 t) (g2 : FSm f m0 m) {Q : St → St → Prop} : SIMf B e mm (fun u v => FSh f t0 u ∧ FSm f m0 v) Q (bdI (f_X7_wrong N w t) fun x y => boI x (some (x, y))) (bdI (f_X12_wrong N w m) fun x y => boI x (some (x, y))) :=
  Or.inl ⟨_, _, by rw [c_wrong, bdI_s, boI_0], by rw [s_wrong, bdI_s, boI_0], FR_of h hw, g1.tr FSh.p, g2.tr FSm.p8⟩
def RSl (B : Nat → Int) (e mm i f n : Nat) (t m u v : St) : Prop := ∃ i2 : Nat, i < i2 ∧ PR u v B e mm 0 i2 ∧ fhO u v f (n + 1) ∧ n < 8 ∧ FSh f t u ∧ FSm f m v ∧ (-32 ≤ v.1 19 (8 * f + n) ∧ v.1 19 (8 * f + n) ≤ 32) ∧ (-32 ≤ v.1 20 (8 * f + n) ∧ v.1 20 (8 * f + n) ≤ 32) ∧ (∀ x y : Nat, (x < 19 ∨ 22 < x ∨ y < 8 * f + n) → x ≠ 200 → v.1 x y = m.1 x y) ∧ (0 ≤ v.1 21 (8 * f + n) ∧ v.1 21 (8 * f + n) ≤ 4) ∧ (0 ≤ v.1 22 (8 * f + n) ∧ v.1 22 (8 * f + n) ≤ 2) ∧ ∀ x, x < n → ¬ (v.1 19 (8 * f + x) = v.1 19 (8 * f + n) ∧ v.1 20 (8 * f + x) = v.1 20 (8 * f + n))
/-- the end of a slot -/
theorem slot_end {X Y W R : Int} (h : PR t m B e mm 0 i) (hf : f < 40) (hn : n ≤ 7) (hN : 5000 ≤ N) (g1 : FSh f t0 t) (g2 : FSm f m0 m) (g3 : ∀ x y : Nat, (x < 19 ∨ 22 < x ∨ y < 8 * f + n) → x ≠ 200 → m.1 x y = m0.1 x y) (g4 : ∀ x y : Nat, 350 ≤ x → x ≤ 353 → t.1 x y = t0.1 x y) (hO : fhO t0 m0 f n) {i0 : Nat} (hi : i0 < i)
    (hX : -32 ≤ X ∧ X ≤ 32) (hY : -32 ≤ Y ∧ Y ≤ 32) (e19 : m.1 19 (8 * f + n) = X) (e20 : m.1 20 (8 * f + n) = Y) (e21 : m.1 21 (8 * f + n) = W) (e22 : m.1 22 (8 * f + n) = R) (hW : 0 ≤ W ∧ W ≤ 4) (hRr : 0 ≤ R ∧ R ≤ 2) (hD : ∀ x, x < n → ¬ (m0.1 19 (8 * f + x) = X ∧ m0.1 20 (8 * f + x) = Y)) :
    ∃ u, f_X0_addSlot N f X Y (W + 8 * (if R = 0 then 2 else R - 1)) t = some u ∧ RSl B e mm i0 f n t0 m0 u m := by
  obtain ⟨u, a1, a2, a3, a4, a5, a6⟩ := add_slot (N := N) (t := t) (K := W + 8 * (if R = 0 then 2 else R - 1)) hf hn (by rw [g4 350 f (by omega) (by omega)]; exact hO.1) hX hY hN
  refine ⟨u, a1, i, hi, ?_, ⟨a4, fun j hj => ?_⟩, by omega, ⟨fun x y z1 z2 z3 z4 z5 z6 => ?_, by rw [a6]; exact g1.2⟩, g2, by rw [e19]; exact hX, by rw [e20]; exact hY, g3, by rw [e21]; exact hW, by rw [e22]; exact hRr, fun x hx => by rw [e19, e20, g3 19 (8 * f + x) (by omega) (by omega), g3 20 (8 * f + x) (by omega) (by omega)]; exact hD x hx⟩
  · have e303 : ∀ x, x ≠ 350 → x ≠ 351 → x ≠ 352 → x ≠ 353 → u.1 x = t.1 x := fun x z1 z2 z3 z4 => funext fun y => a5 x y (Or.inl z1) (Or.inl z2) (Or.inl z3) (Or.inl z4)
    exact h.mv (k2 := 0) (TKs.mv h.1 (by rw [e303 301 (by decide) (by decide) (by decide) (by decide)]) (fun x hx => e303 x (by omega) (by omega) (by omega) (by omega)) (by rw [a6])) (fun b _ => by rw [e303 303 (by decide) (by decide) (by decide) (by decide)]) (by rw [e303 302 (by decide) (by decide) (by decide) (by decide)]) (fun _ _ _ _ _ _ _ => rfl) rfl h.2.2.2.2.2.2.2.1.1 (by rw [e303 303 (by decide) (by decide) (by decide) (by decide)]; exact h.2.2.2.2.2.2.2.1.2)
  · by_cases hjn : j = n
    · subst hjn
      rw [e19, e20, e21, e22]
      exact ⟨a2, a3⟩
    · have ho := hO.2 j (by omega)
      have m9 : ∀ x, 19 ≤ x → x ≤ 22 → m.1 x (8 * f + j) = m0.1 x (8 * f + j) := fun x z1 z2 => g3 x (8 * f + j) (by omega) (by omega)
      rw [m9 19 (by omega) (by omega), m9 20 (by omega) (by omega), m9 21 (by omega) (by omega), m9 22 (by omega) (by omega)]
      refine ⟨fun r hr => ?_, ?_⟩
      · have := ho.1 r hr
        rw [a5 351 (4 * (8 * f + j) + r) (by omega) (by omega) (by omega) (by omega), a5 352 (4 * (8 * f + j) + r) (by omega) (by omega) (by omega) (by omega), g4 351 _ (by omega) (by omega), g4 352 _ (by omega) (by omega)]
        exact this
      · rw [a5 353 (8 * f + j) (by omega) (by omega) (by omega) (by omega), g4 353 _ (by omega) (by omega)]
        exact ho.2
  · rw [a5 x y z3 (by omega) (by omega) (by omega)]; exact g1.1 x y z1 z2 z3 z4 z5 z6
end
