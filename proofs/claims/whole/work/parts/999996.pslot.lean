/-! reading in lock step: a slot is kept -/
section
variable {N : Nat} {t m : St}
theorem as_lp {q : Nat} {X Y : Int} (hq : q < 320) (hX : -32 ≤ X ∧ X ≤ 32) (hY : -32 ≤ Y ∧ Y ≤ 32) (K9 : St → Option St) : ∀ (d x n : Nat) (u : St), x + d = 4 → d < n → ∃ u2 : St, f_X0_addSlot_L16 N K9 X Y q n x u = K9 u2 ∧ (∀ a, a ≠ 351 → a ≠ 352 → u2.1 a = u.1 a) ∧ (∀ a y : Nat, (y < 4 * q + x ∨ 4 * q + 4 ≤ y) → u2.1 a y = u.1 a y) ∧ (∀ r, x ≤ r → r < 4 → u2.1 351 (4 * q + r) = tX9 X Y (r : Int) ∧ u2.1 352 (4 * q + r) = tY9 X Y (r : Int)) ∧ u2.2 = u.2 := by
  intro d
  induction d with
  | zero =>
    intro x n u h1 h2
    obtain ⟨n, rfl⟩ : ∃ k, n = k + 1 := ⟨n - 1, by omega⟩
    refine ⟨u, ?_, fun _ _ _ => rfl, fun _ _ _ => rfl, fun r z1 z2 => by omega, rfl⟩
    conv => lhs; unfold f_X0_addSlot_L16
    rw [cmpI_ok (by omega), if_neg (by omega)]
  | succ d ih =>
    intro x n u h1 h2
    obtain ⟨n, rfl⟩ : ∃ k, n = k + 1 := ⟨n - 1, by omega⟩
    have hx : x = 0 ∨ x = 1 ∨ x = 2 ∨ x = 3 := by omega
    have tx : ∀ s : St, f_X0_turnedX N X Y x s = some (tX9 X Y (x : Int), s) := fun s => by
      unfold f_X0_turnedX tX9
      rw [rnI_ok (by omega)]
      rcases hx with rfl | rfl | rfl | rfl <;> rfl
    have ty : ∀ s : St, f_X0_turnedY N X Y x s = some (tY9 X Y (x : Int), s) := fun s => by
      unfold f_X0_turnedY f_X0_turnedX tY9
      rw [rnI_ok (by omega), Int.neg_neg]
      rcases hx with rfl | rfl | rfl | rfl <;> rfl
    obtain ⟨u2, g1, g2, g3, g4, g5⟩ := ih (x + 1) n (pI (pI u 351 (4 * q + x) (tX9 X Y (x : Int))) 352 (4 * q + x) (tY9 X Y (x : Int))) (by omega) (by omega)
    refine ⟨u2, ?_, fun a z1 z2 => by rw [g2 a z1 z2, pI_ne z2, pI_ne z1], fun a y z => by rw [g3 a y (by omega), pI_nf (by omega), pI_nf (by omega)], fun r z1 z2 => ?_, g5⟩
    · conv => lhs; unfold f_X0_addSlot_L16
      simp only [lt1_k]
      rw [cmpI_ok (by omega), if_pos (by omega), tx, bdI_s, ixI_ok (by omega), show ((q : Int) * 4 + (x : Int)).toNat = 4 * q + x by omega, ty, bdI_s, ixI_ok (by omega), show (x : Int) + 1 = ((x + 1 : Nat) : Int) by omega]
      exact g1
    · by_cases hr : r = x
      · subst hr
        rw [g3 351 (4 * q + r) (by omega), g3 352 (4 * q + r) (by omega), pI_at, pI_ne (by decide), pI_at]
        exact ⟨rfl, rfl⟩
      · exact g4 r (by omega) z2
theorem add_slot {f n : Nat} {X Y K : Int} (hf : f < 40) (hn : n ≤ 7) (h350 : t.1 350 f = n) (hX : -32 ≤ X ∧ X ≤ 32) (hY : -32 ≤ Y ∧ Y ≤ 32) (hN : 5000 ≤ N) : ∃ u : St, f_X0_addSlot N f X Y K t = some u ∧ (∀ r, r < 4 → u.1 351 (4 * (8 * f + n) + r) = tX9 X Y (r : Int) ∧ u.1 352 (4 * (8 * f + n) + r) = tY9 X Y (r : Int)) ∧ u.1 353 (8 * f + n) = K ∧ u.1 350 f = ((n + 1 : Nat) : Int) ∧
    (∀ a y : Nat, (a ≠ 350 ∨ y ≠ f) → (a ≠ 351 ∨ y < 4 * (8 * f + n) ∨ 4 * (8 * f + n) + 4 ≤ y) → (a ≠ 352 ∨ y < 4 * (8 * f + n) ∨ 4 * (8 * f + n) + 4 ≤ y) → (a ≠ 353 ∨ y ≠ 8 * f + n) → u.1 a y = t.1 a y) ∧ u.2 = t.2 := by
  obtain ⟨u2, g1, g2, g3, g4, g5⟩ := as_lp (N := N) (q := 8 * f + n) (X := X) (Y := Y) (by omega) hX hY (fun (t16 : St) => ixI (((f : Int) * 8) + (n : Int)) 320 (lt1 (pI t16 353 (((f : Int) * 8) + (n : Int)).toNat K) fun t17 => ixI (f : Int) 40 (lt1 (t17.1 350 (f : Int).toNat) fun v18 => ixI (f : Int) 40 (lt1 (pI t17 350 (f : Int).toNat (v18 + 1)) fun t19 => some t19)))) 4 0 N t (by omega) (by omega)
  have e350 : (pI u2 353 (8 * f + n) K).1 350 f = n := by rw [pI_ne (by decide), g2 350 (by decide) (by decide)]; exact h350
  refine ⟨pI (pI u2 353 (8 * f + n) K) 350 f ((n + 1 : Nat) : Int), ?_, fun r hr => ?_, ?_, ?_, fun a y z1 z2 z3 z4 => ?_, g5⟩
  · unfold f_X0_addSlot
    rw [ixI_ok (by omega), Int.toNat_natCast, lt1_k, h350, show (f : Int) * 8 + (n : Int) = ((8 * f + n : Nat) : Int) by omega]
    rw [show (f : Int) * 8 + (n : Int) = ((8 * f + n : Nat) : Int) by omega] at g1
    rw [show (0 : Int) = ((0 : Nat) : Int) from rfl]
    refine g1.trans ?_
    simp only [lt1_k]
    rw [ixI_ok (by omega), Int.toNat_natCast, Int.toNat_natCast, ixI_ok (by omega), e350, ixI_ok (by omega)]
    rfl
  · rw [pI_ne (by decide), pI_ne (by decide), pI_ne (by decide), pI_ne (by decide)]
    exact g4 r (by omega) hr
  · rw [pI_ne (by decide), pI_at]
  · rw [pI_at]
  · have d1 : ∀ (s : St) (k j : Nat) (v : Int), (a ≠ k ∨ y ≠ j) → (pI s k j v).1 a y = s.1 a y := fun s k j v z => by
      by_cases hx : a = k
      · subst hx; rw [pI_nf (z.elim (fun q => absurd rfl q) id)]
      · rw [pI_ne hx]
    rw [d1 _ 350 f _ z1, d1 _ 353 (8 * f + n) _ z4]
    by_cases ha : a = 351 ∨ a = 352
    · exact g3 a y (by omega)
    · rw [g2 a (by omega) (by omega)]
end
