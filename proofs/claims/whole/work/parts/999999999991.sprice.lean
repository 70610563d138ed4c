/-! rows of steps: what each allowed step costs; the arrays of ways -/
theorem STp.fg {M : St} {cd tk : Nat → Int} {a b c d : Nat} (h : STp M cd tk a b c d) : ∀ x, c ≤ x → x < d → tk x < 3000 ∨ 4000 ≤ tk x ∨ ∃ F : Nat, (F : Int) < M.1 200 15 ∧ tk x = 3000 + (F : Int) := by
  obtain ⟨H, p, h1, h2, e, h3, h4, h5⟩ := h
  exact h4.fg
theorem fsL_T {T T2 tk : Nat → Int} {c : Nat} : ∀ k, (∀ x, c ≤ x → x < c + k → 3000 ≤ tk x → tk x < 4000 → T (tk x - 3000).toNat = T2 (tk x - 3000).toNat) → fsL T tk c k = fsL T2 tk c k := by
  intro k
  induction k with
  | zero => intro _; rfl
  | succ k ih =>
    intro h
    rw [fsL_s, fsL_s, ih (fun x h1 h2 => h x h1 (by omega))]
    by_cases c1 : 3000 ≤ tk (c + k) ∧ tk (c + k) < 4000
    · rw [if_pos c1, if_pos c1, h (c + k) (by omega) (by omega) c1.1 c1.2]
    · rw [if_neg c1, if_neg c1]
theorem fsL_b {T tk : Nat → Int} {c : Nat} : ∀ k, (∀ x, c ≤ x → x < c + k → 3000 ≤ tk x → tk x < 4000 → 0 ≤ T (tk x - 3000).toNat ∧ T (tk x - 3000).toNat ≤ 1000) → 0 ≤ fsL T tk c k ∧ fsL T tk c k ≤ 1000 * (k : Int) := by
  intro k
  induction k with
  | zero => intro _; show (0 : Int) ≤ 0 ∧ (0 : Int) ≤ 1000 * ((0 : Nat) : Int); omega
  | succ k ih =>
    intro h
    have h1 := ih (fun x h1 h2 => h x h1 (by omega))
    rw [fsL_s]
    by_cases c1 : 3000 ≤ tk (c + k) ∧ tk (c + k) < 4000
    · have := h (c + k) (by omega) (by omega) c1.1 c1.2
      rw [if_pos c1]; omega
    · rw [if_neg c1]; omega
section
variable {N : Nat}
theorem m_priceL {c d : Nat} {m : St} {K : Int → St → Option (Int × St)} (hd : d < 10000) (h1 : ∀ x, c ≤ x → x < d → m.1 31 x ≠ 5059 ∧ inR (m.1 31 x)) (h2 : m.1 31 d = 5059) (h3 : ∀ x, c ≤ x → x < d → m.1 31 x < 3000 ∨ 4000 ≤ m.1 31 x ∨ ∃ F : Nat, F < 100 ∧ m.1 31 x = 3000 + (F : Int)) : ∀ (j x q : Nat), x + j = d → c ≤ x → j < q → f_X12_priceOf_L4 N K q (fsL (m.1 25) (m.1 31) c (x - c)) x m = K (fsL (m.1 25) (m.1 31) c (d - c)) m := by
  intro j
  induction j with
  | zero =>
    intro x q hx hc hq
    obtain ⟨q, rfl⟩ : ∃ k, q = k + 1 := ⟨q - 1, by omega⟩
    have hxd : x = d := by omega
    subst hxd
    unfold f_X12_priceOf_L4
    simp only [lt1_k, jn1_k]
    rw [ixI_ok (by omega), Int.toNat_natCast, h2, cmpI_ok (by omega), if_pos rfl]
  | succ j ih =>
    intro x q hx hc hq
    obtain ⟨q, rfl⟩ : ∃ k, q = k + 1 := ⟨q - 1, by omega⟩
    have g1 := h1 x hc (by omega)
    rw [← ih (x + 1) q (by omega) (by omega) (by omega)]
    conv => lhs; unfold f_X12_priceOf_L4
    simp only [lt1_k, jn1_k]
    rw [ixI_ok (by omega), Int.toNat_natCast, cmpI_ok ⟨g1.2, by omega⟩, if_neg g1.1, ixI_ok (by omega), in_k g1.2 (by omega) (by omega), bdI_s, show x + 1 - c = (x - c) + 1 by omega, fsL_s, show c + (x - c) = x by omega, show (x : Int) + 1 = ((x + 1 : Nat) : Int) by omega]
    rcases h3 x hc (by omega) with g | g | ⟨F, g3, g⟩
    · rw [if_pos (Or.inl g), cmpI_ok (by omega), if_pos rfl, if_neg (by omega), Int.add_zero]
    · rw [if_pos (Or.inr (by omega)), cmpI_ok (by omega), if_pos rfl, if_neg (by omega), Int.add_zero]
    · rw [if_neg (by omega), cmpI_ok (by omega), if_neg (by decide), ixI_ok (by omega), ixI_ok (by omega), if_pos (by omega)]
/-- the price of an allowed step: both sides -/
theorem price_both {i : Nat} {t m : St} (hN : 10100 ≤ N) (hB : BK0 t m) (hi : (i : Int) < m.1 200 17) : f_X12_priceOf N (m.1 30 i) m = some (t.1 362 i, m) ∧ 0 ≤ t.1 362 i ∧ t.1 362 i ≤ 10100000 := by
  obtain ⟨_, hBn, hBc⟩ := hB
  obtain ⟨M, T, a, b, c, d, ⟨q1, q2, q3⟩, ⟨q4, q5⟩, ⟨q6, q7, q8, q9⟩, q10, q11, q12⟩ := hBc.2.2.2.1 i hi
  obtain ⟨⟨a0, c0, x1, x2, x3, x4, x5⟩, _, y3, _⟩ := hBn
  have hfg := q6.fg
  have hfc : ∀ x, c ≤ x → x < c + (d - c) → 3000 ≤ m.1 31 x → m.1 31 x < 4000 → T (m.1 31 x - 3000).toNat = m.1 25 (m.1 31 x - 3000).toNat ∧ 0 ≤ m.1 25 (m.1 31 x - 3000).toNat ∧ m.1 25 (m.1 31 x - 3000).toNat ≤ 1000 := fun x z1 z2 z3 z4 => by
    rcases hfg x z1 (by omega) with g | g | ⟨F, g1, g2⟩
    · omega
    · omega
    · obtain ⟨f, k, _, _, _, _, ⟨w1, w2⟩, _⟩ := hBc.2.1 F (by omega)
      rw [g2, show (3000 + (F : Int) - 3000).toNat = F by omega, q3 F g1, w1]
      exact ⟨rfl, w2⟩
  have hT := fsL_T (T := T) (T2 := m.1 25) (tk := m.1 31) (c := c) (d - c) (fun x z1 z2 z3 z4 => (hfc x z1 z2 z3 z4).1)
  have hb := fsL_b (T := m.1 25) (tk := m.1 31) (c := c) (d - c) (fun x z1 z2 z3 z4 => (hfc x z1 z2 z3 z4).2)
  have hL := m_priceL (N := N) (c := c) (d := d) (m := m) (K := fun (k14 : Int) (t15 : St) => some (k14, t15)) (by omega) (fun x z1 z2 => q6.ns (by omega) x z1 z2) q9 (fun x z1 z2 => by
    rcases hfg x z1 z2 with g | g | ⟨F, g1, g2⟩
    · exact Or.inl g
    · exact Or.inr (Or.inl g)
    · exact Or.inr (Or.inr ⟨F, by omega, g2⟩)) (d - c) c N (by have := q6.lt; omega) (Nat.le_refl _) (by omega)
  rw [q12, hT]
  refine ⟨?_, hb.1, by omega⟩
  unfold f_X12_priceOf
  rw [q11]
  rw [show c - c = 0 by omega] at hL
  exact hL
/-- prices of all allowed steps -/
theorem pr_lp {w : Nat} {t : St} (hN : 10100 ≤ N) (hw : w ≤ 32) : ∀ (j x q : Nat) (m : St), x + j = w → j < q → BK0 t m → m.1 200 98 = w → (w : Int) ≤ m.1 200 17 → ∃ v : St, (∀ K : St → Option (Int × St), f_X12_resolve_L84 N K q x m = K v) ∧ (∀ a, a ≠ 97 → v.1 a = m.1 a) ∧ (∀ i, i < x → v.1 97 i = m.1 97 i) ∧ (∀ i, x ≤ i → i < w → v.1 97 i = t.1 362 i ∧ 0 ≤ t.1 362 i ∧ t.1 362 i ≤ 10100000) ∧ v.2 = m.2 := by
  intro j
  induction j with
  | zero =>
    intro x q m hx hq hB h98 h17
    obtain ⟨q, rfl⟩ : ∃ k, q = k + 1 := ⟨q - 1, by omega⟩
    refine ⟨m, fun K => ?_, fun _ _ => rfl, fun _ _ => rfl, fun i h1 h2 => by omega, rfl⟩
    unfold f_X12_resolve_L84
    simp only [lt1_k]
    rw [h98, cmpI_ok (by omega), if_neg (by omega)]
  | succ j ih =>
    intro x q m hx hq hB h98 h17
    obtain ⟨q, rfl⟩ : ∃ k, q = k + 1 := ⟨q - 1, by omega⟩
    have hp := price_both (N := N) (i := x) hN hB (by omega)
    have hB2 : BK0 t (pI m 97 x (t.1 362 x)) := hB.sx SHg.rf.x ⟨fun y _ _ _ _ z5 _ _ => pI_ne (by omega), fun b _ _ _ _ _ _ _ _ _ => by rw [pI_ne (by decide)], fun _ _ _ _ => rfl⟩
    obtain ⟨v, a1, a2, a3, a4, a5⟩ := ih (x + 1) q (pI m 97 x (t.1 362 x)) (by omega) (by omega) hB2 (by rw [pI_ne (by decide)]; exact h98) (by rw [pI_ne (by decide)]; exact h17)
    refine ⟨v, fun K => ?_, fun a ha => by rw [a2 a ha, pI_ne ha], fun i hi => by rw [a3 i (by omega), pI_nf (by omega)], fun i h1 h2 => ?_, a5⟩
    · rw [← a1 K]
      conv => lhs; unfold f_X12_resolve_L84
      simp only [lt1_k]
      rw [h98, cmpI_ok (by omega), if_pos (by omega), ixI_ok (by omega), Int.toNat_natCast, hp.1, bdI_s, ixI_ok (by omega), show (x : Int) + 1 = ((x + 1 : Nat) : Int) by omega]
    · by_cases hix : i = x
      · rw [hix, a3 x (by omega), pI_at]; exact ⟨rfl, hp.2⟩
      · exact a4 i (by omega) h2
/-- the model's arrays of ways and prices, cleared -/
theorem wz_lp {S a : Nat} (hS : S ≤ 2000) (ha : a < S) : ∀ (j x q : Nat) (m : St), x + j = S → j < q → m.1 200 90 = S → m.1 200 99 = a → ∃ v : St, (∀ K : St → Option (Int × St), f_X12_resolve_L120 K q x m = K v) ∧ (∀ b, b ≠ 96 → v.1 b = m.1 b) ∧ (∀ b, b ≠ 95 → v.2 b = m.2 b) ∧ (∀ z, z < x → v.1 96 z = m.1 96 z ∧ v.2 95 z = m.2 95 z) ∧ (∀ z, x ≤ z → z < S → v.1 96 z = 0 ∧ v.2 95 z = if z = a then 1 else 0) := by
  intro j
  induction j with
  | zero =>
    intro x q m hx hq h90 h99
    obtain ⟨q, rfl⟩ : ∃ k, q = k + 1 := ⟨q - 1, by omega⟩
    refine ⟨m, fun K => ?_, fun _ _ => rfl, fun _ _ => rfl, fun _ _ => ⟨rfl, rfl⟩, fun i h1 h2 => by omega⟩
    unfold f_X12_resolve_L120
    simp only [lt1_k, jn1_k]
    rw [h90, cmpI_ok (by omega), if_neg (by omega)]
  | succ j ih =>
    intro x q m hx hq h90 h99
    obtain ⟨q, rfl⟩ : ∃ k, q = k + 1 := ⟨q - 1, by omega⟩
    obtain ⟨w9, hw9⟩ : ∃ w9 : Int64, w9 = if x = a then 1 else 0 := ⟨_, rfl⟩
    have e200 : (pI (pL m 95 x w9) 96 x 0).1 200 = m.1 200 := by rw [pI_ne (by decide)]; rfl
    obtain ⟨v, a1, a2, a3, a4, a5⟩ := ih (x + 1) q (pI (pL m 95 x w9) 96 x 0) (by omega) (by omega) (by rw [e200]; exact h90) (by rw [e200]; exact h99)
    refine ⟨v, fun K => ?_, fun b hb => by rw [a2 b hb, pI_ne hb]; rfl, fun b hb => by rw [a3 b hb]; show (pL m 95 x w9).2 b = m.2 b; rw [pL_ne hb], fun z hz => ?_, fun z h1 h2 => ?_⟩
    · rw [← a1 K]
      conv => lhs; unfold f_X12_resolve_L120
      simp only [lt1_k, jn1_k]
      rw [h90, cmpI_ok (by omega), if_pos (by omega), h99, cmpI_ok (by omega), ixI_ok (by omega), ixI_ok (by omega), Int.toNat_natCast, show (x : Int) + 1 = ((x + 1 : Nat) : Int) by omega]
      by_cases hxa : x = a
      · rw [if_pos (by omega), hw9, if_pos hxa]
      · rw [if_neg (by omega), ixI_ok (by omega), ixI_ok (by omega), hw9, if_neg hxa]
    · rw [(a4 z (by omega)).1, (a4 z (by omega)).2, pI_nf (by omega)]
      refine ⟨rfl, ?_⟩
      show (pL m 95 x w9).2 95 z = m.2 95 z
      rw [pL_nf (by omega)]
    · by_cases hzx : z = x
      · rw [hzx, (a4 x (by omega)).1, (a4 x (by omega)).2, pI_at]
        refine ⟨rfl, ?_⟩
        show (pL m 95 x w9).2 95 x = _
        rw [pL_at, hw9]
      · exact a5 z (by omega) h2
end
