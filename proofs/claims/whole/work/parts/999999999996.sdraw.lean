/-! a row is drawn -/
theorem hp_nat {AR ARl BR BRl Rh Rl : Nat} (h1 : AR ≤ 4294967295 * Rh) (h2 : ARl ≤ 4294967295 * Rl) (h3 : BR ≤ 4294967295 * Rh) (h4 : BRl ≤ 4294967295 * Rl) (hR : 0 < Rh * 4294967296 + Rl) : AR + (ARl + BRl / 4294967296) / 4294967296 + (BR + (ARl + BRl / 4294967296) % 4294967296) / 4294967296 < Rh * 4294967296 + Rl := by
  obtain ⟨q, hq⟩ : ∃ q, q = BRl / 4294967296 := ⟨_, rfl⟩
  rw [← hq]
  have q1 : q ≤ Rl ∧ (1 ≤ Rl → q + 1 ≤ Rl) := by omega
  clear hq h4
  obtain ⟨X, hX⟩ : ∃ X, X = ARl + q := ⟨_, rfl⟩
  rw [← hX]
  have hXb : X + 1 ≤ 4294967296 * Rl ∨ (Rl = 0 ∧ X = 0) := by omega
  clear h2 q1
  obtain ⟨Xh, hXh⟩ : ∃ Xh, Xh = X / 4294967296 := ⟨_, rfl⟩
  obtain ⟨Xl, hXl⟩ : ∃ Xl, Xl = X % 4294967296 := ⟨_, rfl⟩
  rw [← hXh, ← hXl]
  have hs : X = 4294967296 * Xh + Xl := by omega
  clear hXh hXl hX
  obtain ⟨Y, hY⟩ : ∃ Y, Y = (BR + Xl) / 4294967296 := ⟨_, rfl⟩
  rw [← hY]
  have hY2 : 4294967296 * Y ≤ BR + Xl := by omega
  clear hY
  have h5 : 4294967296 * (Xh + Y) ≤ X + 4294967295 * Rh := by omega
  have h6 : Xh + Y < Rl + Rh := by omega
  omega
theorem uq_mul {a b : Int64} (h : uq a * uq b < 18446744073709551616) : uq (a * b) = uq a * uq b := by
  have : uq (a * b) = uq a * uq b % 18446744073709551616 := by unfold uq; rw [Int64.toBitVec_mul, BitVec.toNat_mul]
  rw [this, Nat.mod_eq_of_lt h]
theorem uq_low {a : Int64} : uq (a &&& (4294967295 : Int64)) = uq a % 4294967296 := by
  rw [uq_and, show uq (4294967295 : Int64) = 2 ^ 32 - 1 from by decide, Nat.and_two_pow_sub_one_eq_mod]
theorem uq_hi {a : Int64} : uq (ushrL a 32) = uq a / 4294967296 := by
  have := uq_shr (a := a) (v := 32) (by omega)
  exact this
theorem uq_addS {a b : Int64} (h : uq a + uq b < 18446744073709551616) : uq (a + b) = uq a + uq b := by
  rw [uq_add, Nat.mod_eq_of_lt h]
/-- the drawn number is below the number of rows -/
theorem hp_lt {a b r : Int64} (hr : 0 < uq r) (hr2 : uq r ≤ 1152921504606846976) : uq (((((a &&& (4294967295 : Int64)) * (ushrL r 32)) + (ushrL (((a &&& (4294967295 : Int64)) * (r &&& (4294967295 : Int64))) + (ushrL ((b &&& (4294967295 : Int64)) * (r &&& (4294967295 : Int64))) 32)) 32)) + (ushrL (((b &&& (4294967295 : Int64)) * (ushrL r 32)) + ((((a &&& (4294967295 : Int64)) * (r &&& (4294967295 : Int64))) + (ushrL ((b &&& (4294967295 : Int64)) * (r &&& (4294967295 : Int64))) 32)) &&& (4294967295 : Int64))) 32))) < uq r := by
  generalize hA : (a &&& (4294967295 : Int64)) = A
  generalize hB : (b &&& (4294967295 : Int64)) = B
  generalize hH : ushrL r 32 = H
  generalize hL : (r &&& (4294967295 : Int64)) = L
  have eA : uq A ≤ 4294967295 := by rw [← hA, uq_low]; omega
  have eB : uq B ≤ 4294967295 := by rw [← hB, uq_low]; omega
  have eH : uq H = uq r / 4294967296 := by rw [← hH, uq_hi]
  have eL : uq L = uq r % 4294967296 := by rw [← hL, uq_low]
  have hHb : uq H ≤ 268435456 := by rw [eH]; omega
  have hLb : uq L ≤ 4294967295 := by rw [eL]; omega
  have hrr : uq r = uq H * 4294967296 + uq L := by rw [eH, eL]; omega
  clear hA hB hH hL eH eL
  have p1 : uq A * uq H ≤ 4294967295 * uq H := Nat.mul_le_mul_right _ eA
  have p2 : uq A * uq L ≤ 4294967295 * uq L := Nat.mul_le_mul_right _ eA
  have p3 : uq B * uq H ≤ 4294967295 * uq H := Nat.mul_le_mul_right _ eB
  have p4 : uq B * uq L ≤ 4294967295 * uq L := Nat.mul_le_mul_right _ eB
  have m1 : uq (A * H) = uq A * uq H := uq_mul (by omega)
  have m2 : uq (A * L) = uq A * uq L := uq_mul (by omega)
  have m3 : uq (B * H) = uq B * uq H := uq_mul (by omega)
  have m4 : uq (B * L) = uq B * uq L := uq_mul (by omega)
  have key := hp_nat p1 p2 p3 p4 (by omega)
  generalize uq A * uq H = AR at *
  generalize uq A * uq L = ARl at *
  generalize uq B * uq H = BR at *
  generalize uq B * uq L = BRl at *
  have x1 : uq (A * L + ushrL (B * L) 32) = ARl + BRl / 4294967296 := by
    rw [uq_addS (by rw [m2, uq_hi, m4]; omega), m2, uq_hi, m4]
  have x2 : uq (B * H + (A * L + ushrL (B * L) 32 &&& 4294967295)) = BR + (ARl + BRl / 4294967296) % 4294967296 := by
    rw [uq_addS (by rw [m3, uq_low, x1]; omega), m3, uq_low, x1]
  have x3 : uq (A * H + ushrL (A * L + ushrL (B * L) 32) 32) = AR + (ARl + BRl / 4294967296) / 4294967296 := by
    rw [uq_addS (by rw [m1, uq_hi, x1]; omega), m1, uq_hi, x1]
  rw [uq_addS (by rw [x3, uq_hi, x2]; omega), x3, uq_hi, x2, hrr]
  exact key
section
variable {N : Nat} {t m : St}
theorem FND.rw1 {L S w a : Nat} {B : Nat → Nat} (h : FND L S w a B t m) : 0 < uq (m.2 200 100) ∧ uq (m.2 200 100) ≤ 1152921504606846976 := by
  obtain ⟨h1, h2, ⟨h3, h4, h5⟩, _⟩ := h
  have hX := h1.1
  have hb := hX.2.1
  have hwy := h1.wy (j := 0) (z := 0) (by omega) (by rw [hb.1]; omega) (by rw [hb.2.1]; omega)
  rw [h5]
  have h6 : uq (m.2 95 0) ≠ 0 := fun h => h2 (uq_inj (by rw [h]; decide))
  exact ⟨by omega, Nat.le_trans hwy.2.2.2 (p32 (by have := hX.1; omega))⟩
theorem row_both {k : Int} (hk : inR k) (hN : 1000 ≤ N) (h : GRs t m) : ∃ (x : Int) (u v : St), f_X11_row N k t = some (x, u) ∧ f_X12_row N k m = some (x, v) ∧ GRs u v ∧ RWh t u ∧ RWm m v := by
  have h0 := rows_both (N := N) h
  have hof : (Int64.ofInt k).toInt = k := by rw [Int64.toInt_ofInt, show Int64.size = 18446744073709551616 from rfl]; exact Int.bmod_eq_of_le (by omega) (by omega)
  have hlt0 : Int64.ofInt k < 0 ↔ k < 0 := by rw [Int64.lt_iff_toInt_lt, hof, show (0 : Int64).toInt = 0 from by decide]
  unfold f_X11_row f_X12_row
  simp only [lt1_k]
  rw [rnI_ok hk, cmpI_ok ⟨hk, by omega⟩]
  by_cases c1 : k < 0
  · refine ⟨0, t, m, ?_, ?_, h, RWh.rf, RWm.rf⟩
    · unfold f_X9_choose
      rw [if_pos (hlt0.mpr c1), boI_0, bdI_s, boI_0]
    · rw [if_pos c1, boI_0]
  · rw [if_neg c1]
    by_cases c2 : Int64.ofInt k < m.2 200 100
    · rcases h0.2 with h9 | ⟨L, S, w, a, B, hF⟩
      · rw [h9] at c2
        exact absurd (hlt0.mp c2) c1
      · have hw := hF.rw1
        have hku : uq (Int64.ofInt k) = k.toNat := by
          have := uq_ofI (b := k.toNat) (by omega)
          rw [show ((k.toNat : Nat) : Int) = k by omega] at this
          exact this
        have hr : uq (Int64.ofInt k) < uq (m.2 200 100) := (lt64 (by omega) (by omega)).mp c2
        obtain ⟨u, v, a1, a2, a3, a4, a5⟩ := choose_both (N := N) hN hF hr
        refine ⟨1, u, v, ?_, ?_, a3, a4, a5⟩
        · rw [a1, bdI_s, boI_1]
        · rw [if_pos c2, a2, bdV_s, boI_1, rnI_ok hk, rnI_ok hk]
    · refine ⟨0, t, m, ?_, ?_, h, RWh.rf, RWm.rf⟩
      · unfold f_X9_choose
        rw [if_neg (fun hh => c1 (hlt0.mp hh)), h0.1, bdL_s, if_neg c2, boI_0, bdI_s, boI_0]
      · rw [if_neg c2, boI_0, rnI_ok hk]
theorem draw_both {a b : Int} (ha : inR a) (hb : inR b) (hN : 1000 ≤ N) (h : GRs t m) : ∃ (x : Int) (u v : St), f_X11_draw N a b t = some (x, u) ∧ f_X12_draw N a b m = some (x, v) ∧ GRs u v ∧ RWh t u ∧ RWm m v := by
  have h0 := rows_both (N := N) h
  unfold f_X11_draw f_X12_draw f_X11_highProduct
  simp only [lt1_k]
  rw [rnI_ok ha, rnI_ok hb, h0.1, bdL_s, bdL_s]
  rcases h with hn | ⟨L, S, w, a9, B, hF⟩
  · have hz : m.2 200 100 = 0 := hn.2.2.1
    refine ⟨0, t, m, ?_, ?_, Or.inl hn, RWh.rf, RWm.rf⟩
    · rw [hz]
      generalize (Int64.ofInt a &&& (4294967295 : Int64)) = A
      generalize (Int64.ofInt b &&& (4294967295 : Int64)) = B
      have e1 : ushrL (0 : Int64) 32 = 0 := by decide
      have e2 : ((0 : Int64) &&& 4294967295) = 0 := by decide
      rw [e1, e2, Int64.mul_zero, Int64.mul_zero, e1, Int64.add_zero, e1, e2, Int64.add_zero, e1, Int64.add_zero]
      unfold f_X9_choose
      rw [if_neg (by decide), h0.1, hz, bdL_s, if_neg (by decide), boI_0, bdI_s, boI_0]
    · rw [if_pos hz, boI_0]
  · have hw := hF.rw1
    have hlt := hp_lt (a := Int64.ofInt a) (b := Int64.ofInt b) (r := m.2 200 100) hw.1 hw.2
    obtain ⟨u, v, a1, a2, a3, a4, a5⟩ := choose_both (N := N) hN hF hlt
    have hne : m.2 200 100 ≠ 0 := fun h => by rw [h] at hw; exact absurd hw.1 (by decide)
    refine ⟨1, u, v, ?_, ?_, a3, a4, a5⟩
    · rw [a1, bdI_s, boI_1]
    · rw [if_neg hne, a2, bdV_s, boI_1, rnI_ok hb, rnI_ok ha]
end
