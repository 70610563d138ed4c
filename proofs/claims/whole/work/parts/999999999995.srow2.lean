/-! a row is told by number, drawn, the cheapest chosen: both sides -/
section
variable {N L S w a : Nat} {B : Nat → Nat}
theorem ch_lp (hN : 1000 ≤ N) : ∀ (d k s : Nat) (r : Int64) (t m : St), k + d = L → DNk L S w a 0 B t m → t.1 310 14 = L → m.1 200 91 = L → (B k ≤ s ∧ s < B (k + 1)) → uq r < uq (m.2 95 s) →
    ∃ u v : St, (∀ x, x ≠ 438 → u.1 x = t.1 x) ∧ (∀ i, i < k → u.1 438 i = t.1 438 i) ∧ u.2 = t.2 ∧ (∀ x, x ≠ 103 → v.1 x = m.1 x) ∧ (∀ i, i < k → v.1 103 i = m.1 103 i) ∧ v.2 = m.2 ∧ (∀ i, k ≤ i → i < L → u.1 438 i = v.1 103 i ∧ 0 ≤ v.1 103 i ∧ v.1 103 i < w) ∧ (∀ (K : St → Option (Int × St)) (q : Nat), f_X9_choose_L25 N K (q + d + 1) r s k t = K u) ∧ ∀ (K' : St → Option St) (q : Nat), f_X12_finds_L8 N K' (q + d + 1) r s k m = K' v := by
  intro d
  induction d with
  | zero =>
    intro k s r t m hk h h14 h91 hs hr
    have hX0 := h.1.1
    refine ⟨t, m, fun _ _ => rfl, fun _ _ => rfl, rfl, fun _ _ => rfl, fun _ _ => rfl, rfl, fun i h1 h2 => by omega, fun K q => ?_, fun K' q => ?_⟩
    · unfold f_X9_choose_L25
      simp only [lt1_k]
      rw [h14, cmpI_ok (by omega), if_neg (by omega)]
    · unfold f_X12_finds_L8
      simp only [lt1_k]
      rw [h91, cmpI_ok (by omega), if_neg (by omega)]
  | succ d ih =>
    intro k s r t m hk h h14 h91 hs hr
    have hX := h.1
    have hX0 := hX.1
    have m1 : B (k + 1) ≤ S := by rw [← hX.2.1.2.2]; exact hX.mono (by omega) (by omega)
    have m2 : B (k + 1) ≤ B L := hX.mono (by omega) (by omega)
    have hws : uq (m.2 95 s) = nsm m s w := (h.2.2.2.2.1 s (by rw [hX.2.1.1]; omega) (by omega)).1
    obtain ⟨j, z, r2, j1, j2, j3, j4, j5, j6, j7, j8⟩ := ch_in (N := N) h (show k < L by omega) hs w 0 r (by omega) (by show uq r + 0 < _; omega)
    have j7' := fun K14 K15 => j7 K14 K15 (N - w - 1)
    have j8' := fun K12 => j8 K12 (N - w - 1)
    rw [show N - w - 1 + w + 1 = N by omega] at j7' j8'
    have hD : DNk L S w a 0 B (pI t 438 k j) (pI m 103 k j) := h.c (by rw [pI_ne (by decide)]) (by rw [pI_ne (by decide)]) (fun i _ => by rw [pI_ne (by decide)]) (by rw [pI_ne (by decide)]) (by rw [pI_ne (by decide)]) rfl (by rw [pI_ne (by decide)]) (by rw [pI_ne (by decide)]) rfl (by rw [pI_ne (by decide)]) (by rw [pI_ne (by decide)]) ⟨by rw [pI_ne (by decide)], by rw [pI_ne (by decide)]⟩
    obtain ⟨u, v, a1, a2, a3, a4, a5, a6, a7, a8, a9⟩ := ih (k + 1) z r2 (pI t 438 k j) (pI m 103 k j) (by omega) hD (by rw [pI_ne (by decide)]; exact h14) (by rw [pI_ne (by decide)]; exact h91) ⟨j3, j4⟩ j6
    refine ⟨u, v, fun x hx => by rw [a1 x hx, pI_ne hx], fun i hi => by rw [a2 i (by omega), pI_nf (by omega)], a3, fun x hx => by rw [a4 x hx, pI_ne hx], fun i hi => by rw [a5 i (by omega), pI_nf (by omega)], a6, fun i h1 h2 => ?_, fun K q => ?_, fun K' q => ?_⟩
    · by_cases hik : i = k
      · rw [hik, a2 k (by omega), a5 k (by omega), pI_at, pI_at]; exact ⟨rfl, by omega, by omega⟩
      · exact a7 i (by omega) h2
    · rw [← a8 K q, show q + (d + 1) + 1 = (q + d + 1) + 1 by omega]
      conv => lhs; unfold f_X9_choose_L25
      simp only [lt1_k]
      rw [h14, cmpI_ok (by omega), if_pos (by omega), show (0 : Int) = ((0 : Nat) : Int) from rfl, j7', ixI_ok (by omega), Int.toNat_natCast, show (k : Int) + 1 = ((k + 1 : Nat) : Int) by omega]
    · rw [← a9 K' q, show q + (d + 1) + 1 = (q + d + 1) + 1 by omega]
      conv => lhs; unfold f_X12_finds_L8
      simp only [lt1_k]
      rw [h91, cmpI_ok (by omega), if_pos (by omega), show (0 : Int) = ((0 : Nat) : Int) from rfl, j8', ixI_ok (by omega), ixI_ok (by omega), Int.toNat_natCast, show (32 * (s : Int) + (j : Int)).toNat = 32 * s + j by omega, pI_ne (by decide), show m.1 94 (32 * s + j) = z from j2, show (k : Int) + 1 = ((k + 1 : Nat) : Int) by omega]
theorem ce_lp (hN : 1000 ≤ N) : ∀ (d k s : Nat) (t m : St), k + d = L → DNk L S w a 0 B t m → t.1 310 14 = L → m.1 200 91 = L → (B k ≤ s ∧ s < B (k + 1)) → m.2 95 s ≠ 0 →
    ∃ u v : St, (∀ x, x ≠ 438 → u.1 x = t.1 x) ∧ (∀ i, i < k → u.1 438 i = t.1 438 i) ∧ u.2 = t.2 ∧ (∀ x, x ≠ 103 → v.1 x = m.1 x) ∧ (∀ i, i < k → v.1 103 i = m.1 103 i) ∧ v.2 = m.2 ∧ (∀ i, k ≤ i → i < L → u.1 438 i = v.1 103 i ∧ 0 ≤ v.1 103 i ∧ v.1 103 i < w) ∧ (∀ (K : St → Option (Int × St)) (q : Nat), f_X9_chooseCheapest_L13 N K (q + d + 1) s k t = K u) ∧ ∀ (K' : St → Option (Int × St)) (q : Nat), f_X12_cheapest_L15 N K' (q + d + 1) s k m = K' v := by
  intro d
  induction d with
  | zero =>
    intro k s t m hk h h14 h91 hs hr
    have hX0 := h.1.1
    refine ⟨t, m, fun _ _ => rfl, fun _ _ => rfl, rfl, fun _ _ => rfl, fun _ _ => rfl, rfl, fun i h1 h2 => by omega, fun K q => ?_, fun K' q => ?_⟩
    · unfold f_X9_chooseCheapest_L13
      simp only [lt1_k]
      rw [h14, cmpI_ok (by omega), if_neg (by omega)]
    · unfold f_X12_cheapest_L15
      simp only [lt1_k]
      rw [h91, cmpI_ok (by omega), if_neg (by omega)]
  | succ d ih =>
    intro k s t m hk h h14 h91 hs hr
    have hX := h.1
    have hX0 := hX.1
    have m1 : B (k + 1) ≤ S := by rw [← hX.2.1.2.2]; exact hX.mono (by omega) (by omega)
    have m2 : B (k + 1) ≤ B L := hX.mono (by omega) (by omega)
    obtain ⟨i0, i1, i2, i3⟩ := (h.2.2.2.2.1 s (by rw [hX.2.1.1]; omega) (by omega)).2 hr
    obtain ⟨j, z, j1, j2, j3, j4, j5, j6, j7, j8⟩ := ce_in (N := N) h (show k < L by omega) hs hr w 0 (by omega) ⟨i0, by omega, i1, i2, i3⟩
    have j7' := fun K14 K15 => j7 K14 K15 (N - w - 1)
    have j8' := fun K12 => j8 K12 (N - w - 1)
    rw [show N - w - 1 + w + 1 = N by omega] at j7' j8'
    have hD : DNk L S w a 0 B (pI t 438 k j) (pI m 103 k j) := h.c (by rw [pI_ne (by decide)]) (by rw [pI_ne (by decide)]) (fun i _ => by rw [pI_ne (by decide)]) (by rw [pI_ne (by decide)]) (by rw [pI_ne (by decide)]) rfl (by rw [pI_ne (by decide)]) (by rw [pI_ne (by decide)]) rfl (by rw [pI_ne (by decide)]) (by rw [pI_ne (by decide)]) ⟨by rw [pI_ne (by decide)], by rw [pI_ne (by decide)]⟩
    obtain ⟨u, v, a1, a2, a3, a4, a5, a6, a7, a8, a9⟩ := ih (k + 1) z (pI t 438 k j) (pI m 103 k j) (by omega) hD (by rw [pI_ne (by decide)]; exact h14) (by rw [pI_ne (by decide)]; exact h91) ⟨j3, j4⟩ j6
    refine ⟨u, v, fun x hx => by rw [a1 x hx, pI_ne hx], fun i hi => by rw [a2 i (by omega), pI_nf (by omega)], a3, fun x hx => by rw [a4 x hx, pI_ne hx], fun i hi => by rw [a5 i (by omega), pI_nf (by omega)], a6, fun i h1 h2 => ?_, fun K q => ?_, fun K' q => ?_⟩
    · by_cases hik : i = k
      · rw [hik, a2 k (by omega), a5 k (by omega), pI_at, pI_at]; exact ⟨rfl, by omega, by omega⟩
      · exact a7 i (by omega) h2
    · rw [← a8 K q, show q + (d + 1) + 1 = (q + d + 1) + 1 by omega]
      conv => lhs; unfold f_X9_chooseCheapest_L13
      simp only [lt1_k]
      rw [h14, cmpI_ok (by omega), if_pos (by omega), show (0 : Int) = ((0 : Nat) : Int) from rfl, j7', ixI_ok (by omega), Int.toNat_natCast, show (k : Int) + 1 = ((k + 1 : Nat) : Int) by omega]
    · rw [← a9 K' q, show q + (d + 1) + 1 = (q + d + 1) + 1 by omega]
      conv => lhs; unfold f_X12_cheapest_L15
      simp only [lt1_k]
      rw [h91, cmpI_ok (by omega), if_pos (by omega), show (0 : Int) = ((0 : Nat) : Int) from rfl, j8', ixI_ok (by omega), ixI_ok (by omega), Int.toNat_natCast, show (32 * (s : Int) + (j : Int)).toNat = 32 * s + j by omega, pI_ne (by decide), show m.1 94 (32 * s + j) = z from j2, show (k : Int) + 1 = ((k + 1 : Nat) : Int) by omega]
end
/-- what choosing a row changes -/
def RWh (t u : St) : Prop := (∀ x, x ≠ 438 → x ≠ 310 → u.1 x = t.1 x) ∧ (∀ b, b ≠ 16 → b ≠ 17 → u.1 310 b = t.1 310 b) ∧ u.2 = t.2
def RWm (m v : St) : Prop := (∀ x, x ≠ 103 → x ≠ 200 → v.1 x = m.1 x) ∧ (∀ b, b ≠ 101 → b ≠ 102 → v.1 200 b = m.1 200 b) ∧ v.2 = m.2
theorem RWh.rf {t : St} : RWh t t := ⟨fun _ _ _ => rfl, fun _ _ _ => rfl, rfl⟩
theorem RWm.rf {t : St} : RWm t t := ⟨fun _ _ _ => rfl, fun _ _ _ => rfl, rfl⟩
section
variable {N : Nat} {t m : St}
/-- rows: how many there are -/
theorem rows_both (h : GRs t m) : f_X9_countRows N t = some (m.2 200 100, t) ∧ (m.2 200 100 = 0 ∨ ∃ (L S w a : Nat) (B : Nat → Nat), FND L S w a B t m) := by
  unfold f_X9_countRows
  simp only [lt1_k]
  rcases h with ⟨h1, h2, h3, _⟩ | ⟨L, S, w, a, B, h1⟩
  · rw [h1, cmpI_ok (by omega), if_pos (by omega), h3]
    exact ⟨rfl, Or.inl rfl⟩
  · have hX := h1.1.1
    have hb := hX.2.1
    have hwy := h1.1.wy (j := 0) (z := 0) (by omega) (by rw [hb.1]; omega) (by rw [hb.2.1]; omega)
    rw [h1.2.2.1.1, cmpI_ok (by have := hX.1; omega), if_neg (by omega), ixI_ok (by omega), show (0 : Int).toNat = 0 from rfl, hwy.1, h1.2.2.1.2.2]
    exact ⟨rfl, Or.inr ⟨L, S, w, a, B, h1⟩⟩
/-- the row of number r -/
theorem choose_both {L S w a : Nat} {B : Nat → Nat} {r : Int64} (hN : 1000 ≤ N) (h : FND L S w a B t m) (hr : uq r < uq (m.2 200 100)) : ∃ u v : St, f_X9_choose N r t = some (1, u) ∧ f_X12_finds N r m = some v ∧ GRs u v ∧ RWh t u ∧ RWm m v := by
  have hr0 := rows_both (N := N) (Or.inr ⟨L, S, w, a, B, h⟩ : GRs t m)
  obtain ⟨h1, h2, ⟨h3, h4, h5⟩, h6, h7⟩ := h
  have hX := h1.1
  have hX0 := hX.1
  have hb := hX.2.1
  have hwy := h1.wy (j := 0) (z := 0) (by omega) (by rw [hb.1]; omega) (by rw [hb.2.1]; omega)
  have hu := hwy.u63 hX0.1
  rw [← h5] at hu
  obtain ⟨u, v, a1, a2, a3, a4, a5, a6, a7, a8, a9⟩ := ch_lp (N := N) hN L 0 0 r t m (by omega) h1 h3 h4 ⟨by rw [hb.1]; omega, by rw [hb.2.1]; omega⟩ (by rw [← h5]; exact hr)
  have a8' := fun K => a8 K (N - L - 1)
  have a9' := fun K => a9 K (N - L - 1)
  rw [show N - L - 1 + L + 1 = N by omega] at a8' a9'
  have u14 : u.1 310 14 = L := by rw [a1 310 (by decide)]; exact h3
  have v91 : v.1 200 91 = L := by rw [a4 200 (by decide)]; exact h4
  refine ⟨pI (pI u 310 16 1) 310 17 0, pI (pI v 200 101 L) 200 102 0, ?_, ?_, Or.inr ⟨L, S, w, a, B, ?_, ?_, ⟨?_, ?_, ?_⟩, ?_, Or.inr ⟨?_, ?_, ?_, ?_, ?_, ?_⟩⟩, ⟨fun x z1 z2 => by rw [pI_ne z2, pI_ne z2, a1 x z1], fun b z1 z2 => by rw [pI_nf z2, pI_nf z1, a1 310 (by decide)], a3⟩, ⟨fun x z1 z2 => by rw [pI_ne z2, pI_ne z2, a4 x z1], fun b z1 z2 => by rw [pI_nf z2, pI_nf z1, a4 200 (by decide)], a6⟩⟩
  · unfold f_X9_choose
    simp only [lt1_k]
    rw [if_neg (by rw [Int64.lt_iff_toInt_lt, uq_toI (by omega), show (0 : Int64).toInt = 0 from by decide]; omega), hr0.1, bdL_s, if_pos ((lt64 (by omega) hu).mpr hr), show (0 : Int) = ((0 : Nat) : Int) from rfl, a8', boI_1, boI_1]
  · unfold f_X12_finds
    simp only [lt1_k]
    rw [show (0 : Int) = ((0 : Nat) : Int) from rfl, a9', v91]
  · exact h1.c (by rw [pI_ne (by decide), pI_ne (by decide), a1 433 (by decide)]) (by rw [pI_ne (by decide), pI_ne (by decide), a1 432 (by decide)]) (fun i _ => by rw [pI_ne (by decide), pI_ne (by decide), a1 362 (by decide)]) (by rw [pI_nf (by decide), pI_nf (by decide), a1 310 (by decide)]) (by rw [pI_ne (by decide), pI_ne (by decide), a1 435 (by decide)]) (by show u.2 434 = t.2 434; rw [a3]) (by rw [pI_ne (by decide), pI_ne (by decide), a4 94 (by decide)]) (by rw [pI_ne (by decide), pI_ne (by decide), a4 93 (by decide)]) (by show v.2 95 = m.2 95; rw [a6]) (by rw [pI_ne (by decide), pI_ne (by decide), a4 96 (by decide)]) (by rw [pI_ne (by decide), pI_ne (by decide), a4 97 (by decide)]) ⟨by rw [pI_nf (by decide), pI_nf (by decide), a4 200 (by decide)], by rw [pI_nf (by decide), pI_nf (by decide), a4 200 (by decide)]⟩
  · show v.2 95 0 ≠ 0; rw [a6]; exact h2
  · rw [pI_nf (by decide), pI_nf (by decide)]; exact u14
  · rw [pI_nf (by decide), pI_nf (by decide)]; exact v91
  · show v.2 200 100 = v.2 95 0; rw [a6]; exact h5
  · rw [pI_nf (by decide), pI_nf (by decide), a4 200 (by decide)]; exact h6
  · rw [pI_nf (by decide), pI_at]
  · rw [pI_nf (by decide), pI_at]
  · rw [pI_at, pI_at]
  · rw [pI_at]; omega
  · rw [pI_at]; omega
  · intro i hi
    rw [pI_ne (by decide), pI_ne (by decide), pI_ne (by decide), pI_ne (by decide)]
    exact a7 i (by omega) hi
/-- the cheapest row -/
theorem cheapest_both (hN : 1000 ≤ N) (h : GRs t m) : ∃ (x : Int) (u v : St), f_X11_cheapest N t = some (x, u) ∧ f_X12_cheapest N m = some (x, v) ∧ GRs u v ∧ RWh t u ∧ RWm m v := by
  rcases h with h0 | ⟨L, S, w, a, B, h1, h2, ⟨h3, h4, h5⟩, h6, h7⟩
  · refine ⟨-1, t, m, ?_, ?_, Or.inl h0, RWh.rf, RWm.rf⟩
    · unfold f_X11_cheapest f_X9_chooseCheapest
      simp only [lt1_k]
      rw [h0.1, cmpI_ok (by omega), if_pos (by omega), bdI_s]
    · unfold f_X12_cheapest
      simp only [lt1_k]
      rw [h0.2.2.1, if_pos rfl]
  · have hX := h1.1
    have hX0 := hX.1
    have hb := hX.2.1
    have hwy := h1.wy (j := 0) (z := 0) (by omega) (by rw [hb.1]; omega) (by rw [hb.2.1]; omega)
    obtain ⟨u, v, a1, a2, a3, a4, a5, a6, a7, a8, a9⟩ := ce_lp (N := N) hN L 0 0 t m (by omega) h1 h3 h4 ⟨by rw [hb.1]; omega, by rw [hb.2.1]; omega⟩ h2
    have a8' := fun K => a8 K (N - L - 1)
    have a9' := fun K => a9 K (N - L - 1)
    rw [show N - L - 1 + L + 1 = N by omega] at a8' a9'
    have u14 : u.1 310 14 = L := by rw [a1 310 (by decide)]; exact h3
    have v91 : v.1 200 91 = L := by rw [a4 200 (by decide)]; exact h4
    refine ⟨m.1 96 0, pI (pI u 310 16 1) 310 17 0, pI (pI v 200 101 L) 200 102 0, ?_, ?_, Or.inr ⟨L, S, w, a, B, ?_, ?_, ⟨?_, ?_, ?_⟩, ?_, Or.inr ⟨?_, ?_, ?_, ?_, ?_, ?_⟩⟩, ⟨fun x z1 z2 => by rw [pI_ne z2, pI_ne z2, a1 x z1], fun b z1 z2 => by rw [pI_nf z2, pI_nf z1, a1 310 (by decide)], a3⟩, ⟨fun x z1 z2 => by rw [pI_ne z2, pI_ne z2, a4 x z1], fun b z1 z2 => by rw [pI_nf z2, pI_nf z1, a4 200 (by decide)], a6⟩⟩
    · unfold f_X11_cheapest f_X9_chooseCheapest
      simp only [lt1_k]
      rw [h3, cmpI_ok (by omega), if_neg (by omega)]
      rw [show (0 : Int) = ((0 : Nat) : Int) from rfl, a8', boI_1, ixI_ok (by omega), Int.toNat_natCast, pI_ne (by decide), pI_ne (by decide), a1 435 (by decide), hwy.2.1 h2, bdI_s]
    · unfold f_X12_cheapest
      simp only [lt1_k]
      rw [h5, if_neg h2]
      rw [show (0 : Int) = ((0 : Nat) : Int) from rfl, a9', v91, ixI_ok (by omega), Int.toNat_natCast, pI_ne (by decide), pI_ne (by decide), a4 96 (by decide)]
    · exact h1.c (by rw [pI_ne (by decide), pI_ne (by decide), a1 433 (by decide)]) (by rw [pI_ne (by decide), pI_ne (by decide), a1 432 (by decide)]) (fun i _ => by rw [pI_ne (by decide), pI_ne (by decide), a1 362 (by decide)]) (by rw [pI_nf (by decide), pI_nf (by decide), a1 310 (by decide)]) (by rw [pI_ne (by decide), pI_ne (by decide), a1 435 (by decide)]) (by show u.2 434 = t.2 434; rw [a3]) (by rw [pI_ne (by decide), pI_ne (by decide), a4 94 (by decide)]) (by rw [pI_ne (by decide), pI_ne (by decide), a4 93 (by decide)]) (by show v.2 95 = m.2 95; rw [a6]) (by rw [pI_ne (by decide), pI_ne (by decide), a4 96 (by decide)]) (by rw [pI_ne (by decide), pI_ne (by decide), a4 97 (by decide)]) ⟨by rw [pI_nf (by decide), pI_nf (by decide), a4 200 (by decide)], by rw [pI_nf (by decide), pI_nf (by decide), a4 200 (by decide)]⟩
    · show v.2 95 0 ≠ 0; rw [a6]; exact h2
    · rw [pI_nf (by decide), pI_nf (by decide)]; exact u14
    · rw [pI_nf (by decide), pI_nf (by decide)]; exact v91
    · show v.2 200 100 = v.2 95 0; rw [a6]; exact h5
    · rw [pI_nf (by decide), pI_nf (by decide), a4 200 (by decide)]; exact h6
    · rw [pI_nf (by decide), pI_at]
    · rw [pI_nf (by decide), pI_at]
    · rw [pI_at, pI_at]
    · rw [pI_at]; omega
    · rw [pI_at]; omega
    · intro i hi
      rw [pI_ne (by decide), pI_ne (by decide), pI_ne (by decide), pI_ne (by decide)]
      exact a7 i (by omega) hi
/-- the chosen steps -/
theorem found_both {i : Int} (hi : inR i) (h : GRs t m) : ∃ x : Int, f_X9_chosenStep N i t = some (x, t) ∧ f_X12_found N i m = some (x, m) := by
  have none1 : t.1 310 16 = 0 → m.1 200 101 = -1 → ∃ x : Int, f_X9_chosenStep N i t = some (x, t) ∧ f_X12_found N i m = some (x, m) := fun g1 g2 => by
    refine ⟨-1, ?_, ?_⟩
    · unfold f_X9_chosenStep
      simp only [lt1_k]
      rw [g1, cmpI_ok (by omega), if_pos rfl]
    · unfold f_X12_found
      simp only [lt1_k]
      rw [g2, in_k hi (by omega) (by omega), bdI_s, if_pos (by omega), cmpI_ok (by omega), if_pos rfl]
  rcases h with h0 | ⟨L, S, w, a, B, h1, h2, ⟨h3, h4, h5⟩, h6, h7⟩
  · exact none1 h0.2.1 h0.2.2.2.1
  · have hL := h1.1.1.1
    rcases h7 with h7 | ⟨c1, c2, c3, c4, c5, c6⟩
    · exact none1 h7.1 h7.2.1
    · unfold f_X9_chosenStep f_X12_found
      simp only [lt1_k]
      rw [c1, c2, h3, cmpI_ok (by omega), if_neg (by omega), in_k hi (by omega) (by omega), bdI_s]
      by_cases d1 : i < 0
      · exact ⟨-1, by rw [cmpI_ok (by omega), if_pos d1], by rw [if_pos (by omega), cmpI_ok (by omega), if_pos rfl]⟩
      · rw [cmpI_ok (by omega), if_neg d1]
        by_cases d2 : i < L
        · have := c6 i.toNat (by omega)
          exact ⟨m.1 103 i.toNat, by rw [cmpI_ok (by omega), if_pos d2, ixI_ok (by omega), this.1], by rw [if_neg (by omega), cmpI_ok (by omega), if_neg (by decide), ixI_ok (by omega)]⟩
        · exact ⟨-1, by rw [cmpI_ok (by omega), if_neg d2], by rw [if_pos (by omega), cmpI_ok (by omega), if_pos rfl]⟩
end
