/-! a row is told by number, the cheapest is chosen -/
theorem lt64 {a b : Int64} (ha : uq a < 9223372036854775808) (hb : uq b < 9223372036854775808) : a < b ↔ uq a < uq b := by
  rw [Int64.lt_iff_toInt_lt, uq_toI ha, uq_toI hb]
  omega
section
variable {N L S w a k s : Nat} {B : Nat → Nat} {t m : St}
theorem DNk.wy (h : DNk L S w a 0 B t m) {j z : Nat} (h1 : j ≤ L) (h2 : B j ≤ z) (h3 : z < B (j + 1)) : WY1 L t m j z := h.2.2.1 j z h1 h2 h3
theorem WY1.u63 {j z : Nat} (h : WY1 L t m j z) (hL : L ≤ 12) : uq (m.2 95 z) < 9223372036854775808 := by
  have := h.2.2.2
  have := p32 (x := L - j) (by omega)
  omega
/-- the step of the row that is asked for -/
theorem ch_in (h : DNk L S w a 0 B t m) (hk : k < L) (hs : B k ≤ s ∧ s < B (k + 1)) : ∀ (d i : Nat) (r : Int64), i + d = w → uq r + nsm m s i < nsm m s w →
    ∃ (j z : Nat) (r2 : Int64), j < w ∧ ld9 m s j = z ∧ B (k + 1) ≤ z ∧ z < B (k + 2) ∧ z < S ∧ uq r2 < uq (m.2 95 z) ∧
      (∀ (K14 : Int64 → Int → Int → St → Option (Int × St)) (K15 : Int64 → St → Option (Int × St)) (q : Nat), f_X9_choose_L37 N K14 K15 s k (q + d + 1) r i t = K14 r2 j z t) ∧ ∀ (K12 : Int64 → Int → St → Option St) (q : Nat), f_X12_finds_L20 N K12 s (q + d + 1) r i m = K12 r2 j m := by
  have hX := h.1
  have hX0 := hX.1
  have m1 : B (k + 1) ≤ S := by rw [← hX.2.1.2.2]; exact hX.mono (by omega) (by omega)
  have m2 : B (k + 1) ≤ B L := hX.mono (by omega) (by omega)
  have hW : ∀ z, B (k + 1) ≤ z → z < B (k + 2) → WY1 L t m (k + 1) z := fun z z1 z2 => h.wy (by omega) z1 z2
  have hws : uq (m.2 95 s) = nsm m s w := (h.2.2.2.2.1 s (by rw [hX.2.1.1]; omega) (by omega)).1
  have hwu := (h.wy (j := k) (z := s) (by omega) hs.1 hs.2).u63 hX0.1
  intro d
  induction d with
  | zero =>
    intro i r hi hr
    have : i = w := by omega
    rw [this] at hr
    omega
  | succ d ih =>
    intro i r hi hr
    have ex : (i : Int) + 1 = ((i + 1 : Nat) : Int) := by omega
    rcases on_both (N := N) hX hk hs hW (show i < w by omega) with ⟨c, z, z1, z2, z3, z4, z5, z6⟩ | ⟨c, z5, z6⟩
    · have hwz := hW z z2 z3
      have e94 : m.1 94 (32 * s + i) = z := z1
      have n2 : (32 * (s : Int) + i).toNat = 32 * s + i := by omega
      have hlt := lt64 (a := r) (b := m.2 95 z) (by omega) (hwz.u63 hX0.1)
      by_cases c9 : uq r < uq (m.2 95 z)
      · refine ⟨i, z, r, by omega, z1, z2, z3, z4, c9, fun K14 K15 q => ?_, fun K12 q => ?_⟩
        · rw [show q + (d + 1) + 1 = (q + d + 1) + 1 by omega]
          conv => lhs; unfold f_X9_choose_L37
          simp only [lt1_k, jn1_k]
          rw [hX.2.2.2.2.2.2, cmpI_ok (by omega), if_pos (by omega), z5, bdI_s, cmpI_ok (by omega), if_neg (by omega), ixI_ok (by omega), Int.toNat_natCast, hwz.1, if_pos (hlt.mpr c9)]
        · rw [show q + (d + 1) + 1 = (q + d + 1) + 1 by omega]
          conv => lhs; unfold f_X12_finds_L20
          simp only [lt1_k, jn1_k]
          rw [z6, bdI_s, cmpI_ok (by omega), if_neg (by omega), ixI_ok (by omega), n2, e94, ixI_ok (by omega), Int.toNat_natCast, if_pos (hlt.mpr c9)]
      · have hny := nsm_y c
        rw [z1, Int.toNat_natCast] at hny
        have hsub : uq (r - m.2 95 z) = uq r - uq (m.2 95 z) := uq_sub (by omega)
        obtain ⟨j, z', r2, j1, j2, j3, j4, j5, j6, j7, j8⟩ := ih (i + 1) (r - m.2 95 z) (by omega) (by rw [hsub, hny]; omega)
        refine ⟨j, z', r2, j1, j2, j3, j4, j5, j6, fun K14 K15 q => ?_, fun K12 q => ?_⟩
        · rw [← j7 K14 K15 q, show q + (d + 1) + 1 = (q + d + 1) + 1 by omega]
          conv => lhs; unfold f_X9_choose_L37
          simp only [lt1_k, jn1_k]
          rw [hX.2.2.2.2.2.2, cmpI_ok (by omega), if_pos (by omega), z5, bdI_s, cmpI_ok (by omega), if_neg (by omega), ixI_ok (by omega), Int.toNat_natCast, hwz.1, if_neg (fun h2 => c9 (hlt.mp h2)), if_neg (by omega), ixI_ok (by omega), ex, cmpI_ok (by omega)]
        · rw [← j8 K12 q, show q + (d + 1) + 1 = (q + d + 1) + 1 by omega]
          conv => lhs; unfold f_X12_finds_L20
          simp only [lt1_k, jn1_k]
          rw [z6, bdI_s, cmpI_ok (by omega), if_neg (by omega), ixI_ok (by omega), n2, e94, ixI_ok (by omega), Int.toNat_natCast, if_neg (fun h2 => c9 (hlt.mp h2)), z6, bdI_s, cmpI_ok (by omega), if_neg (by omega), ixI_ok (by omega), e94, ixI_ok (by omega), Int.toNat_natCast, ex]
    · have hny := nsm_n c
      obtain ⟨j, z', r2, j1, j2, j3, j4, j5, j6, j7, j8⟩ := ih (i + 1) r (by omega) (by rw [hny]; omega)
      refine ⟨j, z', r2, j1, j2, j3, j4, j5, j6, fun K14 K15 q => ?_, fun K12 q => ?_⟩
      · rw [← j7 K14 K15 q, show q + (d + 1) + 1 = (q + d + 1) + 1 by omega]
        conv => lhs; unfold f_X9_choose_L37
        simp only [lt1_k, jn1_k]
        rw [hX.2.2.2.2.2.2, cmpI_ok (by omega), if_pos (by omega), z5, bdI_s, cmpI_ok (by omega), if_pos (by omega), cmpI_ok (by omega), if_pos (by omega), Int64.sub_zero, ex]
      · rw [← j8 K12 q, show q + (d + 1) + 1 = (q + d + 1) + 1 by omega]
        conv => lhs; unfold f_X12_finds_L20
        simp only [lt1_k, jn1_k]
        rw [z6, bdI_s, cmpI_ok (by omega), if_pos (by omega), z6, bdI_s, cmpI_ok (by omega), if_pos (by omega), ex]
/-- one of the cheapest steps: the first -/
theorem ce_in (h : DNk L S w a 0 B t m) (hk : k < L) (hs : B k ≤ s ∧ s < B (k + 1)) (hn : m.2 95 s ≠ 0) : ∀ (d i : Nat), i + d = w → (∃ i0, i ≤ i0 ∧ i0 < w ∧ onQ m s i0 ∧ m.1 96 s = m.1 96 (ld9 m s i0).toNat + m.1 97 i0) →
    ∃ (j z : Nat), j < w ∧ ld9 m s j = z ∧ B (k + 1) ≤ z ∧ z < B (k + 2) ∧ z < S ∧ m.2 95 z ≠ 0 ∧
      (∀ (K11 : Int → Int → St → Option (Int × St)) (K12 : St → Option (Int × St)) (q : Nat), f_X9_chooseCheapest_L23 N K11 K12 s k (q + d + 1) i t = K11 j z t) ∧ ∀ (K11 : Int → St → Option (Int × St)) (q : Nat), f_X12_cheapest_L25 N K11 s (q + d + 1) i m = K11 j m := by
  have hX := h.1
  have hX0 := hX.1
  have m1 : B (k + 1) ≤ S := by rw [← hX.2.1.2.2]; exact hX.mono (by omega) (by omega)
  have hW : ∀ z, B (k + 1) ≤ z → z < B (k + 2) → WY1 L t m (k + 1) z := fun z z1 z2 => h.wy (by omega) z1 z2
  have hws := h.wy (j := k) (z := s) (by omega) hs.1 hs.2
  have hps := hws.2.1 hn
  have hbs := hws.2.2.1
  intro d
  induction d with
  | zero =>
    intro i hi hr
    obtain ⟨i0, h1, h2, _⟩ := hr
    omega
  | succ d ih =>
    intro i hi hr
    obtain ⟨i0, h1, h2, h3, h4⟩ := hr
    have ex : (i : Int) + 1 = ((i + 1 : Nat) : Int) := by omega
    have hpi := hX.2.2.2.2.2.1 i (by omega)
    rcases on_both (N := N) hX hk hs hW (show i < w by omega) with ⟨c, z, z1, z2, z3, z4, z5, z6⟩ | ⟨c, z5, z6⟩
    · have hwz := hW z z2 z3
      have hzn : m.2 95 z ≠ 0 := by have := c.2.2; rw [z1, Int.toNat_natCast] at this; exact this
      have hpz := hwz.2.1 hzn
      have hbz := hwz.2.2.1
      have e94 : m.1 94 (32 * s + i) = z := z1
      have n2 : (32 * (s : Int) + i).toNat = 32 * s + i := by omega
      by_cases c9 : m.1 96 s = m.1 96 z + m.1 97 i
      · refine ⟨i, z, by omega, z1, z2, z3, z4, hzn, fun K11 K12 q => ?_, fun K11 q => ?_⟩
        · rw [show q + (d + 1) + 1 = (q + d + 1) + 1 by omega]
          conv => lhs; unfold f_X9_chooseCheapest_L23
          simp only [lt1_k, jn1_k]
          rw [hX.2.2.2.2.2.2, cmpI_ok (by omega), if_pos (by omega), z5, bdI_s, cmpI_ok (by omega), if_neg (by omega), ixI_ok (by omega), ixI_ok (by omega), ixI_ok (by omega)]
          simp only [Int.toNat_natCast]
          rw [cmpI_ok (by omega), if_pos (by omega)]
        · rw [show q + (d + 1) + 1 = (q + d + 1) + 1 by omega]
          conv => lhs; unfold f_X12_cheapest_L25
          simp only [lt1_k, jn1_k]
          rw [z6, bdI_s, cmpI_ok (by omega), if_neg (by omega), ixI_ok (by omega), n2, e94, ixI_ok (by omega), ixI_ok (by omega), ixI_ok (by omega)]
          simp only [Int.toNat_natCast]
          rw [cmpI_ok (by omega), if_pos (by omega)]
      · have hne : i ≠ i0 := fun e => by rw [← e, z1, Int.toNat_natCast] at h4; exact c9 h4
        obtain ⟨j, z', j1, j2, j3, j4, j5, j6, j7, j8⟩ := ih (i + 1) (by omega) ⟨i0, by omega, h2, h3, h4⟩
        refine ⟨j, z', j1, j2, j3, j4, j5, j6, fun K11 K12 q => ?_, fun K11 q => ?_⟩
        · rw [← j7 K11 K12 q, show q + (d + 1) + 1 = (q + d + 1) + 1 by omega]
          conv => lhs; unfold f_X9_chooseCheapest_L23
          simp only [lt1_k, jn1_k]
          rw [hX.2.2.2.2.2.2, cmpI_ok (by omega), if_pos (by omega), z5, bdI_s, cmpI_ok (by omega), if_neg (by omega), ixI_ok (by omega), ixI_ok (by omega), ixI_ok (by omega)]
          simp only [Int.toNat_natCast]
          rw [cmpI_ok (by omega), if_neg (by omega), ex]
        · rw [← j8 K11 q, show q + (d + 1) + 1 = (q + d + 1) + 1 by omega]
          conv => lhs; unfold f_X12_cheapest_L25
          simp only [lt1_k, jn1_k]
          rw [z6, bdI_s, cmpI_ok (by omega), if_neg (by omega), ixI_ok (by omega), n2, e94, ixI_ok (by omega), ixI_ok (by omega), ixI_ok (by omega)]
          simp only [Int.toNat_natCast]
          rw [cmpI_ok (by omega), if_neg (by omega), ex]
    · have hne : i ≠ i0 := fun e => by rw [← e] at h3; exact c h3
      obtain ⟨j, z', j1, j2, j3, j4, j5, j6, j7, j8⟩ := ih (i + 1) (by omega) ⟨i0, by omega, h2, h3, h4⟩
      refine ⟨j, z', j1, j2, j3, j4, j5, j6, fun K11 K12 q => ?_, fun K11 q => ?_⟩
      · rw [← j7 K11 K12 q, show q + (d + 1) + 1 = (q + d + 1) + 1 by omega]
        conv => lhs; unfold f_X9_chooseCheapest_L23
        simp only [lt1_k, jn1_k]
        rw [hX.2.2.2.2.2.2, cmpI_ok (by omega), if_pos (by omega), z5, bdI_s, cmpI_ok (by omega), if_pos (by omega), ex]
      · rw [← j8 K11 q, show q + (d + 1) + 1 = (q + d + 1) + 1 by omega]
        conv => lhs; unfold f_X12_cheapest_L25
        simp only [lt1_k, jn1_k]
        rw [z6, bdI_s, cmpI_ok (by omega), if_pos (by omega), ex]
end
