/-! rows of steps: ways and prices of one state, then of all -/
/-- the state s, with the first i steps counted -/
def CWs (L k s i : Nat) (t m : St) : Prop := t.2 434 s = m.2 95 s ∧ (m.2 95 s ≠ 0 → t.1 435 s = m.1 96 s ∧ ∃ j, j < i ∧ onQ m s j ∧ m.1 96 s = m.1 96 (ld9 m s j).toNat + m.1 97 j) ∧ (0 ≤ m.1 96 s ∧ m.1 96 s ≤ 10100000 * ((L - k : Nat) : Int)) ∧ uq (m.2 95 s) = nsm m s i
section
variable {N L S w k s : Nat} {B : Nat → Nat} {t m : St}
theorem on_ne {s i : Nat} {m : St} : 0 ≤ ld9 m s i → m.1 93 (ld9 m s i).toNat = m.1 93 s + 1 → (ld9 m s i).toNat ≠ s := fun _ h e => by rw [e] at h; omega
theorem nsm_le (hX : FXl L S w B t m) (hk : k < L) (hs : B k ≤ s ∧ s < B (k + 1)) (hW : ∀ z, B (k + 1) ≤ z → z < B (k + 2) → WY1 L t m (k + 1) z) : ∀ i, i ≤ w → nsm m s i ≤ i * 32 ^ (L - (k + 1)) := by
  intro i
  induction i with
  | zero => intro _; exact Nat.zero_le _
  | succ i ih =>
    intro hi
    have h1 := ih (by omega)
    have e : (i + 1) * 32 ^ (L - (k + 1)) = i * 32 ^ (L - (k + 1)) + 32 ^ (L - (k + 1)) := Nat.succ_mul _ _
    rw [e]
    rcases on_both (N := 0) hX hk hs hW (show i < w by omega) with ⟨c, z, z1, z2, z3, _⟩ | ⟨c, _⟩
    · rw [nsm_y c, z1, Int.toNat_natCast]
      exact Nat.add_le_add h1 (hW z z2 z3).2.2.2
    · rw [nsm_n c]
      exact Nat.le_trans h1 (Nat.le_add_right _ _)
set_option maxHeartbeats 1000000 in
/-- one step more is counted -/
theorem cz_one {i : Nat} (hX : FXl L S w B t m) (h98 : m.1 200 98 = w) (hk : k < L) (hs : B k ≤ s ∧ s < B (k + 1)) (hW : ∀ z, B (k + 1) ≤ z → z < B (k + 2) → WY1 L t m (k + 1) z) (hi : i < w) (hC : CWs L k s i t m) :
    ∃ u v : St, WFh s t u ∧ WFm s m v ∧ CWs L k s (i + 1) u v ∧ ∀ (K K' : St → Option St) (q r : Nat), f_X9_countWays_L2 N K s k (q + 1) i t = f_X9_countWays_L2 N K s k q ((i + 1 : Nat) : Int) u ∧ f_X12_reckonsWays_L2 N K' s (r + 1) i m = f_X12_reckonsWays_L2 N K' s r ((i + 1 : Nat) : Int) v := by
  have hX0 := hX
  obtain ⟨⟨hL, hS, hw⟩, ⟨b0, b1, b2⟩, h433, hlev, hld, hpr, h12⟩ := hX
  have m1 : B (k + 1) ≤ S := by rw [← b2]; exact hX0.mono (by omega) (by omega)
  have hle := nsm_le hX0 hk hs hW i (by omega)
  obtain ⟨c1, c2, c3, c4⟩ := hC
  have ex : (i : Int) + 1 = ((i + 1 : Nat) : Int) := by omega
  rcases on_both (N := N) hX0 hk hs hW hi with ⟨c, z, z1, z2, z3, z4, z5, z6⟩ | ⟨c, z5, z6⟩
  · have hz := hW z z2 z3
    have hzn : m.2 95 z ≠ 0 := by have := c.2.2; rw [z1, Int.toNat_natCast] at this; exact this
    have hpz := hz.2.1 hzn
    have hpi := hpr i hi
    have hzs : z ≠ s := by omega
    have e94 : m.1 94 (32 * s + i) = z := z1
    have n2 : (32 * (s : Int) + i).toNat = 32 * s + i := by omega
    obtain ⟨PB, hPB⟩ : ∃ PB : Int, PB = 10100000 * ((L - (k + 1) : Nat) : Int) := ⟨_, rfl⟩
    have hPB2 : 10100000 * ((L - k : Nat) : Int) = PB + 10100000 := by omega
    have hPB3 : 0 ≤ PB ∧ PB ≤ 121200000 := by omega
    have hz3 := hz.2.2.1
    rw [← hPB] at hz3
    rw [hPB2] at c3
    have hov : uq (m.2 95 s + m.2 95 z) = nsm m s i + uq (m.2 95 z) := by
      rw [uq_add, c4]
      have := hz.2.2.2
      have := p32 (x := L - (k + 1)) (by omega)
      have h5 : i * 32 ^ (L - (k + 1)) ≤ 32 * 1152921504606846976 / 32 * 15 ∨ True := Or.inr trivial
      have h6 : nsm m s i + uq (m.2 95 z) < 18446744073709551616 := by
        have h7 : L - (k + 1) ≤ 11 := by omega
        have h8 : 32 ^ (L - (k + 1)) ≤ 36028797018963968 := Nat.le_trans (Nat.pow_le_pow_right (show 0 < 32 by omega) h7) (by decide)
        have h9 : i * 32 ^ (L - (k + 1)) ≤ 32 * 36028797018963968 := Nat.mul_le_mul (by omega) h8
        omega
      exact Nat.mod_eq_of_lt h6
    obtain ⟨x, hx, hx0, hxr⟩ : ∃ x : Int, (if m.2 95 s = 0 then x = m.1 97 i + m.1 96 z else x = min (m.1 96 s) (m.1 97 i + m.1 96 z)) ∧ (0 ≤ x ∧ x ≤ PB + 10100000) ∧ (x = m.1 96 z + m.1 97 i ∨ (m.2 95 s ≠ 0 ∧ x = m.1 96 s)) := by
      by_cases c0 : m.2 95 s = 0
      · exact ⟨m.1 97 i + m.1 96 z, by rw [if_pos c0], by omega, Or.inl (by omega)⟩
      · refine ⟨min (m.1 96 s) (m.1 97 i + m.1 96 z), by rw [if_neg c0], by omega, ?_⟩
        by_cases c9 : m.1 96 s ≤ m.1 97 i + m.1 96 z
        · exact Or.inr ⟨c0, by omega⟩
        · exact Or.inl (by omega)
    have gm : WFm s m (pL (pI m 96 s x) 95 s (m.2 95 s + m.2 95 z)) := WFm.p
    refine ⟨pL (pI t 435 s x) 434 s (m.2 95 s + m.2 95 z), pL (pI m 96 s x) 95 s (m.2 95 s + m.2 95 z), WFh.p, gm, ⟨by rw [pL_at, pL_at], fun _ => ⟨?_, ?_⟩, ?_, ?_⟩, fun K K' q r => ⟨?_, ?_⟩⟩
    · show (pI t 435 s x).1 435 s = (pI m 96 s x).1 96 s
      rw [pI_at, pI_at]
    · rcases hxr with hxr | ⟨c0, hxr⟩
      · refine ⟨i, by omega, (onQ_w gm on_ne).mpr c, ?_⟩
        show (pI m 96 s x).1 96 s = (pI m 96 s x).1 96 (ld9 m s i).toNat + (pI m 96 s x).1 97 i
        rw [pI_at, z1, Int.toNat_natCast, pI_nf hzs, pI_ne (by decide), hxr]
      · obtain ⟨_, j, j1, j2, j3⟩ := c2 c0
        refine ⟨j, by omega, (onQ_w gm on_ne).mpr j2, ?_⟩
        show (pI m 96 s x).1 96 s = (pI m 96 s x).1 96 (ld9 m s j).toNat + (pI m 96 s x).1 97 j
        rw [pI_at, pI_nf (on_ne j2.1 j2.2.1), pI_ne (by decide), hxr, j3]
    · show 0 ≤ (pI m 96 s x).1 96 s ∧ (pI m 96 s x).1 96 s ≤ 10100000 * ((L - k : Nat) : Int)
      rw [pI_at, hPB2]
      exact hx0
    · rw [pL_at, hov, nsm_w gm (i + 1) (fun j _ => on_ne), nsm_y c, z1, Int.toNat_natCast]
    · conv => lhs; unfold f_X9_countWays_L2
      simp only [lt1_k, jn1_k]
      rw [h12, cmpI_ok (by omega), if_pos (by omega), z5, bdI_s, cmpI_ok (by omega), if_neg (by omega), ixI_ok (by omega), ixI_ok (by omega), ixI_ok (by omega)]
      simp only [Int.toNat_natCast]
      rw [c1, hpi.1, hpz, ex]
      by_cases c0 : m.2 95 s = 0
      · rw [if_pos c0] at hx
        rw [if_pos c0, ixI_ok (by omega), ixI_ok (by omega), ixI_ok (by omega), ixI_ok (by omega), ← hx]
        show f_X9_countWays_L2 N K s k q ((i + 1 : Nat) : Int) (pL (pI t 435 s x) 434 s (t.2 434 s + t.2 434 z)) = _
        rw [c1, hz.1]
      · rw [if_neg c0] at hx
        rw [if_neg c0, ixI_ok (by omega), (c2 c0).1, cmpI_ok (by omega), ixI_ok (by omega), ixI_ok (by omega), ixI_ok (by omega), ixI_ok (by omega), ← hx]
        show f_X9_countWays_L2 N K s k q ((i + 1 : Nat) : Int) (pL (pI t 435 s x) 434 s (t.2 434 s + t.2 434 z)) = _
        rw [c1, hz.1]
    · conv => lhs; unfold f_X12_reckonsWays_L2
      simp only [lt1_k, jn1_k]
      rw [h98, cmpI_ok (by omega), if_pos (by omega), z6, bdI_s, cmpI_ok (by omega), if_neg (by omega), ixI_ok (by omega), n2, e94, ixI_ok (by omega), ixI_ok (by omega), ixI_ok (by omega)]
      simp only [Int.toNat_natCast]
      rw [ex]
      by_cases c0 : m.2 95 s = 0
      · rw [if_pos c0] at hx
        rw [if_pos c0, ixI_ok (by omega), ixI_ok (by omega), ixI_ok (by omega), ixI_ok (by omega), show m.1 96 z + m.1 97 i = x by omega]
        rfl
      · rw [if_neg c0] at hx
        rw [if_neg c0, ixI_ok (by omega), cmpI_ok (by omega)]
        by_cases c9 : m.1 96 z + m.1 97 i < m.1 96 s
        · rw [if_pos c9, ixI_ok (by omega), ixI_ok (by omega), ixI_ok (by omega), ixI_ok (by omega), show m.1 96 z + m.1 97 i = x by omega]
          rfl
        · rw [if_neg c9, ixI_ok (by omega), ixI_ok (by omega), ixI_ok (by omega), ixI_ok (by omega), ixI_ok (by omega), show m.1 96 s = x by omega]
          rfl
  · refine ⟨t, m, WFh.rf, WFm.rf, ⟨c1, fun h => ?_, c3, by rw [nsm_n c]; exact c4⟩, fun K K' q r => ⟨?_, ?_⟩⟩
    · obtain ⟨d1, j, j1, j2⟩ := c2 h
      exact ⟨d1, j, by omega, j2⟩
    · conv => lhs; unfold f_X9_countWays_L2
      simp only [lt1_k, jn1_k]
      rw [h12, cmpI_ok (by omega), if_pos (by omega), z5, bdI_s, cmpI_ok (by omega), if_pos (by omega), ex]
    · conv => lhs; unfold f_X12_reckonsWays_L2
      simp only [lt1_k, jn1_k]
      rw [h98, cmpI_ok (by omega), if_pos (by omega), z6, bdI_s, cmpI_ok (by omega), if_pos (by omega), ex]
theorem cz_lp : ∀ (d i : Nat) (t m : St), i + d = w → FXl L S w B t m → m.1 200 98 = w → k < L → (B k ≤ s ∧ s < B (k + 1)) → (∀ z, B (k + 1) ≤ z → z < B (k + 2) → WY1 L t m (k + 1) z) → CWs L k s i t m →
    ∃ u v : St, WFh s t u ∧ WFm s m v ∧ CWs L k s w u v ∧ ∀ (K K' : St → Option St) (q r : Nat), f_X9_countWays_L2 N K s k (q + d + 1) i t = K u ∧ f_X12_reckonsWays_L2 N K' s (r + d + 1) i m = K' v := by
  intro d
  induction d with
  | zero =>
    intro i t m hi hX h98 hk hs hW hC
    have hiw : i = w := by omega
    subst hiw
    refine ⟨t, m, WFh.rf, WFm.rf, hC, fun K K' q r => ⟨?_, ?_⟩⟩
    · unfold f_X9_countWays_L2
      simp only [lt1_k, jn1_k]
      rw [hX.2.2.2.2.2.2, cmpI_ok (by have := hX.1; omega), if_neg (by omega)]
    · unfold f_X12_reckonsWays_L2
      simp only [lt1_k, jn1_k]
      rw [h98, cmpI_ok (by have := hX.1; omega), if_neg (by omega)]
  | succ d ih =>
    intro i t m hi hX h98 hk hs hW hC
    obtain ⟨u, v, g1, g2, g3, g4⟩ := cz_one (N := N) hX h98 hk hs hW (by omega) hC
    obtain ⟨u2, v2, j1, j2, j3, j4⟩ := ih (i + 1) u v (by omega) (hX.w g1 g2) (by rw [g2.1 200 (by decide)]; exact h98) hk hs (fun z z1 z2 => (hW z z1 z2).w g1 g2 (by omega)) g3
    refine ⟨u2, v2, g1.tr j1, g2.tr j2, j3, fun K K' q r => ⟨?_, ?_⟩⟩
    · exact ((g4 K K' (q + d + 1) (r + d + 1)).1).trans (j4 K K' q r).1
    · exact ((g4 K K' (q + d + 1) (r + d + 1)).2).trans (j4 K K' q r).2
/-- all is counted at a state -/
def SMz (w : Nat) (m : St) (z : Nat) : Prop := uq (m.2 95 z) = nsm m z w ∧ (m.2 95 z ≠ 0 → ∃ i, i < w ∧ onQ m z i ∧ m.1 96 z = m.1 96 (ld9 m z i).toNat + m.1 97 i)
theorem SMz.wf {z : Nat} {v : St} (h : SMz w m z) (g : WFm s m v) (hz : z ≠ s) (hl : m.1 93 s < m.1 93 z + 1) : SMz w v z := by
  have hne : ∀ j, 0 ≤ ld9 m z j → m.1 93 (ld9 m z j).toNat = m.1 93 z + 1 → (ld9 m z j).toNat ≠ s := fun j _ h2 e => by rw [e] at h2; omega
  obtain ⟨h1, h2⟩ := h
  refine ⟨by rw [g.2.2.2 z hz, nsm_w g w (fun j _ => hne j)]; exact h1, fun hn => ?_⟩
  rw [g.2.2.2 z hz] at hn
  obtain ⟨i, i1, i2, i3⟩ := h2 hn
  refine ⟨i, i1, (onQ_w g (hne i)).mpr i2, ?_⟩
  rw [g.2.1 z hz, ld9_w g, g.2.1 _ (hne i i2.1 i2.2.1), g.1 97 (by decide)]
  exact i3
/-- one state: the whole of it -/
theorem cz_both (hN : 1000 ≤ N) (hX : FXl L S w B t m) (h98 : m.1 200 98 = w) (hk : k < L) (hs : B k ≤ s ∧ s < B (k + 1)) (hW : ∀ z, B (k + 1) ≤ z → z < B (k + 2) → WY1 L t m (k + 1) z) (h0 : t.2 434 s = 0 ∧ m.2 95 s = 0 ∧ m.1 96 s = 0) :
    ∃ u v : St, WFh s t u ∧ WFm s m v ∧ WY1 L u v k s ∧ SMz w v s ∧ f_X9_countWays N s k t = some u ∧ f_X12_reckonsWays N s m = some v := by
  have hw := hX.1.2.2
  have hL := hX.1.1
  obtain ⟨u, v, g1, g2, g3, g4⟩ := cz_lp (N := N) w 0 t m (by omega) hX h98 hk hs hW ⟨by rw [h0.1, h0.2.1], fun h => absurd h0.2.1 h, by rw [h0.2.2]; omega, by rw [h0.2.1]; show uq 0 = 0; decide⟩
  have hq : N - w - 1 + w + 1 = N := by omega
  have g5 := g4 (fun (t22 : St) => some t22) (fun (t25 : St) => some t25) (N - w - 1) (N - w - 1)
  rw [hq] at g5
  obtain ⟨c1, c2, c3, c4⟩ := g3
  refine ⟨u, v, g1, g2, ⟨c1, fun h => (c2 h).1, c3, ?_⟩, ⟨c4, fun h => (c2 h).2⟩, g5.1, g5.2⟩
  rw [c4]
  have hle := nsm_le (hX.w g1 g2) hk hs (fun z z1 z2 => (hW z z1 z2).w g1 g2 (by omega)) w (Nat.le_refl _)
  have e : 32 ^ (L - k) = 32 ^ (L - (k + 1)) * 32 := by rw [show L - k = (L - (k + 1)) + 1 by omega, Nat.pow_succ]
  rw [e, Nat.mul_comm (32 ^ (L - (k + 1))) 32]
  exact Nat.le_trans hle (Nat.mul_le_mul_right _ hw)
end
