/-! reading in lock step: a block -/
/-- the texts as they stand -/
abbrev XC (u v : St) : CTE := (u.1 363, v.1 31, v.1 32)
def RSs (M : St) (B : Nat → Int) (e mm : Nat) (i a c : Nat) (t m u v : St) : Prop := ∃ n i2 b d : Nat, i < i2 ∧ PXw M B e mm 1 i2 b d u v ∧ FRh t u a ∧ FRm m v c ∧ b + i ≤ a + i2 ∧ d + i = c + i2 ∧ u.1 303 6 = t.1 303 6 ∧ S1 M (XC u v) (SB M (XC u v) n) a b c d
def RBk (M : St) (B : Nat → Int) (e mm : Nat) (i a c : Nat) (t m u v : St) : Prop := ∃ n i2 b d : Nat, i < i2 ∧ PXw M B e mm 1 i2 b (d + 1) u v ∧ FRh t u a ∧ FRm m v c ∧ b + i + 2 ≤ a + i2 ∧ d + 1 + i = c + i2 ∧ u.1 303 6 = t.1 303 6 ∧ SB M (XC u v) n a b (c + 1) d ∧ BKt (XC u v) c d
def PSs (M : St) (B : Nat → Int) (e mm H : Nat) (f g : St → Option (Int × St)) : Prop := ∀ (i a c : Nat) (t m : St), PXw M B e mm 1 i a c t m → a + (mm - i) ≤ 10093 → t.1 303 6 + (H : Int) = 30 → SIM B e mm t m a c (RSs M B e mm i a c t m) (f t) (g m)
def PBk (M : St) (B : Nat → Int) (e mm H : Nat) (f g : St → Option (Int × St)) : Prop := ∀ (i a c : Nat) (t m : St), PXw M B e mm 1 i a c t m → a + (mm - i) ≤ 10094 → t.1 303 6 + (H : Int) = 30 → SIM B e mm t m a c (RBk M B e mm i a c t m) (f t) (g m)
section
variable {N : Nat} {M : St} {B : Nat → Int} {e mm i a c : Nat} {kp : Int} {t m : St}
theorem FRm.q32 {p : Nat} {x : Int} (h : c ≤ p) : FRm m (pI m 32 p x) c := ⟨fun y z _ h2 _ => by
  by_cases hy : y = 32
  · subst hy; rw [pI_nf (by omega)]
  · rw [pI_ne hy], rfl⟩
theorem PXw.m32 {p : Nat} {x : Int} (h : PXw M B e mm kp i a c t m) : PXw M B e mm kp i a c t (pI m 32 p x) := by
  have e2 : (pI m 32 p x).1 200 = m.1 200 := pI_ne (by decide)
  obtain ⟨⟨p1, p2, p3, p4, p5, p6, p7, p8, p9, p10⟩, h2, h3, h4, h5, h6, h7⟩ := h
  refine ⟨⟨p1, p2, p3.of (fun b _ _ => by rw [e2]) (by rw [pI_ne (by decide)]), p4, p5, p6, by rw [e2]; exact p7, by rw [e2]; exact p8, by rw [e2]; exact p9, by rw [e2]; exact p10⟩, h2.fr (FRh.rf (a := 0)) (FRm.q32 (c := 0) (by omega)), h3, ?_, h5, h6.fr (FRh.rf (a := 0)) (FRm.q32 (c := 0) (by omega)), h7⟩
  unfold tpm at h4 ⊢
  rw [e2]; exact h4
theorem PXw.c33 (h : PXw M B e mm 1 i a c t m) : m.1 200 33 = c := by
  have h4 := h.2.2.2.1
  have h9 := h.1.2.2.2.2.2.2.2.2.1
  unfold tpm at h4
  rw [if_pos rfl] at h4
  omega
/-- the statements of a block -/
theorem blk_lp {H : Nat} {fS fM : St → Option (Int × St)} {KH KM : St → Option (Int × St)} (hI : PSs M B e mm H fS fM) : ∀ (k n n2 x i a c : Nat) (t m : St), mm - i ≤ k → k < n → k < n2 → x < i → PXw M B e mm 1 i a c t m → a + (mm - i) ≤ 10093 → t.1 303 6 + (H : Int) = 30 →
    FLT B e mm t m a c (o_X7_readBlock_L26 fS KH n x t) (o_X12_block_L16 N fM KM n2 m) ∨ ∃ (u v : St) (nn i2 b d : Nat), o_X7_readBlock_L26 fS KH n x t = KH u ∧ o_X12_block_L16 N fM KM n2 m = KM v ∧ i ≤ i2 ∧ PXw M B e mm 1 i2 b d u v ∧ FRh t u a ∧ FRm m v c ∧ b + i ≤ a + i2 ∧ d + i = c + i2 ∧ u.1 303 6 = t.1 303 6 ∧ SB M (XC u v) nn a b c d ∧ u.1 303 3 = 41 := by
  intro k
  induction k with
  | zero =>
    intro n n2 x i a c t m z1 z2 z3 z4 h hV h6
    obtain ⟨n, rfl⟩ : ∃ k, n = k + 1 := ⟨n - 1, by omega⟩
    obtain ⟨n2, rfl⟩ : ∃ k, n2 = k + 1 := ⟨n2 - 1, by omega⟩
    have hq := h.kd
    generalize hk9 : cKd B e (ch B e i) = w at *
    have hr := hq.rng
    have hi2 := h.1.2.1
    have hmm := h.1.1.2.2.2.2.2
    have hne : w ≠ 41 := by
      intro h9
      have := tq_lt h.1 (by omega)
      omega
    left
    conv => arg 8; unfold o_X7_readBlock_L26
    conv => arg 9; unfold o_X12_block_L16
    rw [cmpI_ok (by omega), if_pos (show (x : Int) < 4096 by omega), lt1_k, hq.1, cmpI_ok (show inR w ∧ inR 41 by omega), if_neg hne, k_isSign hq (by unfold isSg; omega), bdI_s, show (40 : Int) + sgi 125 = 41 from rfl, if_neg hne, cmpI_ok (by omega), if_pos (show (0 : Int) = 0 from rfl)]
    rcases hI i a c t m h hV h6 with ⟨u, v, q1, q2, q3⟩ | ⟨u, v, q1, q2, nn, i2, b, d, q3, q4, q5⟩
    · exact ⟨u, v, by rw [q1, bdI_s, cmpI_ok (by omega), if_pos rfl, boI_0], by rw [q2, bdI_s, cmpI_ok (by omega), if_pos rfl, boI_0], q3⟩
    · have := q4.1.2.1
      omega
  | succ k ih =>
    intro n n2 x i a c t m z1 z2 z3 z4 h hV h6
    obtain ⟨n, rfl⟩ : ∃ k, n = k + 1 := ⟨n - 1, by omega⟩
    obtain ⟨n2, rfl⟩ : ∃ k, n2 = k + 1 := ⟨n2 - 1, by omega⟩
    have hq := h.kd
    generalize hk9 : cKd B e (ch B e i) = w at *
    have hr := hq.rng
    have hi2 := h.1.2.1
    have hmm := h.1.1.2.2.2.2.2
    have hH : o_X7_readBlock_L26 fS KH (n + 1) x t = (if w = 41 then KH t else (bdI (fS t) fun v9 t8 => cmpI v9 0 (if v9 = 0 then (boI 0 (some (0, t8))) else (o_X7_readBlock_L26 fS KH n ((x + 1 : Nat) : Int) t8)))) := by
      conv => lhs; unfold o_X7_readBlock_L26
      rw [cmpI_ok (by omega), if_pos (show (x : Int) < 4096 by omega), lt1_k, hq.1, cmpI_ok (show inR w ∧ inR 41 by omega)]
      rfl
    have hM : o_X12_block_L16 N fM KM (n2 + 1) m = (if w = 41 then KM m else (bdI (fM m) fun v10 t9 => cmpI v10 0 (if v10 = 0 then (boI 0 (some (0, t9))) else (o_X12_block_L16 N fM KM n2 t9)))) := by
      conv => lhs; unfold o_X12_block_L16
      rw [k_isSign hq (by unfold isSg; omega), bdI_s, show (40 : Int) + sgi 125 = 41 from rfl]
      by_cases h41 : w = 41
      · rw [if_pos h41, if_pos h41, cmpI_ok (by omega), if_neg (by decide)]
      · rw [if_neg h41, if_neg h41, cmpI_ok (by omega), if_pos rfl]
    rw [hH, hM]
    by_cases h41 : w = 41
    · rw [if_pos h41, if_pos h41]
      right
      exact ⟨t, m, 0, i, a, c, rfl, rfl, Nat.le_refl i, h, FRh.rf, FRm.rf, Nat.le_refl _, by omega, rfl, ⟨rfl, rfl⟩, by rw [hq.1]; exact h41⟩
    · rw [if_neg h41, if_neg h41]
      rcases hI i a c t m h hV h6 with ⟨u, v, q1, q2, q3⟩ | ⟨u, v, q1, q2, nn, i2, b, d, q3, q4, q5, q6, q7, q8, q9, q10⟩
      · left
        exact ⟨u, v, by rw [q1, bdI_s, cmpI_ok (by omega), if_pos rfl, boI_0], by rw [q2, bdI_s, cmpI_ok (by omega), if_pos rfl, boI_0], q3⟩
      · have hl := q10.le (SB.le nn)
        rw [q1, q2, bdI_s, bdI_s, cmpI_ok (by omega), if_neg (by decide), cmpI_ok (by omega), if_neg (by decide)]
        have hi3 := q4.1.2.1
        rcases ih n n2 (x + 1) i2 b d u v (by omega) (by omega) (by omega) (by omega) q4 (by omega) (by omega) with hf | ⟨u2, v2, n3, i3, b3, d3, r1, r2, r3, r4, r5, r6, r7, r8, r9, r10, r11⟩
        · left
          exact hf.weak q5 q6 (by omega) (by omega)
        · right
          have hl2 := SB.le _ _ _ _ _ r10
          have hag : CTE.ag (XC u v) (XC u2 v2) a b c d := ⟨fun y h1 h2 => r5.1 363 y (by omega) (by omega) (by omega), fun y h1 h2 => r6.1 31 y (by omega) (by omega) (by omega), fun y h1 h2 => r6.1 32 y (by omega) (by omega) (by omega)⟩
          refine ⟨u2, v2, (nn + n3) + 1, i3, b3, d3, r1, r2, by omega, r4, q5.tr r5 (by omega), q6.tr r6 (by omega), by omega, by omega, by omega, Or.inr ⟨b, d, SB.mono r10 (by omega), ?_⟩, r11⟩
          exact q10.cg hag (SB.le nn) (fun a2 b2 c2 d2 z1 z2 z3 z4 q => SB.mono (SB.cg _ _ _ _ _ q (hag.sub z1 z2 z3 z4)) (by omega))
theorem blk_both {H : Nat} {fS fM : St → Option (Int × St)} (hN : 5000 ≤ N) (hI : ∀ H2, H = H2 + 1 → PSs M B e mm H2 fS fM) : PBk M B e mm H (o_X7_readBlock N fS) (o_X12_block N fM) := by
  intro i a c t m h hV h6
  have hq := h.kd
  generalize hk9 : cKd B e (ch B e i) = w at *
  have hr := hq.rng
  have hmm := h.1.1.2.2.2.2.2
  have hi0 := h.1.2.1
  unfold o_X7_readBlock o_X12_block
  simp only [lt1_k]
  rw [hq.1, cmpI_ok (show inR w ∧ inR 40 by omega), h.c33]
  by_cases h40 : w = 40
  · rw [if_pos h40]
    have hlt := tq_lt h.1 (by omega)
    have hob : f_X12_opensBy N 123 m = bdI (f_X12_opens N 5123 m) fun x y => boI x (some (x, y)) := by
      unfold f_X12_opensBy
      rw [k_isSign hq (by unfold isSg; omega), bdI_s, if_pos (by rw [show sgi 123 = 0 from rfl]; omega), cmpI_ok (by omega), if_neg (by decide)]
      rfl
    rw [hob]
    refine SIM.bind (SIM.bg (sim_nest (as := 5123) h hlt hN)) (fun u v ⟨g1, g2, g3, g4, g5, g6, g7, g8⟩ => ?_)
    obtain ⟨H2, rfl⟩ : ∃ H2, H = H2 + 1 := ⟨H - 1, by omega⟩
    rcases blk_lp (N := N) (KH := fun (t10 : St) => bdI (f_X7_take N 41 (pI t10 303 6 (t10.1 303 6 - 1))) fun v14 t13 => boI v14 (some (v14, t13))) (KM := fun (t11 : St) => ixI (c : Int) 10100 (bdI (f_X12_closesBy N 125 (pI t11 32 (c : Int).toNat (t11.1 200 33))) fun v15 t14 => boI v15 (some (v15, t14)))) (hI H2 rfl) (mm - (i + 1)) N N 0 (i + 1) a (c + 1) u v (Nat.le_refl _) (by omega) (by omega) (by omega) g1 (by omega) (by omega) with hf | ⟨u2, v2, nn, i2, b, d, r1, r2, r3, r4, r5, r6, r7, r8, r9, r10, r11⟩
    · left
      exact hf.weak g2 g3 (Nat.le_refl a) (by omega)
    · have hl := SB.le _ _ _ _ _ r10
      have hi3 := r4.1.2.1
      have hj := r4.1.2.2.2.2.2.2.1
      have hj0 := h.1.2.2.2.2.2.2.1
      have h33 := r4.c33
      have h33b := r4.1.2.2.2.2.2.2.2.2.1
      have r1 : o_X7_readBlock_L26 fS (fun (t10 : St) => bdI (f_X7_take N 41 (pI t10 303 6 (t10.1 303 6 - 1))) fun v14 t13 => boI v14 (some (v14, t13))) N 0 u = bdI (f_X7_take N 41 (pI u2 303 6 (u2.1 303 6 - 1))) fun v14 t13 => boI v14 (some (v14, t13)) := r1
      rw [r1, r2, ixI_ok (by omega), Int.toNat_natCast, h33]
      have w0 : v2.1 31 c = 5123 := by rw [r6.1 31 c (by omega) (by omega) (by omega)]; exact g4
      have P1 := r4.m32 (p := c) (x := (d : Int))
      have x1 := g2.tr r5 (Nat.le_refl a)
      have x2 := (g3.tr r6 (show c ≤ c + 1 by omega)).tr (FRm.q32 (p := c) (x := (d : Int)) (Nat.le_refl c)) (Nat.le_refl c)
      have hs := SIM.weak (sim_sign_n (N := N) (a := b) (c := d) (k := 125) (y := u2.1 303 6 - 1) P1.1 h.kpp (by unfold isSg; omega) (by rw [P1.2.2.2.1]; exact Nat.le_refl _) hN) x1 x2 (show a ≤ b by omega) (show c ≤ d by omega)
      rw [show (40 : Int) + sgi 125 = 41 from rfl] at hs
      rcases hs with ⟨w5, z, q1, q2, q3⟩ | ⟨w5, z, q1, q2, u1, rfl, q6⟩
      · left
        refine ⟨w5, z, by rw [q1, bdI_s, boI_0], ?_, q3⟩
        have : f_X12_closesBy N 125 (pI v2 32 c (d : Int)) = some (0, z) := by
          unfold f_X12_closesBy
          rw [q2, bdI_s, cmpI_ok (by omega), if_pos rfl, boI_0]
        rw [this, bdI_s, boI_0]
      · right
        obtain ⟨k1, k2, k3, k4, k5, k6, k7, k8, k9⟩ := P1.nx q6.at1
        have hj2 := k1.1.2.2.2.2.2.2.1
        have hn := k1.n6 (y := u2.1 303 6 - 1) (by omega)
        have hcl : f_X12_closesBy N 125 (pI v2 32 c (d : Int)) = some (1, pI z 200 35 (u2.1 303 6 - 1)) := by
          unfold f_X12_closesBy
          rw [q2, bdI_s, cmpI_ok (by omega), if_neg (by decide)]
          simp only [lt1_k]
          rw [boI_1, show z.1 200 35 = u2.1 303 6 by omega]
        have t31 : ∀ y, y ≠ d → z.1 31 y = v2.1 31 y := fun y hy => by rw [k9 y hy, pI_ne (by decide)]
        have t32 : ∀ y, y < d → z.1 32 y = (pI v2 32 c (d : Int)).1 32 y := fun y hy => k3.1 32 y (by omega) (by omega) (by omega)
        refine ⟨pI u1 303 6 (u2.1 303 6 - 1), pI z 200 35 (u2.1 303 6 - 1), by rw [q1, bdI_s, boI_1], by rw [hcl, bdI_s, boI_1], nn, i2 + 1, b, d, by omega, hn, (x1.tr k2 (by omega)).tr FRh.p (Nat.le_refl a), (x2.tr k3 (by omega)).tr FRm.n6 (Nat.le_refl c), by omega, by omega, by rw [pI_at]; omega, ?_, ?_⟩
        · refine SB.cg _ _ _ _ _ r10 ⟨fun y h1 h2 => ?_, fun y h1 h2 => ?_, fun y h1 h2 => ?_⟩
          · show (pI u1 303 6 (u2.1 303 6 - 1)).1 363 y = u2.1 363 y
            rw [pI_ne (by decide), k8]
          · show (pI z 200 35 (u2.1 303 6 - 1)).1 31 y = v2.1 31 y
            rw [pI_ne (by decide), t31 y (by omega)]
          · show (pI z 200 35 (u2.1 303 6 - 1)).1 32 y = v2.1 32 y
            rw [pI_ne (by decide), t32 y (by omega), pI_nf (by omega)]
        · refine ⟨by omega, ?_, ?_, ?_⟩
          · show (pI z 200 35 (u2.1 303 6 - 1)).1 31 c = 5123
            rw [pI_ne (by decide), t31 c (by omega)]; exact w0
          · show (pI z 200 35 (u2.1 303 6 - 1)).1 31 d = 5125
            rw [pI_ne (by decide), k4]; omega
          · show (pI z 200 35 (u2.1 303 6 - 1)).1 32 c = (d : Int)
            rw [pI_ne (by decide), t32 c (by omega), pI_at]
  · rw [if_neg h40]
    left
    have hob : f_X12_opensBy N 123 m = bdI (f_X12_wrong N 1 m) fun x y => boI x (some (x, y)) := by
      unfold f_X12_opensBy
      rw [k_isSign hq (by unfold isSg; omega), bdI_s, if_neg (by rw [show sgi 123 = 0 from rfl]; omega), cmpI_ok (by omega), if_pos rfl]
    rw [hob]
    exact (flt_bo (flt_w N h.1 (by omega))).kg
end
