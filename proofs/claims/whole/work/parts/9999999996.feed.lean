/-! text is fed -/
section
theorem us_b (a : Int) : iushrZ a 24 = (a % 4294967296) / 16777216 ∧ iushrZ a 16 = (a % 4294967296) / 65536 ∧ iushrZ a 8 = (a % 4294967296) / 256 ∧ b8 (iushrZ a 0) = b8 a := by
  have hu : (Int32.ofInt a).toUInt32.toNat = (a % 4294967296).toNat := by
    show (BitVec.ofInt 32 a).toNat = _
    rw [BitVec.toNat_ofInt]
    rfl
  have main : ∀ (k : Nat) (w : UInt32), w.toNat = k → 0 < k → k < 32 → ((Int32.ofInt a).toUInt32 >>> w).toInt32.toInt = (a % 4294967296) / ((2 ^ k : Nat) : Int) := by
    intro k w hw hk0 hk
    have e1 : ((Int32.ofInt a).toUInt32 >>> w).toNat = (a % 4294967296).toNat / 2 ^ k := by
      rw [UInt32.toNat_shiftRight, hu, hw, Nat.mod_eq_of_lt hk, Nat.shiftRight_eq_div_pow]
    have hp : 2 ≤ 2 ^ k := by
      have := Nat.pow_le_pow_right (n := 2) (by decide) hk0
      omega
    have hlt : (a % 4294967296).toNat / 2 ^ k < 2147483648 := by
      apply Nat.div_lt_of_lt_mul
      have : (a % 4294967296).toNat < 4294967296 := by omega
      calc (a % 4294967296).toNat < 4294967296 := this
        _ = 2 * 2147483648 := by decide
        _ ≤ 2 ^ k * 2147483648 := Nat.mul_le_mul_right _ hp
    show ((Int32.ofInt a).toUInt32 >>> w).toBitVec.toInt = _
    have e2 : ((Int32.ofInt a).toUInt32 >>> w).toBitVec.toNat = (a % 4294967296).toNat / 2 ^ k := e1
    rw [BitVec.toInt_eq_toNat_of_lt (by rw [e2]; omega), e2, Int.natCast_ediv, Int.toNat_of_nonneg (by omega)]
  refine ⟨main 24 _ (by decide) (by decide) (by decide), main 16 _ (by decide) (by decide) (by decide), main 8 _ (by decide) (by decide) (by decide), ?_⟩
  unfold iushrZ
  have e0 : (Int32.ofInt 0).toUInt32 &&& Int32.toUInt32 31 = 0 := by decide
  rw [e0]
  have e1 : (Int32.ofInt a).toUInt32 >>> (0 : UInt32) = (Int32.ofInt a).toUInt32 := by
    apply UInt32.toNat_inj.mp
    rw [UInt32.toNat_shiftRight]
    rfl
  rw [e1]
  show b8 (Int32.ofInt a).toInt = b8 a
  rw [Int32.toInt_ofInt]
  unfold b8 Int.bmod
  dsimp only
  show ((if a % 4294967296 < (4294967296 + 1) / 2 then a % 4294967296 else a % 4294967296 - 4294967296) + 128) % 256 - 128 = (a + 128) % 256 - 128
  split <;> omega
theorem is_b {a : Int} (ha : inR a) : ishrZ a 24 = a / 16777216 ∧ ishrZ a 16 = a / 65536 ∧ ishrZ a 8 = a / 256 ∧ ishrZ a 0 = a := by
  have main : ∀ k : Nat, k < 32 → ishrZ a k = a / (2 : Int) ^ k := by
    intro k hk
    unfold ishrZ
    rw [z_shr ha k hk]
    have hp : (1 : Int) ≤ 2 ^ k := by
      have : (1 : Int) ≤ ((2 ^ k : Nat) : Int) := by
        have := Nat.pow_pos (n := k) (show 0 < 2 by decide)
        omega
      simpa using this
    have b1 : -2147483648 ≤ a / (2 : Int) ^ k := by
      have h1 := ha.1
      have h2 : -2147483648 * (2 : Int) ^ k ≤ -2147483648 := by omega
      exact Int.le_ediv_of_mul_le (by omega) (by omega)
    have b2 : a / (2 : Int) ^ k < 2147483648 := by
      have := ha.2
      by_cases h0 : 0 ≤ a
      · exact Int.lt_of_le_of_lt (Int.ediv_le_self _ h0) this
      · have := Int.ediv_neg_of_neg_of_pos (a := a) (b := (2 : Int) ^ k) (by omega) (by omega)
        omega
    exact z_to ⟨b1, b2⟩
  refine ⟨main 24 (by decide), main 16 (by decide), main 8 (by decide), ?_⟩
  have := main 0 (by decide)
  rw [show ((0 : Nat) : Int) = 0 from rfl] at this
  rw [this]
  simp
theorem by_b {a : Int} (ha : inR a) : b8 (iushrZ a 24) = b8 (ishrZ a 24) ∧ b8 (iushrZ a 16) = b8 (ishrZ a 16) ∧ b8 (iushrZ a 8) = b8 (ishrZ a 8) ∧ b8 (iushrZ a 0) = b8 (ishrZ a 0) := by
  obtain ⟨u1, u2, u3, u4⟩ := us_b a
  obtain ⟨s1, s2, s3, s4⟩ := is_b ha
  rw [u1, u2, u3, u4, s1, s2, s3, s4]
  unfold b8
  refine ⟨by omega, by omega, by omega, rfl⟩
/-- one byte more -/
def HY (t : St) (p : Nat) (v : Int) : St := pI (pI t 330 p v) 301 1 ((p : Int) + 1)
def MY (m : St) (p : Nat) (v : Int) : St := pI (pI m 0 p v) 200 1 ((p : Int) + 1)
/-- the text while it is fed -/
def FDr (t0 m0 : St) (p : Nat) (t m : St) : Prop := (t.1 301 1 = p ∧ m.1 200 1 = p) ∧ (∀ i, i < p → t.1 330 i % 256 = m.1 0 i % 256) ∧ mBy m ∧ (∀ x, x ≠ 301 → x ≠ 330 → t.1 x = t0.1 x) ∧ (∀ y, y ≠ 1 → t.1 301 y = t0.1 301 y) ∧ t.2 = t0.2 ∧ (∀ x, x ≠ 0 → x ≠ 200 → m.1 x = m0.1 x) ∧ (∀ y, y ≠ 1 → m.1 200 y = m0.1 200 y) ∧ m.2 = m0.2
theorem FDr.s {t0 m0 t m : St} {p : Nat} {v w : Int} (h : FDr t0 m0 p t m) (hw : ∃ z, w = b8 z) (e : v = w) : FDr t0 m0 (p + 1) (HY t p v) (MY m p w) := by
  obtain ⟨⟨h1, h2⟩, h3, h4, h5, h6, h7, h8, h9, h10⟩ := h
  subst e
  unfold HY MY
  refine ⟨⟨by rw [pI_at]; rfl, by rw [pI_at]; rfl⟩, fun i hi => ?_, fun i hi => ?_, fun x x1 x2 => by rw [pI_ne x1, pI_ne x2, h5 x x1 x2], fun y hy => by rw [pI_nf hy, pI_ne (by decide), h6 y hy], h7, fun x x1 x2 => by rw [pI_ne x2, pI_ne x1, h8 x x1 x2], fun y hy => by rw [pI_nf hy, pI_ne (by decide), h9 y hy], h10⟩
  · rw [pI_ne (show (330 : Nat) ≠ 301 by decide), pI_ne (show (0 : Nat) ≠ 200 by decide)]
    by_cases hp : i = p
    · rw [hp, pI_at, pI_at]
    · rw [pI_nf hp, pI_nf hp]; exact h3 i (by omega)
  · rw [pI_ne (show (0 : Nat) ≠ 200 by decide)]
    by_cases hp : i = p
    · rw [hp, pI_at]
      obtain ⟨z, rfl⟩ := hw
      unfold b8; omega
    · rw [pI_nf hp]; exact h4 i hi
variable {N : Nat}
theorem ap_s {K : St → Option St} {y s : Int} {q p : Nat} {t : St} (h : t.1 301 1 = p) (hp : p < 4096) (hs : 0 ≤ s ∧ s ≤ 24) : f_X10_append_L3 K y (q + 1) s t = f_X10_append_L3 K y q (s + (-8)) (HY t p (b8 (iushrZ y s))) := by
  conv => lhs; unfold f_X10_append_L3
  simp only [lt1_k]
  rw [cmpI_ok (by omega), if_neg (by omega), h, cmpI_ok (by omega), if_pos (by omega), ixI_ok (by omega), Int.toNat_natCast, b8_b8]
  unfold HY
  rw [pI_ne (show (301 : Nat) ≠ 330 by decide), h]
theorem ap_e {K : St → Option St} {y : Int} {q : Nat} {t : St} : f_X10_append_L3 K y (q + 1) (-8) t = K t := by
  conv => lhs; unfold f_X10_append_L3
  rw [cmpI_ok (by omega), if_pos (by decide)]
theorem HY1 {t : St} {p : Nat} {v : Int} : (HY t p v).1 301 1 = ((p + 1 : Nat) : Int) := by unfold HY; rw [pI_at]; rfl
theorem MY1 {t : St} {p : Nat} {v : Int} : (MY t p v).1 200 1 = ((p + 1 : Nat) : Int) := by unfold MY; rw [pI_at]; rfl
theorem ap_4 {y : Int} {p : Nat} {t : St} (hN : 10 ≤ N) (h : t.1 301 1 = p) (hp : p + 4 ≤ 4096) : f_X10_append N y t = some (HY (HY (HY (HY t p (b8 (iushrZ y 24))) (p + 1) (b8 (iushrZ y 16))) (p + 2) (b8 (iushrZ y 8))) (p + 3) (b8 (iushrZ y 0))) := by
  obtain ⟨q, rfl⟩ : ∃ q, N = q + 5 := ⟨N - 5, by omega⟩
  unfold f_X10_append
  rw [show q + 5 = (q + 4) + 1 from rfl, ap_s h (by omega) (by omega), show (24 : Int) + (-8) = 16 from rfl, show q + 4 = (q + 3) + 1 from rfl, ap_s HY1 (by omega) (by omega), show (16 : Int) + (-8) = 8 from rfl, show q + 3 = (q + 2) + 1 from rfl, ap_s HY1 (by omega) (by omega), show (8 : Int) + (-8) = 0 from rfl, show q + 2 = (q + 1) + 1 from rfl, ap_s HY1 (by omega) (by omega), show (0 : Int) + (-8) = -8 from rfl, ap_e]
theorem fe_s {K : St → Option (Int × St)} {y2 y3 y4 y5 y6 : Int} {q p x : Nat} {m : St} (h : m.1 200 1 = p) (hp : p < 4096) (hx : x < 20) : f_X12_feed_L18 K y2 y3 y4 y5 y6 (q + 1) x m = f_X12_feed_L18 K y2 y3 y4 y5 y6 q ((x + 1 : Nat) : Int) (MY m p (b8 (ishrZ (if x < 4 then y2 else if x < 8 then y3 else if x < 12 then y4 else if x < 16 then y5 else y6) (24 - 8 * ((x : Int) % 4))))) := by
  conv => lhs; unfold f_X12_feed_L18
  simp only [lt1_k, jn1_k]
  rw [cmpI_ok (by omega), if_pos (by omega), cmpI_ok (by omega), cmpI_ok (by omega), cmpI_ok (by omega), cmpI_ok (by omega)]
  have main : ∀ z : Int, (ixI (m.1 200 1) 4096 (f_X12_feed_L18 K y2 y3 y4 y5 y6 q ((x : Int) + 1) (pI (pI m 0 (m.1 200 1).toNat (b8 (b8 (ishrZ z (24 - 8 * ((x : Int) % 4)))))) 200 1 ((pI m 0 (m.1 200 1).toNat (b8 (b8 (ishrZ z (24 - 8 * ((x : Int) % 4)))))).1 200 1 + 1)))) = f_X12_feed_L18 K y2 y3 y4 y5 y6 q ((x + 1 : Nat) : Int) (MY m p (b8 (ishrZ z (24 - 8 * ((x : Int) % 4))))) := by
    intro z
    rw [pI_ne (show (200 : Nat) ≠ 0 by decide), h, ixI_ok (by omega), Int.toNat_natCast, b8_b8]
    rfl
  by_cases x1 : x < 4
  · rw [if_pos (show (x : Int) < 4 by omega), if_pos x1]; exact main y2
  rw [if_neg (show ¬ (x : Int) < 4 by omega), if_neg x1]
  by_cases x2 : x < 8
  · rw [if_pos (show (x : Int) < 8 by omega), if_pos x2]; exact main y3
  rw [if_neg (show ¬ (x : Int) < 8 by omega), if_neg x2]
  by_cases x3 : x < 12
  · rw [if_pos (show (x : Int) < 12 by omega), if_pos x3]; exact main y4
  rw [if_neg (show ¬ (x : Int) < 12 by omega), if_neg x3]
  by_cases x4 : x < 16
  · rw [if_pos (show (x : Int) < 16 by omega), if_pos x4]; exact main y5
  rw [if_neg (show ¬ (x : Int) < 16 by omega), if_neg x4]; exact main y6
theorem fe_4 {K : St → Option (Int × St)} {y2 y3 y4 y5 y6 z : Int} {q p x : Nat} {m : St} (h : m.1 200 1 = p) (hp : p + 4 ≤ 4096) (hx : x < 5) (hz : z = (if x = 0 then y2 else if x = 1 then y3 else if x = 2 then y4 else if x = 3 then y5 else y6)) : f_X12_feed_L18 K y2 y3 y4 y5 y6 (q + 4) ((4 * x : Nat) : Int) m = f_X12_feed_L18 K y2 y3 y4 y5 y6 q ((4 * (x + 1) : Nat) : Int) (MY (MY (MY (MY m p (b8 (ishrZ z 24))) (p + 1) (b8 (ishrZ z 16))) (p + 2) (b8 (ishrZ z 8))) (p + 3) (b8 (ishrZ z 0))) := by
  have hh : ∀ i, i < 4 → (if 4 * x + i < 4 then y2 else if 4 * x + i < 8 then y3 else if 4 * x + i < 12 then y4 else if 4 * x + i < 16 then y5 else y6) = z := by
    intro i hi
    rw [hz]
    by_cases x0 : x = 0
    · rw [if_pos (by omega), if_pos x0]
    rw [if_neg (by omega), if_neg x0]
    by_cases x1 : x = 1
    · rw [if_pos (by omega), if_pos x1]
    rw [if_neg (by omega), if_neg x1]
    by_cases x2 : x = 2
    · rw [if_pos (by omega), if_pos x2]
    rw [if_neg (by omega), if_neg x2]
    by_cases x3 : x = 3
    · rw [if_pos (by omega), if_pos x3]
    rw [if_neg (by omega), if_neg x3]
  have e0 := hh 0 (by omega)
  rw [Nat.add_zero] at e0
  rw [show q + 4 = (q + 3) + 1 from rfl, fe_s h (by omega) (by omega), e0, show 24 - 8 * (((4 * x : Nat) : Int) % 4) = 24 by omega, show q + 3 = (q + 2) + 1 from rfl, fe_s MY1 (by omega) (by omega), hh 1 (by omega), show 24 - 8 * (((4 * x + 1 : Nat) : Int) % 4) = 16 by omega, show q + 2 = (q + 1) + 1 from rfl, fe_s MY1 (by omega) (by omega), show 4 * x + 1 + 1 = 4 * x + 2 from rfl, hh 2 (by omega), show 24 - 8 * (((4 * x + 2 : Nat) : Int) % 4) = 8 by omega, fe_s MY1 (by omega) (by omega), show 4 * x + 2 + 1 = 4 * x + 3 from rfl, hh 3 (by omega), show 24 - 8 * (((4 * x + 3 : Nat) : Int) % 4) = 0 by omega, show 4 * x + 3 + 1 = 4 * (x + 1) by omega]
theorem FDr.s4 {t0 m0 t m : St} {p : Nat} {y : Int} (h : FDr t0 m0 p t m) (hy : inR y) : FDr t0 m0 (p + 4) (HY (HY (HY (HY t p (b8 (iushrZ y 24))) (p + 1) (b8 (iushrZ y 16))) (p + 2) (b8 (iushrZ y 8))) (p + 3) (b8 (iushrZ y 0))) (MY (MY (MY (MY m p (b8 (ishrZ y 24))) (p + 1) (b8 (ishrZ y 16))) (p + 2) (b8 (ishrZ y 8))) (p + 3) (b8 (ishrZ y 0))) := by
  obtain ⟨b1, b2, b3, b4⟩ := by_b hy
  exact (((h.s ⟨_, rfl⟩ b1).s ⟨_, rfl⟩ b2).s ⟨_, rfl⟩ b3).s ⟨_, rfl⟩ b4
/-- feed against feed -/
theorem feed_both {t m : St} {a0 a1 a2 a3 a4 : Int} (hN : 100 ≤ N) (hT : TXt t m) (h0 : inR a0) (h1 : inR a1) (h2 : inR a2) (h3 : inR a3) (h4 : inR a4) : ∃ (r : Int) (p : Nat) (u v : St), f_X11_feed N a0 a1 a2 a3 a4 t = some (r, u) ∧ f_X12_feed N a0 a1 a2 a3 a4 m = some (r, v) ∧ (r = 0 ∨ r = 1) ∧ p ≤ 4096 ∧ FDr t m p u v := by
  obtain ⟨⟨e, he, x1, x2, x3⟩, hby⟩ := hT
  have hF0 : FDr t m e t m := ⟨⟨x1, x2⟩, x3, hby, fun _ _ _ => rfl, fun _ _ => rfl, rfl, fun _ _ _ => rfl, fun _ _ => rfl, rfl⟩
  unfold f_X11_feed f_X12_feed f_X10_hasRoom
  simp only [lt1_k]
  rw [x1, x2, cmpI_ok (by omega), cmpI_ok (by omega)]
  by_cases hr : 4096 < (e : Int) + 20
  · rw [if_pos hr, if_pos hr, boI_0, bdI_s, cmpI_ok (by omega), if_pos rfl, boI_0, boI_0]
    exact ⟨0, e, t, m, rfl, rfl, Or.inl rfl, he, hF0⟩
  · rw [if_neg hr, if_neg hr, boI_1, bdI_s, cmpI_ok (by omega), if_neg (by decide)]
    obtain ⟨q, rfl⟩ : ∃ q, N = q + 21 := ⟨N - 21, by omega⟩
    have F1 := hF0.s4 h0
    have F2 := F1.s4 h1
    have F3 := F2.s4 h2
    have F4 := F3.s4 h3
    have F5 := F4.s4 h4
    rw [ap_4 (by omega) hF0.1.1 (by omega), bdV_s, ap_4 (by omega) F1.1.1 (by omega), bdV_s, ap_4 (by omega) F2.1.1 (by omega), bdV_s, ap_4 (by omega) F3.1.1 (by omega), bdV_s, ap_4 (by omega) F4.1.1 (by omega), bdV_s, boI_1]
    have m1 := fe_4 (K := fun (t17 : St) => boI 1 (some (1, t17))) (y2 := a0) (y3 := a1) (y4 := a2) (y5 := a3) (y6 := a4) (z := a0) (q := q + 17) (x := 0) hF0.1.2 (by omega) (by omega) rfl
    have m2 := fe_4 (K := fun (t17 : St) => boI 1 (some (1, t17))) (y2 := a0) (y3 := a1) (y4 := a2) (y5 := a3) (y6 := a4) (z := a1) (q := q + 13) (x := 1) F1.1.2 (by omega) (by omega) rfl
    have m3 := fe_4 (K := fun (t17 : St) => boI 1 (some (1, t17))) (y2 := a0) (y3 := a1) (y4 := a2) (y5 := a3) (y6 := a4) (z := a2) (q := q + 9) (x := 2) F2.1.2 (by omega) (by omega) rfl
    have m4 := fe_4 (K := fun (t17 : St) => boI 1 (some (1, t17))) (y2 := a0) (y3 := a1) (y4 := a2) (y5 := a3) (y6 := a4) (z := a3) (q := q + 5) (x := 3) F3.1.2 (by omega) (by omega) rfl
    have m5 := fe_4 (K := fun (t17 : St) => boI 1 (some (1, t17))) (y2 := a0) (y3 := a1) (y4 := a2) (y5 := a3) (y6 := a4) (z := a4) (q := q + 1) (x := 4) F4.1.2 (by omega) (by omega) rfl
    have m6 := (((m1.trans m2).trans m3).trans m4).trans m5
    refine ⟨1, e + 4 + 4 + 4 + 4 + 4, _, _, rfl, ?_, Or.inr rfl, by omega, F5⟩
    refine m6.trans ?_
    conv => lhs; unfold f_X12_feed_L18
    rw [cmpI_ok (by omega), if_neg (by omega), boI_1]
/-- end against end -/
theorem end_both {t m : St} {a0 : Int} (hT : TXt t m) (h0 : inR a0) : ∃ (r : Int) (p : Nat) (u v : St), f_X11_end N a0 t = some (r, u) ∧ f_X12_end N a0 m = some (r, v) ∧ (r = 0 ∨ r = 1) ∧ p ≤ 4096 ∧ FDr t m p u v := by
  obtain ⟨⟨e, he, x1, x2, x3⟩, hby⟩ := hT
  have hF0 : FDr t m e t m := ⟨⟨x1, x2⟩, x3, hby, fun _ _ _ => rfl, fun _ _ => rfl, rfl, fun _ _ _ => rfl, fun _ _ => rfl, rfl⟩
  unfold f_X11_end f_X12_end f_X10_cut
  simp only [lt1_k]
  rw [x1, x2, cmpI_ok (show inR a0 ∧ inR (0 : Int) by omega), cmpI_ok (show inR a0 ∧ inR (0 : Int) by omega)]
  by_cases z0 : a0 < 0
  · rw [if_pos z0, if_pos z0, boI_0, bdI_s, boI_0, boI_0]
    exact ⟨0, e, t, m, rfl, rfl, Or.inl rfl, he, hF0⟩
  · rw [if_neg z0, if_neg z0, cmpI_ok (by omega), cmpI_ok (by omega)]
    by_cases z1 : (e : Int) < a0
    · rw [if_pos z1, if_pos z1, boI_0, bdI_s, boI_0, boI_0]
      exact ⟨0, e, t, m, rfl, rfl, Or.inl rfl, he, hF0⟩
    · rw [if_neg z1, if_neg z1, boI_1, bdI_s, boI_1, boI_1]
      obtain ⟨p, hp⟩ := Int.eq_ofNat_of_zero_le (show 0 ≤ a0 by omega)
      subst hp
      refine ⟨1, p, _, _, rfl, rfl, Or.inr rfl, by omega, ⟨by rw [pI_at], by rw [pI_at]⟩, fun i hi => ?_, ?_, fun x h1 h2 => by rw [pI_ne h1], fun y hy => by rw [pI_nf hy], rfl, fun x h1 h2 => by rw [pI_ne h2], fun y hy => by rw [pI_nf hy], rfl⟩
      · rw [pI_ne (by decide), pI_ne (by decide)]; exact x3 i (by omega)
      · unfold mBy
        rw [pI_ne (by decide)]
        exact hby
end
