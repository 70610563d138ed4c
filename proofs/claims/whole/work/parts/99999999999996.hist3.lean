/-! the model's history: back -/
section
variable {N n : Nat}
theorem bakL (h64 : n ≤ 64) {i : Nat} (hi : i < 201) : ∀ (j x q : Nat) (τ : St), x + j = n → j < q → τ.1 200 37 = n → ∃ u : St, (∀ K : St → Option (Int × St), f_X12_back_L55 K (i : Int) q (x : Int) τ = K u) ∧ (∀ a, (a < 38 ∨ 41 < a) → u.1 a = τ.1 a) ∧ u.2 = τ.2 ∧ (∀ d, d < x → u.1 38 d = τ.1 38 d ∧ u.1 39 d = τ.1 39 d ∧ u.1 40 d = τ.1 40 d ∧ u.1 41 d = τ.1 41 d) ∧ (∀ d, x ≤ d → d < n → u.1 38 d = τ.1 61 (256 * i + 4 * d) ∧ u.1 39 d = τ.1 61 (256 * i + 4 * d + 1) ∧ u.1 40 d = τ.1 61 (256 * i + 4 * d + 2) ∧ u.1 41 d = τ.1 61 (256 * i + 4 * d + 3)) := by
  intro j
  induction j with
  | zero =>
    intro x q τ hx hq h37
    obtain ⟨q, rfl⟩ : ∃ q', q = q' + 1 := ⟨q - 1, by omega⟩
    refine ⟨τ, fun K => ?_, fun _ _ => rfl, rfl, fun _ _ => ⟨rfl, rfl, rfl, rfl⟩, fun d z1 z2 => by omega⟩
    unfold f_X12_back_L55
    simp only [lt1_k]
    rw [h37, cmpI_ok (by omega), if_neg (by omega)]
  | succ j ih =>
    intro x q τ hx hq h37
    obtain ⟨q, rfl⟩ : ∃ q', q = q' + 1 := ⟨q - 1, by omega⟩
    have hxn : x < n := by omega
    generalize hw : pI (pI (pI (pI τ 38 x (τ.1 61 (256 * i + 4 * x))) 39 x (τ.1 61 (256 * i + 4 * x + 1))) 40 x (τ.1 61 (256 * i + 4 * x + 2))) 41 x (τ.1 61 (256 * i + 4 * x + 3)) = w
    have w1 : ∀ a, (a < 38 ∨ 41 < a) → w.1 a = τ.1 a := fun a ha => by rw [← hw, pI_ne (by omega), pI_ne (by omega), pI_ne (by omega), pI_ne (by omega)]
    have w2 : w.2 = τ.2 := by rw [← hw]; rfl
    have w3 : ∀ a d, d ≠ x → w.1 a d = τ.1 a d := fun a d hd => by rw [← hw, pI_nf hd, pI_nf hd, pI_nf hd, pI_nf hd]
    have w38 : w.1 38 x = τ.1 61 (256 * i + 4 * x) := by rw [← hw, pI_ne (by decide), pI_ne (by decide), pI_ne (by decide), pI_at]
    have w39 : w.1 39 x = τ.1 61 (256 * i + 4 * x + 1) := by rw [← hw, pI_ne (by decide), pI_ne (by decide), pI_at]
    have w40 : w.1 40 x = τ.1 61 (256 * i + 4 * x + 2) := by rw [← hw, pI_ne (by decide), pI_at]
    have w41 : w.1 41 x = τ.1 61 (256 * i + 4 * x + 3) := by rw [← hw, pI_at]
    obtain ⟨u, g1, g2, g3, g4, g5⟩ := ih (x + 1) q w (by omega) (by omega) (by rw [w1 200 (by omega)]; exact h37)
    refine ⟨u, fun K => ?_, fun a ha => by rw [g2 a ha, w1 a ha], by rw [g3, w2], fun d hd => ?_, fun d z1 z2 => ?_⟩
    · rw [← g1 K, ← hw]
      conv => lhs; unfold f_X12_back_L55
      simp only [lt1_k]
      have e0 : (256 * (i : Int) + 4 * (x : Int)).toNat = 256 * i + 4 * x := by omega
      have e1 : (256 * (i : Int) + 4 * (x : Int) + 1).toNat = 256 * i + 4 * x + 1 := by omega
      have e2 : (256 * (i : Int) + 4 * (x : Int) + 2).toNat = 256 * i + 4 * x + 2 := by omega
      have e3 : (256 * (i : Int) + 4 * (x : Int) + 3).toNat = 256 * i + 4 * x + 3 := by omega
      rw [h37, cmpI_ok (by omega), if_pos (by omega), ixI_ok (by omega), ixI_ok (by omega), ixI_ok (by omega), ixI_ok (by omega), ixI_ok (by omega), ixI_ok (by omega), ixI_ok (by omega), ixI_ok (by omega), e0, e1, e2, e3, Int.toNat_natCast, show (x : Int) + 1 = ((x + 1 : Nat) : Int) by omega]
      have o1 : ∀ (y : Nat) (v : Int), (pI τ 38 x v).1 61 y = τ.1 61 y := fun y v => by rw [pI_ne (by decide)]
      have o2 : ∀ (y : Nat) (v v2 : Int), (pI (pI τ 38 x v) 39 x v2).1 61 y = τ.1 61 y := fun y v v2 => by rw [pI_ne (by decide), pI_ne (by decide)]
      have o3 : ∀ (y : Nat) (v v2 v3 : Int), (pI (pI (pI τ 38 x v) 39 x v2) 40 x v3).1 61 y = τ.1 61 y := fun y v v2 v3 => by rw [pI_ne (by decide), pI_ne (by decide), pI_ne (by decide)]
      rw [o1, o2, o3]
    · have h := g4 d (by omega)
      rw [w3 38 d (by omega), w3 39 d (by omega), w3 40 d (by omega), w3 41 d (by omega)] at h
      exact h
    · by_cases hd : d = x
      · have h := g4 d (by omega)
        rw [hd] at h ⊢
        rw [w38, w39, w40, w41] at h
        exact h
      · have h := g5 d (by omega) z2
        rw [w1 61 (by omega)] at h
        exact h
theorem bakS {i k : Nat} (hi : i < 201) (hk : k < 1600) : ∀ (j x q : Nat) (τ : St), x + j = k → j < q → τ.1 200 51 = k → ∃ u : St, (∀ K : St → Option (Int × St), f_X12_back_L205 K (i : Int) q (x : Int) τ = K u) ∧ (∀ a, (a < 55 ∨ 57 < a) → u.1 a = τ.1 a) ∧ (∀ a, a ≠ 58 → u.2 a = τ.2 a) ∧ (∀ d, d < x → u.1 55 d = τ.1 55 d ∧ u.1 56 d = τ.1 56 d ∧ u.1 57 d = τ.1 57 d ∧ u.2 58 d = τ.2 58 d) ∧ (∀ d, x ≤ d → d < k → u.1 55 d = un1 (τ.2 65 (1600 * i + d)) ∧ u.1 56 d = un2 (τ.2 65 (1600 * i + d)) ∧ u.1 57 d = un3 (τ.2 65 (1600 * i + d)) ∧ u.2 58 d = τ.2 66 (1600 * i + d)) := by
  intro j
  induction j with
  | zero =>
    intro x q τ hx hq h51
    obtain ⟨q, rfl⟩ : ∃ q', q = q' + 1 := ⟨q - 1, by omega⟩
    refine ⟨τ, fun K => ?_, fun _ _ => rfl, fun _ _ => rfl, fun _ _ => ⟨rfl, rfl, rfl, rfl⟩, fun d z1 z2 => by omega⟩
    unfold f_X12_back_L205
    simp only [lt1_k]
    rw [h51, cmpI_ok (by omega), if_neg (by omega)]
  | succ j ih =>
    intro x q τ hx hq h51
    obtain ⟨q, rfl⟩ : ∃ q', q = q' + 1 := ⟨q - 1, by omega⟩
    have hxn : x < k := by omega
    generalize hw : pL (pI (pI (pI τ 55 x (un1 (τ.2 65 (1600 * i + x)))) 56 x (un2 (τ.2 65 (1600 * i + x)))) 57 x (un3 (τ.2 65 (1600 * i + x)))) 58 x (τ.2 66 (1600 * i + x)) = w
    have wI : w.1 = (pI (pI (pI τ 55 x (un1 (τ.2 65 (1600 * i + x)))) 56 x (un2 (τ.2 65 (1600 * i + x)))) 57 x (un3 (τ.2 65 (1600 * i + x)))).1 := by rw [← hw]; rfl
    have w1 : ∀ a, (a < 55 ∨ 57 < a) → w.1 a = τ.1 a := fun a ha => by rw [wI, pI_ne (by omega), pI_ne (by omega), pI_ne (by omega)]
    have w2 : ∀ a, a ≠ 58 → w.2 a = τ.2 a := fun a ha => by rw [← hw, pL_ne ha]; rfl
    have w3 : ∀ a d, d ≠ x → w.1 a d = τ.1 a d := fun a d hd => by rw [wI, pI_nf hd, pI_nf hd, pI_nf hd]
    have w4 : ∀ d, d ≠ x → w.2 58 d = τ.2 58 d := fun d hd => by rw [← hw, pL_nf hd]; rfl
    have w55 : w.1 55 x = un1 (τ.2 65 (1600 * i + x)) := by rw [wI, pI_ne (by decide), pI_ne (by decide), pI_at]
    have w56 : w.1 56 x = un2 (τ.2 65 (1600 * i + x)) := by rw [wI, pI_ne (by decide), pI_at]
    have w57 : w.1 57 x = un3 (τ.2 65 (1600 * i + x)) := by rw [wI, pI_at]
    have w58 : w.2 58 x = τ.2 66 (1600 * i + x) := by rw [← hw, pL_at]
    obtain ⟨u, g1, g2, g3, g4, g5⟩ := ih (x + 1) q w (by omega) (by omega) (by rw [w1 200 (by omega)]; exact h51)
    refine ⟨u, fun K => ?_, fun a ha => by rw [g2 a ha, w1 a ha], fun a ha => by rw [g3 a ha, w2 a ha], fun d hd => ?_, fun d z1 z2 => ?_⟩
    · rw [← g1 K, ← hw]
      conv => lhs; unfold f_X12_back_L205
      simp only [lt1_k]
      have e0 : (1600 * (i : Int) + (x : Int)).toNat = 1600 * i + x := by omega
      rw [h51, cmpI_ok (by omega), if_pos (by omega), ixI_ok (by omega), ixI_ok (by omega), ixI_ok (by omega), ixI_ok (by omega), ixI_ok (by omega), ixI_ok (by omega), e0, Int.toNat_natCast, show (x : Int) + 1 = ((x + 1 : Nat) : Int) by omega]
      rfl
    · have h := g4 d (by omega)
      rw [w3 55 d (by omega), w3 56 d (by omega), w3 57 d (by omega), w4 d (by omega)] at h
      exact h
    · by_cases hd : d = x
      · have h := g4 d (by omega)
        rw [hd] at h ⊢
        rw [w55, w56, w57, w58] at h
        exact h
      · have h := g5 d (by omega) z2
        rw [w2 65 (by decide), w2 66 (by decide)] at h
        exact h
/-- the model has gone back to what it wrote down at i -/
def BKm (n i : Nat) (a0 : Int) (m w : St) : Prop := (∀ a, (a < 38 ∨ (41 < a ∧ a < 55) ∨ (57 < a ∧ a ≠ 200)) → w.1 a = m.1 a) ∧ (∀ b, (b < 42 ∨ (43 < b ∧ b < 50) ∨ (52 < b ∧ b < 59) ∨ 60 < b) → w.1 200 b = m.1 200 b) ∧ (w.1 200 60 = i ∧ w.1 200 59 = m.1 200 59 - a0 ∧ w.1 200 42 = m.1 62 i ∧ w.1 200 43 = m.1 63 i) ∧ (∀ d, d < n → w.1 38 d = m.1 61 (256 * i + 4 * d) ∧ w.1 39 d = m.1 61 (256 * i + 4 * d + 1) ∧ w.1 40 d = m.1 61 (256 * i + 4 * d + 2) ∧ w.1 41 d = m.1 61 (256 * i + 4 * d + 3)) ∧ (∀ a, a ≠ 58 → w.2 a = m.2 a) ∧ ((m.1 64 i = -1 ∧ w.1 200 50 = 0) ∨ (∃ k : Nat, m.1 64 i = ((k + 1 : Nat) : Int) ∧ w.1 200 50 = 1 ∧ w.1 200 51 = ((k + 1 : Nat) : Int) ∧ w.1 200 52 = 0 ∧ ∀ j, j ≤ k → w.1 55 j = un1 (m.2 65 (1600 * i + j)) ∧ w.1 56 j = un2 (m.2 65 (1600 * i + j)) ∧ w.1 57 j = un3 (m.2 65 (1600 * i + j)) ∧ w.2 58 j = m.2 66 (1600 * i + j)))
theorem m_back {m : St} {i : Nat} {a0 : Int} (h64 : n ≤ 64) (h37 : m.1 200 37 = n) (h59 : 0 < a0 ∧ a0 ≤ m.1 200 59 ∧ m.1 200 59 ≤ 200) (h60 : 0 ≤ m.1 200 60 ∧ m.1 200 60 ≤ 200) (hi : (m.1 200 60 + 201 - a0) % 201 = i) (hN : 1700 ≤ N) (hl : m.1 64 i = -1 ∨ ∃ k : Nat, m.1 64 i = ((k + 1 : Nat) : Int) ∧ k < 1500) : ∃ w : St, f_X12_back N a0 m = some (1, w) ∧ BKm n i a0 m w := by
  have hi2 : i < 201 := by omega
  generalize h5 : pI (pI m 200 60 i) 200 59 (m.1 200 59 - a0) = t5
  have t5o : ∀ a, a ≠ 200 → t5.1 a = m.1 a := fun a ha => by rw [← h5, pI_ne ha, pI_ne ha]
  have t5b : ∀ b, b ≠ 59 → b ≠ 60 → t5.1 200 b = m.1 200 b := fun b z1 z2 => by rw [← h5, pI_nf z1, pI_nf z2]
  have t60 : t5.1 200 60 = i := by rw [← h5, pI_nf (by decide), pI_at]
  have t59 : t5.1 200 59 = m.1 200 59 - a0 := by rw [← h5, pI_at]
  have t5L : t5.2 = m.2 := by rw [← h5]; rfl
  obtain ⟨u, g1, g2, g3, g4, g5⟩ := bakL (n := n) h64 hi2 n 0 N t5 (by omega) (by omega) (by rw [t5b 37 (by decide) (by decide)]; exact h37)
  obtain ⟨J, hJ⟩ : ∃ J : Int, J = if m.1 64 i = -1 then 0 else 1 := ⟨_, rfl⟩
  obtain ⟨D, hD⟩ : ∃ D : Int, D = if m.1 64 i = -1 then 0 else m.1 64 i := ⟨_, rfl⟩
  generalize hw : pI (pI (pI (pI (pI u 200 42 (m.1 62 i)) 200 43 (m.1 63 i)) 200 50 J) 200 51 D) 200 52 0 = w
  have wo : ∀ a, a ≠ 200 → w.1 a = u.1 a := fun a ha => by rw [← hw, pI_ne ha, pI_ne ha, pI_ne ha, pI_ne ha, pI_ne ha]
  have wb : ∀ b, (b < 42 ∨ (43 < b ∧ b < 50) ∨ 52 < b) → w.1 200 b = t5.1 200 b := fun b hb => by rw [← hw, pI_nf (by omega), pI_nf (by omega), pI_nf (by omega), pI_nf (by omega), pI_nf (by omega), g2 200 (by omega)]
  have w42 : w.1 200 42 = m.1 62 i := by rw [← hw, pI_nf (by decide), pI_nf (by decide), pI_nf (by decide), pI_nf (by decide), pI_at]
  have w43 : w.1 200 43 = m.1 63 i := by rw [← hw, pI_nf (by decide), pI_nf (by decide), pI_nf (by decide), pI_at]
  have w50 : w.1 200 50 = J := by rw [← hw, pI_nf (by decide), pI_nf (by decide), pI_at]
  have w51 : w.1 200 51 = D := by rw [← hw, pI_nf (by decide), pI_at]
  have w52 : w.1 200 52 = 0 := by rw [← hw, pI_at]
  have wL : w.2 = m.2 := by rw [← hw]; exact g3.trans t5L
  have u6 : ∀ a, (41 < a ∧ a ≠ 200) → u.1 a = m.1 a := fun a ha => by rw [g2 a (by omega), t5o a (by omega)]
  have key : f_X12_back N a0 m = f_X12_back_L205 (fun (t47 : St) => boI 1 (some (1, t47))) (i : Int) N 0 w := by
    unfold f_X12_back
    simp only [lt1_k]
    rw [cmpI_ok (by omega), if_neg (by omega), cmpI_ok (by omega), if_neg (by omega), cmpI_ok (by omega), if_neg (by omega), dvI_ok (by omega), hi, show (pI m 200 60 (i : Int)).1 200 59 = m.1 200 59 from pI_nf (by decide), h5, t60]
    rw [show (0 : Int) = ((0 : Nat) : Int) from rfl, g1]
    simp only [jn1_k]
    have a63 : (pI u 200 42 (m.1 62 i)).1 63 = m.1 63 := by rw [pI_ne (by decide), u6 63 (by omega)]
    have a64 : (pI (pI u 200 42 (m.1 62 i)) 200 43 (m.1 63 i)).1 64 = m.1 64 := by rw [pI_ne (by decide), pI_ne (by decide), u6 64 (by omega)]
    have a65 : (pI (pI (pI u 200 42 (m.1 62 i)) 200 43 (m.1 63 i)) 200 50 1).1 64 = m.1 64 := by rw [pI_ne (by decide), a64]
    rw [ixI_ok (by omega), Int.toNat_natCast, u6 62 (by omega), ixI_ok (by omega), a63, ixI_ok (by omega), a64]
    rw [hJ] at hw
    rw [hD] at hw
    rcases hl with l1 | ⟨k, l1, l2⟩
    · rw [if_pos l1, if_pos l1] at hw
      rw [l1, cmpI_ok (by omega), if_pos rfl]
      rw [show ((0 : Nat) : Int) = 0 from rfl, boI_0, pI_at, cmpI_ok (by omega), if_pos rfl, hw]
    · rw [if_neg (by omega), if_neg (by omega)] at hw
      rw [cmpI_ok (by omega), if_neg (by omega)]
      rw [show ((0 : Nat) : Int) = 0 from rfl, boI_1, pI_at, cmpI_ok (by omega), if_neg (by decide), ixI_ok (by omega), a65, hw]
  have wo2 : ∀ a, (a < 38 ∨ (41 < a ∧ a ≠ 200)) → w.1 a = m.1 a := fun a ha => by rw [wo a (by omega), g2 a (by omega), t5o a (by omega)]
  have wd : ∀ d, d < n → w.1 38 d = m.1 61 (256 * i + 4 * d) ∧ w.1 39 d = m.1 61 (256 * i + 4 * d + 1) ∧ w.1 40 d = m.1 61 (256 * i + 4 * d + 2) ∧ w.1 41 d = m.1 61 (256 * i + 4 * d + 3) := fun d hd => by
    have h := g5 d (by omega) hd
    rw [t5o 61 (by decide)] at h
    rw [wo 38 (by decide), wo 39 (by decide), wo 40 (by decide), wo 41 (by decide)]
    exact h
  rcases hl with l1 | ⟨k, l1, l2⟩
  · rw [if_pos l1] at hJ hD
    obtain ⟨v, s1, s2, s3, s4, s5⟩ := bakS (i := i) (k := 0) hi2 (by omega) 0 0 N w (by omega) (by omega) (by rw [w51, hD]; rfl)
    refine ⟨v, key.trans ((s1 _).trans boI_1), fun a ha => by rw [s2 a (by omega), wo2 a (by omega)], fun b hb => by rw [s2 200 (by omega), wb b (by omega), t5b b (by omega) (by omega)], ⟨by rw [s2 200 (by omega), wb 60 (by omega)]; exact t60, by rw [s2 200 (by omega), wb 59 (by omega)]; exact t59, by rw [s2 200 (by omega)]; exact w42, by rw [s2 200 (by omega)]; exact w43⟩, fun d hd => by rw [s2 38 (by omega), s2 39 (by omega), s2 40 (by omega), s2 41 (by omega)]; exact wd d hd, fun a ha => by rw [s3 a ha, wL], Or.inl ⟨l1, by rw [s2 200 (by omega), w50, hJ]⟩⟩
  · rw [if_neg (by omega)] at hJ hD
    obtain ⟨v, s1, s2, s3, s4, s5⟩ := bakS (i := i) (k := k + 1) hi2 (by omega) (k + 1) 0 N w (by omega) (by omega) (by rw [w51, hD]; exact l1)
    refine ⟨v, key.trans ((s1 _).trans boI_1), fun a ha => by rw [s2 a (by omega), wo2 a (by omega)], fun b hb => by rw [s2 200 (by omega), wb b (by omega), t5b b (by omega) (by omega)], ⟨by rw [s2 200 (by omega), wb 60 (by omega)]; exact t60, by rw [s2 200 (by omega), wb 59 (by omega)]; exact t59, by rw [s2 200 (by omega)]; exact w42, by rw [s2 200 (by omega)]; exact w43⟩, fun d hd => by rw [s2 38 (by omega), s2 39 (by omega), s2 40 (by omega), s2 41 (by omega)]; exact wd d hd, fun a ha => by rw [s3 a ha, wL], Or.inr ⟨k, l1, by rw [s2 200 (by omega), w50, hJ], by rw [s2 200 (by omega), w51, hD]; exact l1, by rw [s2 200 (by omega)]; exact w52, fun j hj => ?_⟩⟩
    have h := s5 j (by omega) (by omega)
    rw [wL] at h
    exact h
end
