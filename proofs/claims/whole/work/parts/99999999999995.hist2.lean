/-! the model's history: writes, keeps -/
section
variable {N n : Nat}
theorem wrt4 {τ : St} {b : Nat} {v0 v1 v2 v3 : Int} : ∃ w : St, w = pI (pI (pI (pI τ 61 b v0) 61 (b + 1) v1) 61 (b + 2) v2) 61 (b + 3) v3 ∧ (∀ a, a ≠ 61 → w.1 a = τ.1 a) ∧ w.2 = τ.2 ∧ (∀ y, (y < b ∨ b + 4 ≤ y) → w.1 61 y = τ.1 61 y) ∧ w.1 61 b = v0 ∧ w.1 61 (b + 1) = v1 ∧ w.1 61 (b + 2) = v2 ∧ w.1 61 (b + 3) = v3 := by
  refine ⟨_, rfl, fun a ha => by rw [pI_ne ha, pI_ne ha, pI_ne ha, pI_ne ha], rfl, fun y hy => by rw [pI_nf (by omega), pI_nf (by omega), pI_nf (by omega), pI_nf (by omega)], ?_, ?_, ?_, ?_⟩
  · rw [pI_nf (by omega), pI_nf (by omega), pI_nf (by omega), pI_at]
  · rw [pI_nf (by omega), pI_nf (by omega), pI_at]
  · rw [pI_nf (by omega), pI_at]
  · rw [pI_at]
theorem wrtL (h64 : n ≤ 64) {i : Nat} (hi : i < 201) : ∀ (j x q : Nat) (τ : St), x + j = n → j < q → τ.1 200 37 = n → ∃ u : St, (∀ K : St → Option St, f_X12_writes_L7 K (i : Int) q (x : Int) τ = K u) ∧ (∀ a, a ≠ 61 → u.1 a = τ.1 a) ∧ u.2 = τ.2 ∧ (∀ y, (y < 256 * i + 4 * x ∨ 256 * i + 4 * n ≤ y) → u.1 61 y = τ.1 61 y) ∧ (∀ d, x ≤ d → d < n → u.1 61 (256 * i + 4 * d) = τ.1 38 d ∧ u.1 61 (256 * i + 4 * d + 1) = τ.1 39 d ∧ u.1 61 (256 * i + 4 * d + 2) = τ.1 40 d ∧ u.1 61 (256 * i + 4 * d + 3) = τ.1 41 d) := by
  intro j
  induction j with
  | zero =>
    intro x q τ hx hq h37
    obtain ⟨q, rfl⟩ : ∃ q', q = q' + 1 := ⟨q - 1, by omega⟩
    refine ⟨τ, fun K => ?_, fun _ _ => rfl, rfl, fun _ _ => rfl, fun d z1 z2 => by omega⟩
    unfold f_X12_writes_L7
    simp only [lt1_k]
    rw [h37, cmpI_ok (by omega), if_neg (by omega)]
  | succ j ih =>
    intro x q τ hx hq h37
    obtain ⟨q, rfl⟩ : ∃ q', q = q' + 1 := ⟨q - 1, by omega⟩
    have hxn : x < n := by omega
    obtain ⟨w, hw, w1, w2, w3, w4, w5, w6, w7⟩ := wrt4 (τ := τ) (b := 256 * i + 4 * x) (v0 := τ.1 38 x) (v1 := τ.1 39 x) (v2 := τ.1 40 x) (v3 := τ.1 41 x)
    obtain ⟨u, g1, g2, g3, g4, g5⟩ := ih (x + 1) q w (by omega) (by omega) (by rw [w1 200 (by decide)]; exact h37)
    refine ⟨u, fun K => ?_, fun a ha => by rw [g2 a ha, w1 a ha], by rw [g3, w2], fun y hy => by rw [g4 y (by omega), w3 y (by omega)], fun d z1 z2 => ?_⟩
    · rw [← g1 K, hw]
      conv => lhs; unfold f_X12_writes_L7
      simp only [lt1_k]
      have e0 : (256 * (i : Int) + 4 * (x : Int)).toNat = 256 * i + 4 * x := by omega
      have e1 : (256 * (i : Int) + 4 * (x : Int) + 1).toNat = 256 * i + 4 * x + 1 := by omega
      have e2 : (256 * (i : Int) + 4 * (x : Int) + 2).toNat = 256 * i + 4 * x + 2 := by omega
      have e3 : (256 * (i : Int) + 4 * (x : Int) + 3).toNat = 256 * i + 4 * x + 3 := by omega
      rw [h37, cmpI_ok (by omega), if_pos (by omega), ixI_ok (by omega), ixI_ok (by omega), ixI_ok (by omega), ixI_ok (by omega), ixI_ok (by omega), ixI_ok (by omega), ixI_ok (by omega), ixI_ok (by omega), e0, e1, e2, e3, Int.toNat_natCast, show (x : Int) + 1 = ((x + 1 : Nat) : Int) by omega]
      rw [show (pI τ 61 (256 * i + 4 * x) (τ.1 38 x)).1 39 x = τ.1 39 x by rw [pI_ne (by decide)]]
      rw [show (pI (pI τ 61 (256 * i + 4 * x) (τ.1 38 x)) 61 (256 * i + 4 * x + 1) (τ.1 39 x)).1 40 x = τ.1 40 x by rw [pI_ne (by decide), pI_ne (by decide)]]
      rw [show (pI (pI (pI τ 61 (256 * i + 4 * x) (τ.1 38 x)) 61 (256 * i + 4 * x + 1) (τ.1 39 x)) 61 (256 * i + 4 * x + 2) (τ.1 40 x)).1 41 x = τ.1 41 x by rw [pI_ne (by decide), pI_ne (by decide), pI_ne (by decide)]]
    · by_cases hd : d = x
      · rw [hd, g4 _ (by omega), g4 _ (by omega), g4 _ (by omega), g4 _ (by omega)]
        exact ⟨w4, w5, w6, w7⟩
      · have h := g5 d (by omega) z2
        rw [w1 38 (by decide), w1 39 (by decide), w1 40 (by decide), w1 41 (by decide)] at h
        exact h
theorem wrtS {i k : Nat} (hi : i < 201) (hk : k < 1600) : ∀ (j x q : Nat) (τ : St), x + j = k → j < q → τ.1 200 51 = k → τ.1 200 50 = 1 → (∀ d, d < k → (0 ≤ τ.1 55 d ∧ τ.1 55 d < 65536) ∧ (0 ≤ τ.1 56 d ∧ τ.1 56 d < 65536) ∧ inR (τ.1 57 d)) → ∃ u : St, (∀ K : St → Option St, f_X12_writes_L128 K (i : Int) q (x : Int) τ = K u) ∧ u.1 = τ.1 ∧ (∀ a, a ≠ 65 → a ≠ 66 → u.2 a = τ.2 a) ∧ (∀ y, (y < 1600 * i + x ∨ 1600 * i + k ≤ y) → u.2 65 y = τ.2 65 y ∧ u.2 66 y = τ.2 66 y) ∧ (∀ d, x ≤ d → d < k → un1 (u.2 65 (1600 * i + d)) = τ.1 55 d ∧ un2 (u.2 65 (1600 * i + d)) = τ.1 56 d ∧ un3 (u.2 65 (1600 * i + d)) = τ.1 57 d ∧ u.2 66 (1600 * i + d) = τ.2 58 d) := by
  intro j
  induction j with
  | zero =>
    intro x q τ hx hq h51 h50 hr
    obtain ⟨q, rfl⟩ : ∃ q', q = q' + 1 := ⟨q - 1, by omega⟩
    refine ⟨τ, fun K => ?_, rfl, fun _ _ _ => rfl, fun _ _ => ⟨rfl, rfl⟩, fun d z1 z2 => by omega⟩
    unfold f_X12_writes_L128
    simp only [lt1_k]
    rw [h51, cmpI_ok (by omega), if_neg (by omega)]
  | succ j ih =>
    intro x q τ hx hq h51 h50 hr
    obtain ⟨q, rfl⟩ : ∃ q', q = q' + 1 := ⟨q - 1, by omega⟩
    have hxn : x < k := by omega
    obtain ⟨r1, r2, r3⟩ := hr x hxn
    generalize hw : pL (pL τ 65 (1600 * i + x) (pk3 (τ.1 55 x) (τ.1 56 x) (τ.1 57 x))) 66 (1600 * i + x) (τ.2 58 x) = w
    have w1 : w.1 = τ.1 := by rw [← hw]; rfl
    have w2 : ∀ a, a ≠ 65 → a ≠ 66 → w.2 a = τ.2 a := fun a z1 z2 => by rw [← hw, pL_ne z2, pL_ne z1]
    have w3 : ∀ y, y ≠ 1600 * i + x → w.2 65 y = τ.2 65 y ∧ w.2 66 y = τ.2 66 y := fun y hy => by
      rw [← hw]
      exact ⟨by rw [pL_nf hy, pL_nf hy], by rw [pL_nf hy, pL_nf hy]⟩
    have w4 : w.2 65 (1600 * i + x) = pk3 (τ.1 55 x) (τ.1 56 x) (τ.1 57 x) := by rw [← hw, pL_ne (by decide), pL_at]
    have w5 : w.2 66 (1600 * i + x) = τ.2 58 x := by rw [← hw, pL_at]
    obtain ⟨u, g1, g2, g3, g4, g5⟩ := ih (x + 1) q w (by omega) (by omega) (by rw [w1]; exact h51) (by rw [w1]; exact h50) (by rw [w1]; exact hr)
    refine ⟨u, fun K => ?_, by rw [g2, w1], fun a z1 z2 => by rw [g3 a z1 z2, w2 a z1 z2], fun y hy => ?_, fun d z1 z2 => ?_⟩
    · rw [← g1 K, ← hw]
      conv => lhs; unfold f_X12_writes_L128
      simp only [lt1_k]
      have e0 : (1600 * (i : Int) + (x : Int)).toNat = 1600 * i + x := by omega
      rw [h51, cmpI_ok (by omega), if_pos (by omega), h50, cmpI_ok (by omega), if_neg (by omega), ixI_ok (by omega), Int.toNat_natCast, rnI_ok (by omega), ixI_ok (by omega), rnI_ok (by omega), ixI_ok (by omega), rnI_ok r3, ixI_ok (by omega), ixI_ok (by omega), ixI_ok (by omega), e0, show (x : Int) + 1 = ((x + 1 : Nat) : Int) by omega]
      rw [show (pL τ 65 (1600 * i + x) (Int64.ofInt (τ.1 55 x) ||| shlL (Int64.ofInt (τ.1 56 x)) 16 ||| shlL (Int64.ofInt (τ.1 57 x)) 32)).2 58 x = τ.2 58 x by rw [pL_ne (by decide)]]
      rfl
    · have h1 := g4 y (by omega)
      have h2 := w3 y (by omega)
      exact ⟨h1.1.trans h2.1, h1.2.trans h2.2⟩
    · by_cases hd : d = x
      · have h1 := g4 (1600 * i + d) (by omega)
        rw [h1.1, h1.2, hd, w4, w5]
        have h2 := un_pk r1 r2 r3
        exact ⟨h2.1, h2.2.1, h2.2.2, rfl⟩
      · have h := g5 d (by omega) z2
        rw [w1, w2 58 (by decide) (by decide)] at h
        exact h
/-- the model has written down how all stand -/
def WRm (n i : Nat) (m w : St) : Prop := (∀ a, (a < 61 ∨ 64 < a) → w.1 a = m.1 a) ∧ (∀ y, (y < 256 * i ∨ 256 * i + 256 ≤ y) → w.1 61 y = m.1 61 y) ∧ (∀ y, y ≠ i → w.1 62 y = m.1 62 y ∧ w.1 63 y = m.1 63 y ∧ w.1 64 y = m.1 64 y) ∧ (∀ a, a ≠ 65 → a ≠ 66 → w.2 a = m.2 a) ∧ (∀ y, (y < 1600 * i ∨ 1600 * i + 1600 ≤ y) → w.2 65 y = m.2 65 y ∧ w.2 66 y = m.2 66 y)
def WRc (n i : Nat) (m w : St) : Prop := (∀ d, d < n → w.1 61 (256 * i + 4 * d) = m.1 38 d ∧ w.1 61 (256 * i + 4 * d + 1) = m.1 39 d ∧ w.1 61 (256 * i + 4 * d + 2) = m.1 40 d ∧ w.1 61 (256 * i + 4 * d + 3) = m.1 41 d) ∧ (w.1 62 i = m.1 200 42 ∧ w.1 63 i = m.1 200 43) ∧ ((m.1 200 50 = 0 ∧ w.1 64 i = -1) ∨ (m.1 200 50 = 1 ∧ ∃ k : Nat, m.1 200 51 = ((k + 1 : Nat) : Int) ∧ w.1 64 i = ((k + 1 : Nat) : Int) ∧ ∀ j, j ≤ k → un1 (w.2 65 (1600 * i + j)) = m.1 55 j ∧ un2 (w.2 65 (1600 * i + j)) = m.1 56 j ∧ un3 (w.2 65 (1600 * i + j)) = m.1 57 j ∧ w.2 66 (1600 * i + j) = m.2 58 j))
theorem m_writes {m : St} {i : Nat} (h64 : n ≤ 64) (h37 : m.1 200 37 = n) (hi : i < 201) (h60 : m.1 200 60 = i) (hN : 1700 ≤ N) (hl : (m.1 200 50 = 0 ∧ inR (m.1 200 51)) ∨ (m.1 200 50 = 1 ∧ ∃ k : Nat, m.1 200 51 = ((k + 1 : Nat) : Int) ∧ k < 1500 ∧ ∀ d, d ≤ k → (0 ≤ m.1 55 d ∧ m.1 55 d < 6000) ∧ (0 ≤ m.1 56 d ∧ m.1 56 d < 6000) ∧ inR (m.1 57 d))) : ∃ w : St, f_X12_writes N m = some w ∧ WRm n i m w ∧ WRc n i m w := by
  obtain ⟨u, g1, g2, g3, g4, g5⟩ := wrtL (n := n) h64 hi n 0 N m (by omega) (by omega) h37
  have g1' := g1 (fun (t15 : St) => lt1 (t15.1 200 42) fun v16 => ixI (i : Int) 201 (lt1 (pI t15 62 (i : Int).toNat v16) fun t17 => lt1 (t17.1 200 43) fun v18 => ixI (i : Int) 201 (lt1 (pI t17 63 (i : Int).toNat v18) fun t19 => lt1 (t19.1 200 50) fun v20 => jn1 (fun (j21 : Int) (t22 : St) => ixI (i : Int) 201 (lt1 (pI t22 64 (i : Int).toNat j21) fun t24 => f_X12_writes_L128 (fun (t37 : St) => some t37) (i : Int) N 0 t24)) fun J23 => cmpI v20 0 (if v20 = 0 then (J23 (-1) t19) else (lt1 (t19.1 200 51) fun v38 => J23 v38 t19)))))
  have u2 : u.1 200 = m.1 200 := g2 200 (by decide)
  obtain ⟨e, he⟩ : ∃ e : Int, e = if m.1 200 50 = 0 then -1 else m.1 200 51 := ⟨_, rfl⟩
  generalize hw : pI (pI (pI u 62 i (m.1 200 42)) 63 i (m.1 200 43)) 64 i e = w
  have w1 : ∀ a, (a < 62 ∨ 64 < a) → w.1 a = u.1 a := fun a ha => by rw [← hw, pI_ne (by omega), pI_ne (by omega), pI_ne (by omega)]
  have w2 : w.2 = m.2 := by rw [← hw]; exact g3
  have w3 : ∀ y, y ≠ i → w.1 62 y = m.1 62 y ∧ w.1 63 y = m.1 63 y ∧ w.1 64 y = m.1 64 y := fun y hy => by
    rw [← hw]
    exact ⟨by rw [pI_nf hy, pI_nf hy, pI_nf hy, g2 62 (by decide)], by rw [pI_nf hy, pI_nf hy, pI_nf hy, g2 63 (by decide)], by rw [pI_nf hy, pI_nf hy, pI_nf hy, g2 64 (by decide)]⟩
  have w62 : w.1 62 i = m.1 200 42 := by rw [← hw, pI_ne (by decide), pI_ne (by decide), pI_at]
  have w63 : w.1 63 i = m.1 200 43 := by rw [← hw, pI_ne (by decide), pI_at]
  have w64 : w.1 64 i = e := by rw [← hw, pI_at]
  have wm : ∀ a, (a < 61 ∨ 64 < a) → w.1 a = m.1 a := fun a ha => by rw [w1 a (by omega), g2 a (by omega)]
  have key : f_X12_writes N m = f_X12_writes_L128 (fun (t37 : St) => some t37) (i : Int) N 0 w := by
    unfold f_X12_writes
    rw [lt1_k, h60]
    rw [show ((0 : Nat) : Int) = 0 from rfl] at g1'
    refine g1'.trans ?_
    simp only [lt1_k, jn1_k]
    rw [ixI_ok (by omega), ixI_ok (by omega), Int.toNat_natCast, ixI_ok (by omega), ixI_ok (by omega)]
    have a1 : (pI u 62 i (u.1 200 42)).1 200 = m.1 200 := by rw [pI_ne (by decide), u2]
    rw [a1, u2]
    have a2 : (pI (pI u 62 i (m.1 200 42)) 63 i (m.1 200 43)).1 200 = m.1 200 := by rw [pI_ne (by decide), pI_ne (by decide), u2]
    rw [a2, ← hw, he]
    rcases hl with ⟨l1, l2⟩ | ⟨l1, _⟩
    · rw [l1, cmpI_ok (by omega), if_pos rfl, if_pos rfl]
    · rw [l1, cmpI_ok (by omega), if_neg (by decide), if_neg (by decide)]
  have w61 : ∀ d, d < n → w.1 61 (256 * i + 4 * d) = m.1 38 d ∧ w.1 61 (256 * i + 4 * d + 1) = m.1 39 d ∧ w.1 61 (256 * i + 4 * d + 2) = m.1 40 d ∧ w.1 61 (256 * i + 4 * d + 3) = m.1 41 d := fun d hd => by rw [w1 61 (by omega)]; exact g5 d (by omega) hd
  rcases hl with ⟨l1, l2⟩ | ⟨l1, k, l2, l3, l4⟩
  · refine ⟨w, ?_, ⟨wm, fun y hy => by rw [w1 61 (by omega)]; exact g4 y (by omega), w3, fun a _ _ => by rw [w2], fun y _ => by rw [w2]; exact ⟨rfl, rfl⟩⟩, w61, ⟨w62, w63⟩, Or.inl ⟨l1, by rw [w64, he, if_pos l1]⟩⟩
    rw [key]
    obtain ⟨N1, rfl⟩ : ∃ N1, N = N1 + 1 := ⟨N - 1, by omega⟩
    unfold f_X12_writes_L128
    simp only [lt1_k]
    rw [wm 200 (by omega), cmpI_ok ⟨by omega, l2⟩, l1]
    split
    · rw [cmpI_ok (by omega), if_pos rfl]
    · rfl
  · obtain ⟨v, s1, s2, s3, s4, s5⟩ := wrtS (i := i) (k := k + 1) hi (by omega) (k + 1) 0 N w (by omega) (by omega) (by rw [wm 200 (by omega)]; exact l2) (by rw [wm 200 (by omega)]; exact l1) (fun d hd => by
      obtain ⟨x1, x2, x3⟩ := l4 d (by omega)
      rw [wm 55 (by omega), wm 56 (by omega), wm 57 (by omega)]
      exact ⟨⟨x1.1, by omega⟩, ⟨x2.1, by omega⟩, x3⟩)
    refine ⟨v, key.trans (s1 _), ⟨fun a ha => by rw [s2]; exact wm a ha, fun y hy => by rw [s2, w1 61 (by omega)]; exact g4 y (by omega), fun y hy => by rw [s2]; exact w3 y hy, fun a z1 z2 => by rw [s3 a z1 z2, w2], fun y hy => by rw [← w2]; exact s4 y (by omega)⟩, fun d hd => by rw [s2]; exact w61 d hd, by rw [s2]; exact ⟨w62, w63⟩, Or.inr ⟨l1, k, l2, by rw [s2, w64, he, if_neg (by omega)]; exact l2, fun j hj => ?_⟩⟩
    have h := s5 j (by omega) (by omega)
    rw [wm 55 (by omega), wm 56 (by omega), wm 57 (by omega), w2] at h
    exact h
/-- the kept step counts, both sides -/
theorem keep_both {t m : St} {p s : Int} (h1 : t.1 309 1 = p ∧ m.1 200 60 = p ∧ 0 ≤ p ∧ p ≤ 200) (h2 : t.1 309 2 = s ∧ m.1 200 59 = s ∧ 0 ≤ s ∧ s ≤ 200) : f_X4_keep N t = some (pI (pI t 309 1 ((p + 1) % 201)) 309 2 (min (s + 1) 200)) ∧ f_X12_keeps N m = some (pI (pI m 200 60 ((p + 1) % 201)) 200 59 (min (s + 1) 200)) := by
  constructor
  · unfold f_X4_keep
    simp only [lt1_k]
    rw [h1.1, dvI_ok (by omega), pI_nf (by decide), h2.1, cmpI_ok (by omega)]
  · unfold f_X12_keeps
    simp only [lt1_k]
    rw [h1.2.1, dvI_ok (by omega), pI_nf (by decide), h2.2.1, cmpI_ok (by omega)]
    by_cases hs : s < 200
    · rw [if_pos hs, show min (s + 1) 200 = s + 1 by omega]
    · rw [if_neg hs, show min (s + 1) 200 = s + 0 by omega]
end
