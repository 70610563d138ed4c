/-! the model puts its floor and its run away, and takes them back -/
theorem sv_fl : ∀ (j x q : Nat) (m : St), x + j = 64 → j < q → ∃ v : St, (∀ K : St → Option St, f_X12_savesFloor_L2 K q x m = K v) ∧ (∀ a, a ≠ 104 → v.1 a = m.1 a) ∧ (∀ a e : Nat, e % 64 < x → v.1 a e = m.1 a e) ∧ (∀ d, x ≤ d → d < 64 → v.1 104 (0 + d) = m.1 38 (0 + d) ∧ v.1 104 (64 + d) = m.1 39 (0 + d) ∧ v.1 104 (128 + d) = m.1 40 (0 + d) ∧ v.1 104 (192 + d) = m.1 41 (0 + d)) ∧ v.2 = m.2 := by
  intro j
  induction j with
  | zero =>
    intro x q m h1 h2
    obtain ⟨q, rfl⟩ : ∃ q', q = q' + 1 := ⟨q - 1, by omega⟩
    refine ⟨m, fun K => ?_, fun _ _ => rfl, fun _ _ _ => rfl, fun d z1 z2 => by omega, rfl⟩
    conv => lhs; unfold f_X12_savesFloor_L2
    rw [cmpI_ok (by omega), if_neg (by omega)]
  | succ j ih =>
    intro x q m h1 h2
    obtain ⟨q, rfl⟩ : ∃ q', q = q' + 1 := ⟨q - 1, by omega⟩
    generalize hw : pI (pI (pI (pI m 104 (0 + x) (m.1 38 (0 + x))) 104 (64 + x) (m.1 39 (0 + x))) 104 (128 + x) (m.1 40 (0 + x))) 104 (192 + x) (m.1 41 (0 + x)) = w
    have wo : ∀ a, a ≠ 104 → w.1 a = m.1 a := fun a z0 => by rw [← hw]; rw [pI_ne z0, pI_ne z0, pI_ne z0, pI_ne z0]
    have wp : ∀ a e : Nat, e % 64 < x → w.1 a e = m.1 a e := fun a e he => by rw [← hw]; rw [pI_of (by omega), pI_of (by omega), pI_of (by omega), pI_of (by omega)]
    have w0 : w.1 104 (0 + x) = m.1 38 (0 + x) := by rw [← hw, pI_of (by omega), pI_of (by omega), pI_of (by omega), pI_at]
    have w1 : w.1 104 (64 + x) = m.1 39 (0 + x) := by rw [← hw, pI_of (by omega), pI_of (by omega), pI_at]
    have w2 : w.1 104 (128 + x) = m.1 40 (0 + x) := by rw [← hw, pI_of (by omega), pI_at]
    have w3 : w.1 104 (192 + x) = m.1 41 (0 + x) := by rw [← hw, pI_at]
    have wl : w.2 = m.2 := by rw [← hw]; rfl
    obtain ⟨v, g1, g2, g3, g4, g5⟩ := ih (x + 1) q w (by omega) (by omega)
    refine ⟨v, fun K => ?_, fun a z0 => by rw [g2 a z0, wo a z0], fun a e he => by rw [g3 a e (by omega), wp a e he], fun d z1 z2 => ?_, by rw [g5, wl]⟩
    · conv => lhs; unfold f_X12_savesFloor_L2
      simp only [lt1_k]
      rw [cmpI_ok (by omega), if_pos (by omega), ixI_ok (by omega), ixI_ok (by omega), ixI_ok (by omega), ixI_ok (by omega), ixI_ok (by omega), ixI_ok (by omega), ixI_ok (by omega), ixI_ok (by omega), Int.toNat_natCast, show ((64 : Int) + (x : Int)).toNat = 64 + x by omega, show ((128 : Int) + (x : Int)).toNat = 128 + x by omega, show ((192 : Int) + (x : Int)).toNat = 192 + x by omega, show (x : Int) + 1 = ((x + 1 : Nat) : Int) by omega]
      rw [← g1 K, ← hw]
      simp only [Nat.zero_add]
      have ne1 : ∀ (z : St) (i b : Nat) (y : Int), (pI z 104 i y).1 39 b = z.1 39 b ∧ (pI z 104 i y).1 40 b = z.1 40 b ∧ (pI z 104 i y).1 41 b = z.1 41 b := fun z i b y => ⟨by rw [pI_ne (by decide)], by rw [pI_ne (by decide)], by rw [pI_ne (by decide)]⟩
      simp only [show ∀ (z : St) (i b : Nat) (y : Int), (pI z 104 i y).1 39 b = z.1 39 b from fun z i b y => by rw [pI_ne (by decide)], show ∀ (z : St) (i b : Nat) (y : Int), (pI z 104 i y).1 40 b = z.1 40 b from fun z i b y => by rw [pI_ne (by decide)], show ∀ (z : St) (i b : Nat) (y : Int), (pI z 104 i y).1 41 b = z.1 41 b from fun z i b y => by rw [pI_ne (by decide)]]
      try rfl
    · by_cases hd : d = x
      · subst hd
        rw [g3 104 (0 + d) (by omega), g3 104 (64 + d) (by omega), g3 104 (128 + d) (by omega), g3 104 (192 + d) (by omega)]
        exact ⟨w0, w1, w2, w3⟩
      · have g := g4 d (by omega) z2
        rw [wo 38 (by decide), wo 39 (by decide), wo 40 (by decide), wo 41 (by decide)] at g
        exact g
theorem sv_ho : ∀ (j x q : Nat) (m : St), x + j = 64 → j < q → ∃ v : St, (∀ K : St → Option (Int × St), f_X12_times_L71 K q x m = K v) ∧ (∀ a, a ≠ 105 → v.1 a = m.1 a) ∧ (∀ a e : Nat, e % 64 < x → v.1 a e = m.1 a e) ∧ (∀ d, x ≤ d → d < 64 → v.1 105 (0 + d) = m.1 44 (0 + d) ∧ v.1 105 (64 + d) = m.1 45 (0 + d) ∧ v.1 105 (128 + d) = m.1 46 (0 + d)) ∧ v.2 = m.2 := by
  intro j
  induction j with
  | zero =>
    intro x q m h1 h2
    obtain ⟨q, rfl⟩ : ∃ q', q = q' + 1 := ⟨q - 1, by omega⟩
    refine ⟨m, fun K => ?_, fun _ _ => rfl, fun _ _ _ => rfl, fun d z1 z2 => by omega, rfl⟩
    conv => lhs; unfold f_X12_times_L71
    rw [cmpI_ok (by omega), if_neg (by omega)]
  | succ j ih =>
    intro x q m h1 h2
    obtain ⟨q, rfl⟩ : ∃ q', q = q' + 1 := ⟨q - 1, by omega⟩
    generalize hw : pI (pI (pI m 105 (0 + x) (m.1 44 (0 + x))) 105 (64 + x) (m.1 45 (0 + x))) 105 (128 + x) (m.1 46 (0 + x)) = w
    have wo : ∀ a, a ≠ 105 → w.1 a = m.1 a := fun a z0 => by rw [← hw]; rw [pI_ne z0, pI_ne z0, pI_ne z0]
    have wp : ∀ a e : Nat, e % 64 < x → w.1 a e = m.1 a e := fun a e he => by rw [← hw]; rw [pI_of (by omega), pI_of (by omega), pI_of (by omega)]
    have w0 : w.1 105 (0 + x) = m.1 44 (0 + x) := by rw [← hw, pI_of (by omega), pI_of (by omega), pI_at]
    have w1 : w.1 105 (64 + x) = m.1 45 (0 + x) := by rw [← hw, pI_of (by omega), pI_at]
    have w2 : w.1 105 (128 + x) = m.1 46 (0 + x) := by rw [← hw, pI_at]
    have wl : w.2 = m.2 := by rw [← hw]; rfl
    obtain ⟨v, g1, g2, g3, g4, g5⟩ := ih (x + 1) q w (by omega) (by omega)
    refine ⟨v, fun K => ?_, fun a z0 => by rw [g2 a z0, wo a z0], fun a e he => by rw [g3 a e (by omega), wp a e he], fun d z1 z2 => ?_, by rw [g5, wl]⟩
    · conv => lhs; unfold f_X12_times_L71
      simp only [lt1_k]
      rw [cmpI_ok (by omega), if_pos (by omega), ixI_ok (by omega), ixI_ok (by omega), ixI_ok (by omega), ixI_ok (by omega), ixI_ok (by omega), ixI_ok (by omega), Int.toNat_natCast, show ((64 : Int) + (x : Int)).toNat = 64 + x by omega, show ((128 : Int) + (x : Int)).toNat = 128 + x by omega, show (x : Int) + 1 = ((x + 1 : Nat) : Int) by omega]
      rw [← g1 K, ← hw]
      simp only [Nat.zero_add]
      have ne1 : ∀ (z : St) (i b : Nat) (y : Int), (pI z 105 i y).1 45 b = z.1 45 b ∧ (pI z 105 i y).1 46 b = z.1 46 b := fun z i b y => ⟨by rw [pI_ne (by decide)], by rw [pI_ne (by decide)]⟩
      simp only [show ∀ (z : St) (i b : Nat) (y : Int), (pI z 105 i y).1 45 b = z.1 45 b from fun z i b y => by rw [pI_ne (by decide)], show ∀ (z : St) (i b : Nat) (y : Int), (pI z 105 i y).1 46 b = z.1 46 b from fun z i b y => by rw [pI_ne (by decide)]]
      try rfl
    · by_cases hd : d = x
      · subst hd
        rw [g3 105 (0 + d) (by omega), g3 105 (64 + d) (by omega), g3 105 (128 + d) (by omega)]
        exact ⟨w0, w1, w2⟩
      · have g := g4 d (by omega) z2
        rw [wo 44 (by decide), wo 45 (by decide), wo 46 (by decide)] at g
        exact g
theorem sv_ru : ∀ (j x q : Nat) (m : St), x + j = 1600 → j < q → ∃ v : St, (∀ K : St → Option (Int × St), f_X12_times_L136 K q x m = K v) ∧ (∀ a, a ≠ 106 → a ≠ 107 → a ≠ 108 → v.1 a = m.1 a) ∧ (∀ a e : Nat, e < x → v.1 a e = m.1 a e) ∧ (∀ d, x ≤ d → d < 1600 → v.1 106 (0 + d) = m.1 55 (0 + d) ∧ v.1 107 (0 + d) = m.1 56 (0 + d) ∧ v.1 108 (0 + d) = m.1 57 (0 + d)) ∧ (∀ d, x ≤ d → d < 1600 → v.2 109 d = m.2 58 d) ∧ (∀ d, d < x → v.2 109 d = m.2 109 d) ∧ (∀ a, a ≠ 109 → v.2 a = m.2 a) := by
  intro j
  induction j with
  | zero =>
    intro x q m h1 h2
    obtain ⟨q, rfl⟩ : ∃ q', q = q' + 1 := ⟨q - 1, by omega⟩
    refine ⟨m, fun K => ?_, fun _ _ _ _ => rfl, fun _ _ _ => rfl, fun d z1 z2 => by omega, fun d z1 z2 => by omega, fun _ _ => rfl, fun _ _ => rfl⟩
    conv => lhs; unfold f_X12_times_L136
    rw [cmpI_ok (by omega), if_neg (by omega)]
  | succ j ih =>
    intro x q m h1 h2
    obtain ⟨q, rfl⟩ : ∃ q', q = q' + 1 := ⟨q - 1, by omega⟩
    generalize hw : pL (pI (pI (pI m 106 (0 + x) (m.1 55 (0 + x))) 107 (0 + x) (m.1 56 (0 + x))) 108 (0 + x) (m.1 57 (0 + x))) 109 x (m.2 58 x) = w
    have wo : ∀ a, a ≠ 106 → a ≠ 107 → a ≠ 108 → w.1 a = m.1 a := fun a z0 z1 z2 => by rw [← hw]; rw [pL_I, pI_ne z2, pI_ne z1, pI_ne z0]
    have wp : ∀ a e : Nat, e < x → w.1 a e = m.1 a e := fun a e he => by rw [← hw]; rw [pL_I, pI_of (by omega), pI_of (by omega), pI_of (by omega)]
    have w0 : w.1 106 (0 + x) = m.1 55 (0 + x) := by rw [← hw, pL_I, pI_of (by omega), pI_of (by omega), pI_at]
    have w1 : w.1 107 (0 + x) = m.1 56 (0 + x) := by rw [← hw, pL_I, pI_of (by omega), pI_at]
    have w2 : w.1 108 (0 + x) = m.1 57 (0 + x) := by rw [← hw, pL_I, pI_at]
    have wl : w.2 109 x = m.2 58 x := by rw [← hw, pL_at]
    have wl2 : ∀ d, d ≠ x → w.2 109 d = m.2 109 d := fun d hd => by rw [← hw, pL_nf hd]; rfl
    have wl3 : ∀ a, a ≠ 109 → w.2 a = m.2 a := fun a ha => by rw [← hw, pL_ne ha]; rfl
    obtain ⟨v, g1, g2, g3, g4, g5, g6, g7⟩ := ih (x + 1) q w (by omega) (by omega)
    refine ⟨v, fun K => ?_, fun a z0 z1 z2 => by rw [g2 a z0 z1 z2, wo a z0 z1 z2], fun a e he => by rw [g3 a e (by omega), wp a e he], fun d z1 z2 => ?_, fun d z1 z2 => ?_, fun d z => by rw [g6 d (by omega), wl2 d (by omega)], fun a ha => by rw [g7 a ha, wl3 a ha]⟩
    · conv => lhs; unfold f_X12_times_L136
      simp only [lt1_k]
      rw [cmpI_ok (by omega), if_pos (by omega), ixI_ok (by omega), ixI_ok (by omega), ixI_ok (by omega), ixI_ok (by omega), ixI_ok (by omega), ixI_ok (by omega), ixI_ok (by omega), ixI_ok (by omega), Int.toNat_natCast, show (x : Int) + 1 = ((x + 1 : Nat) : Int) by omega]
      rw [← g1 K, ← hw]
      simp only [Nat.zero_add]
      have ne1 : ∀ (z : St) (i b : Nat) (y : Int), (pI z 106 i y).1 56 b = z.1 56 b ∧ (pI z 106 i y).1 57 b = z.1 57 b ∧ (pI z 107 i y).1 57 b = z.1 57 b := fun z i b y => ⟨by rw [pI_ne (by decide)], by rw [pI_ne (by decide)], by rw [pI_ne (by decide)]⟩
      simp only [show ∀ (z : St) (i b : Nat) (y : Int), (pI z 106 i y).1 56 b = z.1 56 b from fun z i b y => by rw [pI_ne (by decide)], show ∀ (z : St) (i b : Nat) (y : Int), (pI z 106 i y).1 57 b = z.1 57 b from fun z i b y => by rw [pI_ne (by decide)], show ∀ (z : St) (i b : Nat) (y : Int), (pI z 107 i y).1 57 b = z.1 57 b from fun z i b y => by rw [pI_ne (by decide)]]
      try rfl
    · by_cases hd : d = x
      · subst hd
        rw [g3 106 (0 + d) (by omega), g3 107 (0 + d) (by omega), g3 108 (0 + d) (by omega)]
        exact ⟨w0, w1, w2⟩
      · have g := g4 d (by omega) z2
        rw [wo 55 (by decide) (by decide) (by decide), wo 56 (by decide) (by decide) (by decide), wo 57 (by decide) (by decide) (by decide)] at g
        exact g
    · by_cases hd : d = x
      · rw [hd, g6 x (by omega)]; exact wl
      · rw [g5 d (by omega) z2, wl3 58 (by decide)]
theorem gv_fl : ∀ (j x q : Nat) (m : St), x + j = 64 → j < q → ∃ v : St, (∀ K : St → Option St, f_X12_givesFloor_L2 K q x m = K v) ∧ (∀ a, a ≠ 38 → a ≠ 39 → a ≠ 40 → a ≠ 41 → v.1 a = m.1 a) ∧ (∀ a e : Nat, e < x → v.1 a e = m.1 a e) ∧ (∀ d, x ≤ d → d < 64 → v.1 38 (0 + d) = m.1 104 (0 + d) ∧ v.1 39 (0 + d) = m.1 104 (64 + d) ∧ v.1 40 (0 + d) = m.1 104 (128 + d) ∧ v.1 41 (0 + d) = m.1 104 (192 + d)) ∧ v.2 = m.2 := by
  intro j
  induction j with
  | zero =>
    intro x q m h1 h2
    obtain ⟨q, rfl⟩ : ∃ q', q = q' + 1 := ⟨q - 1, by omega⟩
    refine ⟨m, fun K => ?_, fun _ _ _ _ _ => rfl, fun _ _ _ => rfl, fun d z1 z2 => by omega, rfl⟩
    conv => lhs; unfold f_X12_givesFloor_L2
    rw [cmpI_ok (by omega), if_neg (by omega)]
  | succ j ih =>
    intro x q m h1 h2
    obtain ⟨q, rfl⟩ : ∃ q', q = q' + 1 := ⟨q - 1, by omega⟩
    generalize hw : pI (pI (pI (pI m 38 (0 + x) (m.1 104 (0 + x))) 39 (0 + x) (m.1 104 (64 + x))) 40 (0 + x) (m.1 104 (128 + x))) 41 (0 + x) (m.1 104 (192 + x)) = w
    have wo : ∀ a, a ≠ 38 → a ≠ 39 → a ≠ 40 → a ≠ 41 → w.1 a = m.1 a := fun a z0 z1 z2 z3 => by rw [← hw]; rw [pI_ne z3, pI_ne z2, pI_ne z1, pI_ne z0]
    have wp : ∀ a e : Nat, e < x → w.1 a e = m.1 a e := fun a e he => by rw [← hw]; rw [pI_of (by omega), pI_of (by omega), pI_of (by omega), pI_of (by omega)]
    have w0 : w.1 38 (0 + x) = m.1 104 (0 + x) := by rw [← hw, pI_of (by omega), pI_of (by omega), pI_of (by omega), pI_at]
    have w1 : w.1 39 (0 + x) = m.1 104 (64 + x) := by rw [← hw, pI_of (by omega), pI_of (by omega), pI_at]
    have w2 : w.1 40 (0 + x) = m.1 104 (128 + x) := by rw [← hw, pI_of (by omega), pI_at]
    have w3 : w.1 41 (0 + x) = m.1 104 (192 + x) := by rw [← hw, pI_at]
    have wl : w.2 = m.2 := by rw [← hw]; rfl
    obtain ⟨v, g1, g2, g3, g4, g5⟩ := ih (x + 1) q w (by omega) (by omega)
    refine ⟨v, fun K => ?_, fun a z0 z1 z2 z3 => by rw [g2 a z0 z1 z2 z3, wo a z0 z1 z2 z3], fun a e he => by rw [g3 a e (by omega), wp a e he], fun d z1 z2 => ?_, by rw [g5, wl]⟩
    · conv => lhs; unfold f_X12_givesFloor_L2
      simp only [lt1_k]
      rw [cmpI_ok (by omega), if_pos (by omega), ixI_ok (by omega), ixI_ok (by omega), ixI_ok (by omega), ixI_ok (by omega), ixI_ok (by omega), ixI_ok (by omega), ixI_ok (by omega), ixI_ok (by omega), Int.toNat_natCast, show ((64 : Int) + (x : Int)).toNat = 64 + x by omega, show ((128 : Int) + (x : Int)).toNat = 128 + x by omega, show ((192 : Int) + (x : Int)).toNat = 192 + x by omega, show (x : Int) + 1 = ((x + 1 : Nat) : Int) by omega]
      rw [← g1 K, ← hw]
      simp only [Nat.zero_add]
      have ne1 : ∀ (z : St) (i b : Nat) (y : Int), (pI z 38 i y).1 104 b = z.1 104 b ∧ (pI z 39 i y).1 104 b = z.1 104 b ∧ (pI z 40 i y).1 104 b = z.1 104 b := fun z i b y => ⟨by rw [pI_ne (by decide)], by rw [pI_ne (by decide)], by rw [pI_ne (by decide)]⟩
      simp only [show ∀ (z : St) (i b : Nat) (y : Int), (pI z 38 i y).1 104 b = z.1 104 b from fun z i b y => by rw [pI_ne (by decide)], show ∀ (z : St) (i b : Nat) (y : Int), (pI z 39 i y).1 104 b = z.1 104 b from fun z i b y => by rw [pI_ne (by decide)], show ∀ (z : St) (i b : Nat) (y : Int), (pI z 40 i y).1 104 b = z.1 104 b from fun z i b y => by rw [pI_ne (by decide)]]
      try rfl
    · by_cases hd : d = x
      · subst hd
        rw [g3 38 (0 + d) (by omega), g3 39 (0 + d) (by omega), g3 40 (0 + d) (by omega), g3 41 (0 + d) (by omega)]
        exact ⟨w0, w1, w2, w3⟩
      · have g := g4 d (by omega) z2
        rw [wo 104 (by decide) (by decide) (by decide) (by decide)] at g
        exact g
theorem gv_ho : ∀ (j x q : Nat) (m : St), x + j = 64 → j < q → ∃ v : St, (∀ K : St → Option (Int × St), f_X12_times_L302 K q x m = K v) ∧ (∀ a, a ≠ 44 → a ≠ 45 → a ≠ 46 → v.1 a = m.1 a) ∧ (∀ a e : Nat, e < x → v.1 a e = m.1 a e) ∧ (∀ d, x ≤ d → d < 64 → v.1 44 (0 + d) = m.1 105 (0 + d) ∧ v.1 45 (0 + d) = m.1 105 (64 + d) ∧ v.1 46 (0 + d) = m.1 105 (128 + d)) ∧ v.2 = m.2 := by
  intro j
  induction j with
  | zero =>
    intro x q m h1 h2
    obtain ⟨q, rfl⟩ : ∃ q', q = q' + 1 := ⟨q - 1, by omega⟩
    refine ⟨m, fun K => ?_, fun _ _ _ _ => rfl, fun _ _ _ => rfl, fun d z1 z2 => by omega, rfl⟩
    conv => lhs; unfold f_X12_times_L302
    rw [cmpI_ok (by omega), if_neg (by omega)]
  | succ j ih =>
    intro x q m h1 h2
    obtain ⟨q, rfl⟩ : ∃ q', q = q' + 1 := ⟨q - 1, by omega⟩
    generalize hw : pI (pI (pI m 44 (0 + x) (m.1 105 (0 + x))) 45 (0 + x) (m.1 105 (64 + x))) 46 (0 + x) (m.1 105 (128 + x)) = w
    have wo : ∀ a, a ≠ 44 → a ≠ 45 → a ≠ 46 → w.1 a = m.1 a := fun a z0 z1 z2 => by rw [← hw]; rw [pI_ne z2, pI_ne z1, pI_ne z0]
    have wp : ∀ a e : Nat, e < x → w.1 a e = m.1 a e := fun a e he => by rw [← hw]; rw [pI_of (by omega), pI_of (by omega), pI_of (by omega)]
    have w0 : w.1 44 (0 + x) = m.1 105 (0 + x) := by rw [← hw, pI_of (by omega), pI_of (by omega), pI_at]
    have w1 : w.1 45 (0 + x) = m.1 105 (64 + x) := by rw [← hw, pI_of (by omega), pI_at]
    have w2 : w.1 46 (0 + x) = m.1 105 (128 + x) := by rw [← hw, pI_at]
    have wl : w.2 = m.2 := by rw [← hw]; rfl
    obtain ⟨v, g1, g2, g3, g4, g5⟩ := ih (x + 1) q w (by omega) (by omega)
    refine ⟨v, fun K => ?_, fun a z0 z1 z2 => by rw [g2 a z0 z1 z2, wo a z0 z1 z2], fun a e he => by rw [g3 a e (by omega), wp a e he], fun d z1 z2 => ?_, by rw [g5, wl]⟩
    · conv => lhs; unfold f_X12_times_L302
      simp only [lt1_k]
      rw [cmpI_ok (by omega), if_pos (by omega), ixI_ok (by omega), ixI_ok (by omega), ixI_ok (by omega), ixI_ok (by omega), ixI_ok (by omega), ixI_ok (by omega), Int.toNat_natCast, show ((64 : Int) + (x : Int)).toNat = 64 + x by omega, show ((128 : Int) + (x : Int)).toNat = 128 + x by omega, show (x : Int) + 1 = ((x + 1 : Nat) : Int) by omega]
      rw [← g1 K, ← hw]
      simp only [Nat.zero_add]
      have ne1 : ∀ (z : St) (i b : Nat) (y : Int), (pI z 44 i y).1 105 b = z.1 105 b ∧ (pI z 45 i y).1 105 b = z.1 105 b := fun z i b y => ⟨by rw [pI_ne (by decide)], by rw [pI_ne (by decide)]⟩
      simp only [show ∀ (z : St) (i b : Nat) (y : Int), (pI z 44 i y).1 105 b = z.1 105 b from fun z i b y => by rw [pI_ne (by decide)], show ∀ (z : St) (i b : Nat) (y : Int), (pI z 45 i y).1 105 b = z.1 105 b from fun z i b y => by rw [pI_ne (by decide)]]
      try rfl
    · by_cases hd : d = x
      · subst hd
        rw [g3 44 (0 + d) (by omega), g3 45 (0 + d) (by omega), g3 46 (0 + d) (by omega)]
        exact ⟨w0, w1, w2⟩
      · have g := g4 d (by omega) z2
        rw [wo 105 (by decide) (by decide) (by decide)] at g
        exact g
theorem gv_ru : ∀ (j x q : Nat) (m : St), x + j = 1600 → j < q → ∃ v : St, (∀ K : St → Option (Int × St), f_X12_times_L367 K q x m = K v) ∧ (∀ a, a ≠ 55 → a ≠ 56 → a ≠ 57 → v.1 a = m.1 a) ∧ (∀ a e : Nat, e < x → v.1 a e = m.1 a e) ∧ (∀ d, x ≤ d → d < 1600 → v.1 55 (0 + d) = m.1 106 (0 + d) ∧ v.1 56 (0 + d) = m.1 107 (0 + d) ∧ v.1 57 (0 + d) = m.1 108 (0 + d)) ∧ (∀ d, x ≤ d → d < 1600 → v.2 58 d = m.2 109 d) ∧ (∀ d, d < x → v.2 58 d = m.2 58 d) ∧ (∀ a, a ≠ 58 → v.2 a = m.2 a) := by
  intro j
  induction j with
  | zero =>
    intro x q m h1 h2
    obtain ⟨q, rfl⟩ : ∃ q', q = q' + 1 := ⟨q - 1, by omega⟩
    refine ⟨m, fun K => ?_, fun _ _ _ _ => rfl, fun _ _ _ => rfl, fun d z1 z2 => by omega, fun d z1 z2 => by omega, fun _ _ => rfl, fun _ _ => rfl⟩
    conv => lhs; unfold f_X12_times_L367
    rw [cmpI_ok (by omega), if_neg (by omega)]
  | succ j ih =>
    intro x q m h1 h2
    obtain ⟨q, rfl⟩ : ∃ q', q = q' + 1 := ⟨q - 1, by omega⟩
    generalize hw : pL (pI (pI (pI m 55 (0 + x) (m.1 106 (0 + x))) 56 (0 + x) (m.1 107 (0 + x))) 57 (0 + x) (m.1 108 (0 + x))) 58 x (m.2 109 x) = w
    have wo : ∀ a, a ≠ 55 → a ≠ 56 → a ≠ 57 → w.1 a = m.1 a := fun a z0 z1 z2 => by rw [← hw]; rw [pL_I, pI_ne z2, pI_ne z1, pI_ne z0]
    have wp : ∀ a e : Nat, e < x → w.1 a e = m.1 a e := fun a e he => by rw [← hw]; rw [pL_I, pI_of (by omega), pI_of (by omega), pI_of (by omega)]
    have w0 : w.1 55 (0 + x) = m.1 106 (0 + x) := by rw [← hw, pL_I, pI_of (by omega), pI_of (by omega), pI_at]
    have w1 : w.1 56 (0 + x) = m.1 107 (0 + x) := by rw [← hw, pL_I, pI_of (by omega), pI_at]
    have w2 : w.1 57 (0 + x) = m.1 108 (0 + x) := by rw [← hw, pL_I, pI_at]
    have wl : w.2 58 x = m.2 109 x := by rw [← hw, pL_at]
    have wl2 : ∀ d, d ≠ x → w.2 58 d = m.2 58 d := fun d hd => by rw [← hw, pL_nf hd]; rfl
    have wl3 : ∀ a, a ≠ 58 → w.2 a = m.2 a := fun a ha => by rw [← hw, pL_ne ha]; rfl
    obtain ⟨v, g1, g2, g3, g4, g5, g6, g7⟩ := ih (x + 1) q w (by omega) (by omega)
    refine ⟨v, fun K => ?_, fun a z0 z1 z2 => by rw [g2 a z0 z1 z2, wo a z0 z1 z2], fun a e he => by rw [g3 a e (by omega), wp a e he], fun d z1 z2 => ?_, fun d z1 z2 => ?_, fun d z => by rw [g6 d (by omega), wl2 d (by omega)], fun a ha => by rw [g7 a ha, wl3 a ha]⟩
    · conv => lhs; unfold f_X12_times_L367
      simp only [lt1_k]
      rw [cmpI_ok (by omega), if_pos (by omega), ixI_ok (by omega), ixI_ok (by omega), ixI_ok (by omega), ixI_ok (by omega), ixI_ok (by omega), ixI_ok (by omega), ixI_ok (by omega), ixI_ok (by omega), Int.toNat_natCast, show (x : Int) + 1 = ((x + 1 : Nat) : Int) by omega]
      rw [← g1 K, ← hw]
      simp only [Nat.zero_add]
      have ne1 : ∀ (z : St) (i b : Nat) (y : Int), (pI z 55 i y).1 107 b = z.1 107 b ∧ (pI z 55 i y).1 108 b = z.1 108 b ∧ (pI z 56 i y).1 108 b = z.1 108 b := fun z i b y => ⟨by rw [pI_ne (by decide)], by rw [pI_ne (by decide)], by rw [pI_ne (by decide)]⟩
      simp only [show ∀ (z : St) (i b : Nat) (y : Int), (pI z 55 i y).1 107 b = z.1 107 b from fun z i b y => by rw [pI_ne (by decide)], show ∀ (z : St) (i b : Nat) (y : Int), (pI z 55 i y).1 108 b = z.1 108 b from fun z i b y => by rw [pI_ne (by decide)], show ∀ (z : St) (i b : Nat) (y : Int), (pI z 56 i y).1 108 b = z.1 108 b from fun z i b y => by rw [pI_ne (by decide)]]
      try rfl
    · by_cases hd : d = x
      · subst hd
        rw [g3 55 (0 + d) (by omega), g3 56 (0 + d) (by omega), g3 57 (0 + d) (by omega)]
        exact ⟨w0, w1, w2⟩
      · have g := g4 d (by omega) z2
        rw [wo 106 (by decide) (by decide) (by decide), wo 107 (by decide) (by decide) (by decide), wo 108 (by decide) (by decide) (by decide)] at g
        exact g
    · by_cases hd : d = x
      · rw [hd, g6 x (by omega)]; exact wl
      · rw [g5 d (by omega) z2, wl3 109 (by decide)]
