/-! what Moment.note and Moment.restore come to -/
theorem ior_14 {a b : Int} (ha : -100000 ≤ a ∧ a ≤ 100000) (hb : 0 ≤ b ∧ b < 16384) : iorZ (a * 16384) b = a * 16384 + b := by
  unfold iorZ
  have e : Int32.ofInt (a * 16384) ||| Int32.ofInt b = Int32.ofInt (a * 16384 + b) := by
    apply Int32.toBitVec_inj.mp
    rw [Int32.toBitVec_or]
    show BitVec.ofInt 32 (a * 16384) ||| BitVec.ofInt 32 b = BitVec.ofInt 32 (a * 16384 + b)
    apply BitVec.eq_of_toNat_eq
    rw [BitVec.toNat_or, BitVec.toNat_ofInt, BitVec.toNat_ofInt, BitVec.toNat_ofInt, show ((2 ^ 32 : Nat) : Int) = 4294967296 from rfl]
    have h1 : (a * 16384 % 4294967296).toNat = (a % 262144).toNat * 2 ^ 14 := by omega
    have h2 : (b % 4294967296).toNat = b.toNat := by omega
    have h3 : ((a * 16384 + b) % 4294967296).toNat = (a % 262144).toNat * 2 ^ 14 + b.toNat := by omega
    rw [h1, h2, h3]
    have h4 := Nat.shiftLeft_add_eq_or_of_lt (show b.toNat < 2 ^ 14 by omega) (a % 262144).toNat
    rw [Nat.shiftLeft_eq] at h4
    exact h4.symm
  rw [e, z_to ⟨by omega, by omega⟩]
section
variable {N n : Nat} {X Y W T : Nat → Int}
theorem noteL (hV : FXs X Y W n) (hT : ∀ d, d < n → -100000 ≤ T d ∧ T d ≤ 100000) : ∀ (j x q : Nat) (τ : St), x + j = n → j < q → FH 0 τ X Y W n → (∀ d, d < n → τ.1 393 d = T d) → ∃ u : St, (∀ K : St → Option St, f_X5_note_L2 N 0 K q x τ = K u) ∧ (∀ a, a ≠ 1300 → u.1 a = τ.1 a) ∧ u.2 = τ.2 ∧ (∀ d, d < x → u.1 1300 d = τ.1 1300 d) ∧ (∀ d, x ≤ d → d < n → u.1 1300 d = T d * 16384 + cdZ (X d) (Y d) (W d)) := by
  have h64 := hV.1
  intro j
  induction j with
  | zero =>
    intro x q τ hx hq hF h3
    obtain ⟨q, rfl⟩ : ∃ q', q = q' + 1 := ⟨q - 1, by omega⟩
    refine ⟨τ, fun K => ?_, fun _ _ => rfl, rfl, fun _ _ => rfl, fun d z1 z2 => by omega⟩
    unfold f_X5_note_L2
    simp only [lt1_k]
    rw [show τ.1 (305 + 0) 8 = n from hF.1, cmpI_ok (by omega), if_neg (by omega)]
  | succ j ih =>
    intro x q τ hx hq hF h3
    obtain ⟨q, rfl⟩ : ∃ q', q = q' + 1 := ⟨q - 1, by omega⟩
    have hxn : x < n := by omega
    have hv := hV.2.1 x hxn
    have hcd := cdZ_rng hv.1 hv.2.1 hv.2.2
    generalize hw : pI τ 1300 x (T x * 16384 + cdZ (X x) (Y x) (W x)) = w
    have wo : ∀ a, a ≠ 1300 → w.1 a = τ.1 a := fun a ha => by rw [← hw, pI_ne ha]
    have hFw : FH 0 w X Y W n := by
      unfold FH at hF ⊢
      rw [wo (305 + 0) (by decide), wo (390 + 10 * 0) (by decide), wo (391 + 10 * 0) (by decide), wo (392 + 10 * 0) (by decide), wo (397 + 10 * 0) (by decide)]
      exact hF
    obtain ⟨u, g1, g2, g3, g4, g5⟩ := ih (x + 1) q w (by omega) (by omega) hFw (fun d hd => by rw [wo 393 (by decide)]; exact h3 d hd)
    refine ⟨u, fun K => ?_, fun a ha => by rw [g2 a ha, wo a ha], by rw [g3, ← hw]; rfl, fun d hd => by rw [g4 d (by omega), ← hw, pI_nf (by omega)], fun d z1 z2 => ?_⟩
    · rw [← g1 K, ← hw]
      conv => lhs; unfold f_X5_note_L2
      simp only [lt1_k]
      rw [show τ.1 (305 + 0) 8 = n from hF.1, cmpI_ok (by omega), if_pos (by omega), ixI_ok (by omega), Int.toNat_natCast, show τ.1 (393 + 10 * 0) x = T x from h3 x hxn, h_codeAt hF hV hxn, bdI_s, ixI_ok (by omega), ior_14 (hT x hxn) hcd, show (x : Int) + 1 = ((x + 1 : Nat) : Int) by omega]
    · by_cases hd : d = x
      · rw [hd, g4 x (by omega), ← hw, pI_at]
      · exact g5 d (by omega) z2
/-- how many are open -/
def dpO (t : St) : Int := if t.1 307 2 = 0 then 0 else t.1 307 6
theorem note_pure {n6 : Nat} {t τ : St} (hV : FXs X Y W n) (hF : FH 0 t X Y W n) (hT : ∀ d, d < n → -100000 ≤ T d ∧ T d ≤ 100000) (h393 : ∀ d, d < n → t.1 393 d = T d) (hl : t.1 307 2 = 0 ∨ (t.1 307 2 = 1 ∧ 0 ≤ t.1 307 6 ∧ t.1 307 6 ≤ 1500)) (h1 : ∀ a, a ≠ 1000 → a ≠ 1300 → τ.1 a = t.1 a) (h2 : ∀ a, a ≠ 1000 → a ≠ 1600 → τ.2 a = t.2 a) (hn6 : n6 ≤ 1500) (hN : 100 ≤ N) :
    ∃ z : St, f_X5_note N 0 0 n6 τ = some z ∧ (∀ id, id < 1000 → z.1 id = t.1 id ∧ z.2 id = t.2 id) ∧ (∀ d, d < n → z.1 1300 d = T d * 16384 + cdZ (X d) (Y d) (W d)) ∧ (z.1 1000 1 = t.1 307 2 ∧ z.1 1000 2 = t.1 307 3 ∧ z.2 1000 3 = t.2 307 4 ∧ z.1 1000 5 = dpO t) ∧ ∀ j : Nat, (j : Int) < dpO t → z.2 1600 j = t.2 410 j := by
  have h64 := hV.1
  have hFt : FH 0 τ X Y W n := by
    unfold FH at hF ⊢
    rw [h1 (305 + 0) (by decide) (by decide), h1 (390 + 10 * 0) (by decide) (by decide), h1 (391 + 10 * 0) (by decide) (by decide), h1 (392 + 10 * 0) (by decide) (by decide), h1 (397 + 10 * 0) (by decide) (by decide)]
    exact hF
  obtain ⟨u, g1, g2, g3, g4, g5⟩ := noteL (N := N) hV hT n 0 N τ (by omega) (by omega) hFt (fun d hd => by rw [h1 393 (by decide) (by decide)]; exact h393 d hd)
  have uo : ∀ a, a ≠ 1000 → a ≠ 1300 → u.1 a = t.1 a := fun a z1 z2 => by rw [g2 a z2, h1 a z1 z2]
  have uL : ∀ a, a ≠ 1000 → a ≠ 1600 → u.2 a = t.2 a := fun a z1 z2 => by rw [g3, h2 a z1 z2]
  have hlv : t.1 307 2 = 0 ∨ t.1 307 2 = 1 := hl.imp id (fun h => h.1)
  have hD : 0 ≤ dpO t ∧ dpO t ≤ 1500 := by
    unfold dpO
    rcases hl with h | h
    · rw [if_pos h]; omega
    · rw [if_neg (by omega)]; omega
  generalize hw : pI (pL (pI (pI u 1000 1 (t.1 307 2)) 1000 2 (t.1 307 3)) 1000 3 (t.2 307 4)) 1000 5 (dpO t) = w
  have wo : ∀ a, a ≠ 1000 → w.1 a = u.1 a := fun a ha => by
    rw [← hw, pI_ne ha]
    show (pI (pI u 1000 1 (t.1 307 2)) 1000 2 (t.1 307 3)).1 a = u.1 a
    rw [pI_ne ha, pI_ne ha]
  have w5 : w.1 1000 5 = dpO t := by rw [← hw, pI_at]
  have w1 : w.1 1000 1 = t.1 307 2 := by
    rw [← hw, pI_nf (by decide)]
    show (pI (pI u 1000 1 (t.1 307 2)) 1000 2 (t.1 307 3)).1 1000 1 = _
    rw [pI_nf (by decide), pI_at]
  have w2 : w.1 1000 2 = t.1 307 3 := by
    rw [← hw, pI_nf (by decide)]
    show (pI (pI u 1000 1 (t.1 307 2)) 1000 2 (t.1 307 3)).1 1000 2 = _
    rw [pI_at]
  have wL : ∀ a, a ≠ 1000 → w.2 a = u.2 a := fun a ha => by
    rw [← hw]
    show (pL (pI (pI u 1000 1 (t.1 307 2)) 1000 2 (t.1 307 3)) 1000 3 (t.2 307 4)).2 a = u.2 a
    rw [pL_ne ha]
    rfl
  have w3 : w.2 1000 3 = t.2 307 4 := by
    rw [← hw]
    show (pL (pI (pI u 1000 1 (t.1 307 2)) 1000 2 (t.1 307 3)) 1000 3 (t.2 307 4)).2 1000 3 = _
    rw [pL_at]
  have key : f_X5_note N 0 0 n6 τ = if (n6 : Int) < dpO t then f_X5_noteA 0 w else cpI 0 0 (dpO t) 1500 n6 (some (cpL w (410 + 0) 1600 (0 : Int).toNat (0 : Int).toNat (dpO t).toNat)) := by
    unfold f_X5_note
    have g1' := g1 (fun (t9 : St) => lt1 (t9.1 (307 + 0) 2) fun v10 => boI v10 (lt1 (pI t9 1000 1 v10) fun t11 => lt1 (t11.1 (307 + 0) 3) fun v12 => lt1 (pI t11 1000 2 v12) fun t13 => lt1 (t13.2 (307 + 0) 4) fun v14 => lt1 (pL t13 1000 3 v14) fun t15 => lt1 (t15.1 (307 + 0) 2) fun v16 => jn1 (fun (j17 : Int) (t18 : St) => lt1 (pI t18 1000 5 j17) fun t20 => lt1 (t20.1 1000 5) fun v21 => jn1 (fun (t22 : St) => lt1 (t22.1 1000 5) fun v24 => cpI 0 0 v24 1500 n6 (lt1 (cpL t22 (410 + 0) 1600 (0 : Int).toNat (0 : Int).toNat v24.toNat) fun t25 => some t25)) fun J23 => cmpI ((n6 : Nat) : Int) v21 (if ((n6 : Nat) : Int) < v21 then (f_X5_noteA 0 t20) else (J23 t20))) fun J19 => cmpI v16 0 (if v16 = 0 then (J19 0 t15) else (lt1 (t15.1 (307 + 0) 6) fun v26 => J19 v26 t15))))
    rw [show ((0 : Nat) : Int) = 0 from rfl] at g1'
    refine g1'.trans ?_
    simp only [lt1_k, jn1_k]
    have a1 : u.1 (307 + 0) 2 = t.1 307 2 := by rw [uo (307 + 0) (by decide) (by decide)]
    have a2 : (pI u 1000 1 (t.1 307 2)).1 (307 + 0) 3 = t.1 307 3 := by rw [pI_ne (by decide), uo (307 + 0) (by decide) (by decide)]
    have a3 : (pI (pI u 1000 1 (t.1 307 2)) 1000 2 (t.1 307 3)).2 (307 + 0) 4 = t.2 307 4 := by show u.2 307 4 = t.2 307 4; rw [uL 307 (by decide) (by decide)]
    have a4 : (pL (pI (pI u 1000 1 (t.1 307 2)) 1000 2 (t.1 307 3)) 1000 3 (t.2 307 4)).1 (307 + 0) = t.1 307 := by
      show (pI (pI u 1000 1 (t.1 307 2)) 1000 2 (t.1 307 3)).1 (307 + 0) = t.1 307
      rw [pI_ne (by decide), pI_ne (by decide), uo (307 + 0) (by decide) (by decide)]
    rw [a1, a2, a3, a4]
    have hb0 : ∀ (Z : Option St), boI (t.1 307 2) Z = Z := fun Z => by
      rcases hlv with h | h
      · rw [h, boI_0]
      · rw [h, boI_1]
    rw [hb0, cmpI_ok (by omega)]
    by_cases c0 : t.1 307 2 = 0
    · have hd0 : dpO t = 0 := by unfold dpO; rw [if_pos c0]
      rw [if_pos c0]
      rw [hd0] at hw w5 ⊢
      rw [hw, w5, cmpI_ok (by omega)]
    · have hd0 : dpO t = t.1 307 6 := by unfold dpO; rw [if_neg c0]
      rw [if_neg c0]
      rw [hd0] at hw w5 hD ⊢
      rw [hw, w5, cmpI_ok (by omega)]
  have fin : ∀ z : St, z.1 = w.1 → (∀ a, a ≠ 1600 → z.2 a = w.2 a) → (∀ j : Nat, (j : Int) < dpO t → z.2 1600 j = t.2 410 j) → (∀ id, id < 1000 → z.1 id = t.1 id ∧ z.2 id = t.2 id) ∧ (∀ d, d < n → z.1 1300 d = T d * 16384 + cdZ (X d) (Y d) (W d)) ∧ (z.1 1000 1 = t.1 307 2 ∧ z.1 1000 2 = t.1 307 3 ∧ z.2 1000 3 = t.2 307 4 ∧ z.1 1000 5 = dpO t) ∧ ∀ j : Nat, (j : Int) < dpO t → z.2 1600 j = t.2 410 j := fun z e1 e2 e3 => by
    refine ⟨fun id hid => ⟨by rw [e1, wo id (by omega), uo id (by omega) (by omega)], by rw [e2 id (by omega), wL id (by omega), uL id (by omega) (by omega)]⟩, fun d hd => ?_, ⟨by rw [e1]; exact w1, by rw [e1]; exact w2, by rw [e2 1000 (by decide)]; exact w3, by rw [e1]; exact w5⟩, e3⟩
    rw [e1, wo 1300 (by decide)]
    exact g5 d (by omega) hd
  have w410 : w.2 410 = t.2 410 := by rw [wL 410 (by decide), uL 410 (by decide) (by decide)]
  by_cases cA : (n6 : Int) < dpO t
  · rw [if_pos cA] at key
    unfold f_X5_noteA at key
    rw [w5, if_pos hD] at key
    refine ⟨_, key, fin _ rfl (fun a ha => ?_) (fun j hj => ?_)⟩
    · rw [cpL_ne ha, zl_ne ha]
    · rw [cpL_at]
      unfold va_cpy
      rw [if_pos (by omega), zl_ne (by decide), show 0 + (j - 0) = j by omega]
      show w.2 410 j = t.2 410 j
      rw [w410]
  · rw [if_neg cA] at key
    unfold cpI at key
    rw [if_pos (by omega)] at key
    refine ⟨_, key, fin _ rfl (fun a ha => ?_) (fun j hj => ?_)⟩
    · rw [cpL_ne ha]
    · rw [cpL_at]
      unfold va_cpy
      rw [if_pos (by show 0 ≤ j ∧ j < 0 + (dpO t).toNat; omega)]
      show w.2 410 (0 + (j - 0)) = t.2 410 j
      rw [show 0 + (j - 0) = j by omega, w410]
end
section
variable {N n : Nat} {X Y W X1 Y1 W1 T C : Nat → Int}
theorem restL (h64 : n ≤ 64) : ∀ (j x q : Nat) (τ : St), x + j = n → j < q → τ.1 (305 + 0) 8 = n → (∀ d, d < n → τ.1 1300 d = C d ∧ inR (C d)) → ∃ u : St, (∀ K : St → Option St, f_X5_restore_L2 0 K q x τ = K u) ∧ (∀ a, a ≠ 393 + 10 * 0 → u.1 a = τ.1 a) ∧ u.2 = τ.2 ∧ (∀ d, d < x → u.1 (393 + 10 * 0) d = τ.1 (393 + 10 * 0) d) ∧ (∀ d, x ≤ d → d < n → u.1 (393 + 10 * 0) d = C d / 16384) := by
  intro j
  induction j with
  | zero =>
    intro x q τ hx hq h8 h3
    obtain ⟨q, rfl⟩ : ∃ q', q = q' + 1 := ⟨q - 1, by omega⟩
    refine ⟨τ, fun K => ?_, fun _ _ => rfl, rfl, fun _ _ => rfl, fun d z1 z2 => by omega⟩
    unfold f_X5_restore_L2
    simp only [lt1_k]
    rw [h8, cmpI_ok (by omega), if_neg (by omega)]
  | succ j ih =>
    intro x q τ hx hq h8 h3
    obtain ⟨q, rfl⟩ : ∃ q', q = q' + 1 := ⟨q - 1, by omega⟩
    have hxn : x < n := by omega
    generalize hw : pI τ (393 + 10 * 0) x (C x / 16384) = w
    have wo : ∀ a, a ≠ 393 + 10 * 0 → w.1 a = τ.1 a := fun a ha => by rw [← hw, pI_ne ha]
    obtain ⟨u, g1, g2, g3, g4, g5⟩ := ih (x + 1) q w (by omega) (by omega) (by rw [wo (305 + 0) (by decide)]; exact h8) (fun d hd => by rw [wo 1300 (by decide)]; exact h3 d hd)
    refine ⟨u, fun K => ?_, fun a ha => by rw [g2 a ha, wo a ha], by rw [g3, ← hw]; rfl, fun d hd => by rw [g4 d (by omega), ← hw, pI_nf (by omega)], fun d z1 z2 => ?_⟩
    · rw [← g1 K, ← hw]
      conv => lhs; unfold f_X5_restore_L2
      simp only [lt1_k]
      rw [h8, cmpI_ok (by omega), if_pos (by omega), ixI_ok (by omega), Int.toNat_natCast, (h3 x hxn).1, rnI_ok (h3 x hxn).2, ixI_ok (by omega), show (x : Int) + 1 = ((x + 1 : Nat) : Int) by omega]
    · by_cases hd : d = x
      · rw [hd, g4 x (by omega), ← hw, pI_at]
      · exact g5 d (by omega) z2
/-- a Moment is put back -/
theorem rest_pure {n6 : Nat} {τ : St} {L D : Int} (hV1 : FXs X1 Y1 W1 n) (hF1 : FH 0 τ X1 Y1 W1 n) (hV : FXs X Y W n) (hT : ∀ d, d < n → -100000 ≤ T d ∧ T d ≤ 100000) (hC : ∀ d, d < n → τ.1 1300 d = T d * 16384 + cdZ (X d) (Y d) (W d)) (hL : τ.1 1000 1 = L ∧ (L = 0 ∨ L = 1)) (hD : τ.1 1000 5 = D ∧ 0 ≤ D ∧ D ≤ n6) (hn6 : n6 ≤ 1500) (hN : 100 ≤ N) :
    ∃ t1 u z : St, f_X5_restore N 0 0 n6 τ = some z ∧ (∀ a, a ≠ 393 → t1.1 a = τ.1 a) ∧ t1.2 = τ.2 ∧ (∀ d, d < n → t1.1 393 d = T d) ∧ FH 0 u X Y W n ∧ (∀ i, i < n → u.1 (395 + 10 * 0) i = ord9 X Y n i) ∧ (∀ f e : Nat, f < 4 → e < 64 → bq (u.2 (396 + 10 * 0) f) e = decide (e < n ∧ W e = f)) ∧ u.1 (305 + 0) 9 = t1.1 (305 + 0) 9 + 1 ∧ hpl 0 t1 u ∧ (∀ a, a ≠ 307 → z.1 a = u.1 a) ∧ (z.1 307 2 = L ∧ z.1 307 3 = τ.1 1000 2 ∧ z.1 307 6 = D ∧ ∀ b, b ≠ 2 → b ≠ 3 → b ≠ 6 → z.1 307 b = τ.1 307 b) ∧ (∀ a, a ≠ 307 → a ≠ 410 → z.2 a = u.2 a) ∧ z.2 307 4 = τ.2 1000 3 ∧ ∀ j : Nat, (j : Int) < D → z.2 410 j = τ.2 1600 j := by
  have h64 := hV.1
  have hcr : ∀ d, d < n → inR (T d * 16384 + cdZ (X d) (Y d) (W d)) := fun d hd => by
    have hv := hV.2.1 d hd
    have hc := cdZ_rng hv.1 hv.2.1 hv.2.2
    have ht := hT d hd
    omega
  obtain ⟨t1, g1, g2, g3, _, g5⟩ := restL (C := fun d => T d * 16384 + cdZ (X d) (Y d) (W d)) h64 n 0 N τ (by omega) (by omega) hF1.1 (fun d hd => ⟨hC d hd, hcr d hd⟩)
  have hF1' : FH 0 t1 X1 Y1 W1 n := by
    unfold FH at hF1 ⊢
    rw [g2 (305 + 0) (by decide), g2 (390 + 10 * 0) (by decide), g2 (391 + 10 * 0) (by decide), g2 (392 + 10 * 0) (by decide), g2 (397 + 10 * 0) (by decide)]
    exact hF1
  obtain ⟨u, p1, p2, p3, p4, p5, p6⟩ := h_place (N := N) (o := 0) (n := n) (n1 := n) (q0 := 1300) (t := t1) (by decide) hV1 hF1' hV (by omega) (fun d hd => by
    have hv := hV.2.1 d hd
    have h3 := cd_sp hv.1 hv.2.1 hv.2.2
    have h4 := cdZ_rng hv.1 hv.2.1 hv.2.2
    have hc := hcr d hd
    rw [g2 1300 (by decide), hC d hd]
    refine ⟨hc, by omega, by omega⟩) hN
  have uo : ∀ a, a = 307 ∨ a = 1000 ∨ a = 1300 → u.1 a = τ.1 a := fun a ha => by rw [p6.1 a (by omega) (by omega) (by omega) (by omega) (by omega) (by omega), g2 a (by omega)]
  have uL : ∀ a, a ≠ 396 + 10 * 0 → u.2 a = τ.2 a := fun a ha => by rw [p6.2.2 a ha, g3]
  generalize hz : pI (pL (pI (pI u (307 + 0) 2 L) (307 + 0) 3 (τ.1 1000 2)) (307 + 0) 4 (τ.2 1000 3)) (307 + 0) 6 D = w
  have wo : ∀ a, a ≠ 307 → w.1 a = u.1 a := fun a ha => by
    rw [← hz, pI_ne (by omega)]
    show (pI (pI u (307 + 0) 2 L) (307 + 0) 3 (τ.1 1000 2)).1 a = u.1 a
    rw [pI_ne (by omega), pI_ne (by omega)]
  have w2 : w.1 307 2 = L := by
    rw [← hz]
    show (pI (pL (pI (pI u 307 2 L) 307 3 (τ.1 1000 2)) 307 4 (τ.2 1000 3)) 307 6 D).1 307 2 = L
    rw [pI_nf (by decide)]
    show (pI (pI u 307 2 L) 307 3 (τ.1 1000 2)).1 307 2 = L
    rw [pI_nf (by decide), pI_at]
  have w3 : w.1 307 3 = τ.1 1000 2 := by
    rw [← hz]
    show (pI (pL (pI (pI u 307 2 L) 307 3 (τ.1 1000 2)) 307 4 (τ.2 1000 3)) 307 6 D).1 307 3 = _
    rw [pI_nf (by decide)]
    show (pI (pI u 307 2 L) 307 3 (τ.1 1000 2)).1 307 3 = _
    rw [pI_at]
  have w6 : w.1 307 6 = D := by rw [← hz]; exact pI_at
  have wr : ∀ b, b ≠ 2 → b ≠ 3 → b ≠ 6 → w.1 307 b = τ.1 307 b := fun b z1 z2 z3 => by
    rw [← hz]
    show (pI (pL (pI (pI u 307 2 L) 307 3 (τ.1 1000 2)) 307 4 (τ.2 1000 3)) 307 6 D).1 307 b = _
    rw [pI_nf z3]
    show (pI (pI u 307 2 L) 307 3 (τ.1 1000 2)).1 307 b = _
    rw [pI_nf z2, pI_nf z1, uo 307 (by omega)]
  have wL : ∀ a, a ≠ 307 → w.2 a = u.2 a := fun a ha => by
    rw [← hz]
    show (pL (pI (pI u (307 + 0) 2 L) (307 + 0) 3 (τ.1 1000 2)) (307 + 0) 4 (τ.2 1000 3)).2 a = u.2 a
    rw [pL_ne (by omega)]
    rfl
  have w4 : w.2 307 4 = τ.2 1000 3 := by
    rw [← hz]
    show (pL (pI (pI u 307 2 L) 307 3 (τ.1 1000 2)) 307 4 (τ.2 1000 3)).2 307 4 = _
    rw [pL_at]
  refine ⟨t1, u, cpL w 1600 410 0 0 D.toNat, ?_, g2, g3, fun d hd => ?_, p2, p3, p4, p5, p6, wo, ⟨w2, w3, w6, wr⟩, fun a z1 z2 => by rw [cpL_ne z2, wL a z1], by rw [cpL_ne (by decide)]; exact w4, fun j hj => ?_⟩
  · unfold f_X5_restore
    have g1' := g1 (fun (t7 : St) => lt1 (t7.1 (305 + 0) 8) fun v8 => bdV (f_X3_place N 0 1300 64 v8 t7) fun t9 => lt1 (t9.1 1000 1) fun v10 => boI v10 (lt1 (pI t9 (307 + 0) 2 v10) fun t11 => lt1 (t11.1 1000 2) fun v12 => lt1 (pI t11 (307 + 0) 3 v12) fun t13 => lt1 (t13.2 1000 3) fun v14 => lt1 (pL t13 (307 + 0) 4 v14) fun t15 => lt1 (t15.1 1000 5) fun v16 => lt1 (pI t15 (307 + 0) 6 v16) fun t17 => lt1 (t17.1 1000 5) fun v18 => cpI 0 0 v18 n6 1500 (lt1 (cpL t17 1600 (410 + 0) (0 : Int).toNat (0 : Int).toNat v18.toNat) fun t19 => some t19)))
    rw [show ((0 : Nat) : Int) = 0 from rfl] at g1'
    refine g1'.trans ?_
    simp only [lt1_k]
    rw [show t1.1 (305 + 0) 8 = n from hF1'.1, p1, bdV_s]
    have a1 : u.1 1000 1 = L := by rw [uo 1000 (by omega)]; exact hL.1
    have a2 : (pI u (307 + 0) 2 L).1 1000 2 = τ.1 1000 2 := by rw [pI_ne (by decide), uo 1000 (by omega)]
    have a3 : (pI (pI u (307 + 0) 2 L) (307 + 0) 3 (τ.1 1000 2)).2 1000 3 = τ.2 1000 3 := by show u.2 1000 3 = _; rw [uL 1000 (by decide)]
    have a5 : (pL (pI (pI u (307 + 0) 2 L) (307 + 0) 3 (τ.1 1000 2)) (307 + 0) 4 (τ.2 1000 3)).1 1000 5 = D := by
      show (pI (pI u (307 + 0) 2 L) (307 + 0) 3 (τ.1 1000 2)).1 1000 5 = D
      rw [pI_ne (by decide), pI_ne (by decide), uo 1000 (by omega)]
      exact hD.1
    have hb0 : ∀ (Z : Option St), boI L Z = Z := fun Z => by
      rcases hL.2 with h | h
      · rw [h, boI_0]
      · rw [h, boI_1]
    rw [a1, hb0, a2, a3, a5, hz]
    have a6 : w.1 1000 5 = D := by rw [wo 1000 (by decide), uo 1000 (by omega)]; exact hD.1
    rw [a6]
    unfold cpI
    rw [if_pos (by omega)]
    rfl
  · have hv := hV.2.1 d hd
    have h4 := cdZ_rng hv.1 hv.2.1 hv.2.2
    have h5 : t1.1 393 d = (T d * 16384 + cdZ (X d) (Y d) (W d)) / 16384 := g5 d (by omega) hd
    rw [h5]
    omega
  · rw [cpL_at]
    unfold va_cpy
    rw [if_pos (by omega), show 0 + (j - 0) = j by omega, wL 1600 (by decide), uL 1600 (by decide)]
end
