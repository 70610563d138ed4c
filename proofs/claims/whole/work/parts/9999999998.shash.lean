/-! searching: the table of the states -/
theorem pig9 : ∀ (k n : Nat) (f : Nat → Nat), k < n → ∃ p, p < n ∧ ∀ s, s < k → f s ≠ p := by
  intro k
  induction k with
  | zero => intro n f h; exact ⟨0, h, fun s hs => by omega⟩
  | succ k ih =>
    intro n f h
    obtain ⟨p, h1, h2⟩ := ih (n - 1) (fun s => if f s = n - 1 then f k else f s) (by omega)
    by_cases hp : p = f k
    · refine ⟨n - 1, by omega, fun s hs e => ?_⟩
      by_cases hk : s = k
      · subst hk; omega
      · have := h2 s (by omega)
        rw [if_pos e] at this
        omega
    · refine ⟨p, by omega, fun s hs e => ?_⟩
      by_cases hk : s = k
      · subst hk; omega
      · have := h2 s (by omega)
        rw [if_neg (by omega)] at this
        omega
theorem least9 (P : Nat → Prop) : ∀ z, P z → ∃ y, y ≤ z ∧ P y ∧ ∀ i, i < y → ¬ P i := by
  intro z
  induction z using Nat.strongRecOn with
  | ind z ih =>
    intro h
    by_cases hx : ∃ i, i < z ∧ P i
    · obtain ⟨i, h1, h2⟩ := hx
      obtain ⟨y, h3, h4, h5⟩ := ih i h1 h2
      exact ⟨y, by omega, h4, h5⟩
    · exact ⟨z, Nat.le_refl z, h, fun i hi hp => hx ⟨i, hi, hp⟩⟩
/-- where a key's place is looked for first -/
def hs9 (K : Nat → Int64) : Nat := uq ((((K 0 * (31 : Int64)) + K 1) * (31 : Int64) + K 2 ^^^ (ushrL (((K 0 * (31 : Int64)) + K 1) * (31 : Int64) + K 2) 29)) * (-7046029254386353131 : Int64)) / 4503599627370496
theorem hs9_lt (K : Nat → Int64) : hs9 K < 4096 := by
  unfold hs9
  generalize ((((K 0 * (31 : Int64)) + K 1) * (31 : Int64) + K 2 ^^^ (ushrL (((K 0 * (31 : Int64)) + K 1) * (31 : Int64) + K 2) 29)) * (-7046029254386353131 : Int64)) = x
  have := uq_lt (a := x)
  omega
/-- two keys are the same -/
def sk9 (K L : Nat → Int64) : Prop := K 0 = L 0 ∧ K 1 = L 1 ∧ K 2 = L 2
theorem hs9_cg {K L : Nat → Int64} (h : sk9 K L) : hs9 K = hs9 L := by
  unfold hs9
  rw [h.1, h.2.1, h.2.2]
/-- the key of a state -/
def ky9 (t : St) (s : Nat) : Nat → Int64 := fun j => t.2 430 (3 * s + j)
/-- the table is right: pl says where each state stands -/
def HTb (t : St) (S : Nat) (pl : Nat → Nat) : Prop := S ≤ 2000 ∧ (∀ s, s < S → pl s < 4096 ∧ t.1 431 (pl s) = ((s + 1 : Nat) : Int)) ∧ (∀ p, p < 4096 → t.1 431 p = 0 ∨ ∃ s, s < S ∧ pl s = p) ∧
  (∀ s, s < S → ∃ d, d < 4096 ∧ (hs9 (ky9 t s) + d) % 4096 = pl s ∧ ∀ i, i < d → t.1 431 ((hs9 (ky9 t s) + i) % 4096) ≠ 0) ∧ ∀ s r, s < S → r < S → sk9 (ky9 t s) (ky9 t r) → s = r
section
variable {N : Nat}
theorem h_probe {t : St} {S z : Nat} {pl : Nat → Nat} (hT : HTb t S pl) (hz : z < 4096) (h0 : t.1 431 ((hs9 (t.2 436) + z) % 4096) = 0) (hnz : ∀ i, i < z → t.1 431 ((hs9 (t.2 436) + i) % 4096) ≠ 0) : ∀ (k i q : Nat), i + k = z → k < q → (∀ i', i' < i → ∀ s, s < S → pl s = (hs9 (t.2 436) + i') % 4096 → ¬ sk9 (ky9 t s) (t.2 436)) →
    (∃ (i' s : Nat), i ≤ i' ∧ i' < z ∧ s < S ∧ pl s = (hs9 (t.2 436) + i') % 4096 ∧ sk9 (ky9 t s) (t.2 436) ∧ f_X9_placeOfKey_L49 (fun (k18 : Int) (t19 : St) => some (k18, t19)) q (((hs9 (t.2 436) + i) % 4096 : Nat) : Int) i t = some (((pl s : Nat) : Int), t)) ∨
    ((∀ i', i' < z → ∀ s, s < S → pl s = (hs9 (t.2 436) + i') % 4096 → ¬ sk9 (ky9 t s) (t.2 436)) ∧ f_X9_placeOfKey_L49 (fun (k18 : Int) (t19 : St) => some (k18, t19)) q (((hs9 (t.2 436) + i) % 4096 : Nat) : Int) i t = some ((((hs9 (t.2 436) + z) % 4096 : Nat) : Int), t)) := by
  intro k
  induction k with
  | zero =>
    intro i q h1 h2 h3
    obtain ⟨q, rfl⟩ : ∃ q', q = q' + 1 := ⟨q - 1, by omega⟩
    have hi : i = z := by omega
    subst hi
    refine Or.inr ⟨h3, ?_⟩
    unfold f_X9_placeOfKey_L49
    simp only [lt1_k, jn1_k]
    rw [cmpI_ok (by omega), if_pos (by omega), ixI_ok (by omega), Int.toNat_natCast, h0, cmpI_ok (by omega), if_pos rfl]
  | succ k ih =>
    intro i q h1 h2 h3
    obtain ⟨q, rfl⟩ : ∃ q', q = q' + 1 := ⟨q - 1, by omega⟩
    generalize hp : (hs9 (t.2 436) + i) % 4096 = p
    have hp4 : p < 4096 := by omega
    rcases hT.2.2.1 p hp4 with h5 | ⟨s, hs, hps⟩
    · have h6 := hnz i (by omega)
      rw [hp] at h6
      exact absurd h5 h6
    · have hv := (hT.2.1 s hs).2
      rw [hps] at hv
      have hs2 : s < 2000 := by have := hT.1; omega
      have hstep : f_X9_placeOfKey_L49 (fun (k18 : Int) (t19 : St) => some (k18, t19)) (q + 1) ((p : Nat) : Int) i t = if t.2 430 (3 * s) = t.2 436 0 then (if t.2 430 (3 * s + 1) = t.2 436 1 then (if t.2 430 (3 * s + 2) = t.2 436 2 then some ((p : Int), t) else f_X9_placeOfKey_L49 (fun (k18 : Int) (t19 : St) => some (k18, t19)) q (((p : Int) + 1) % 4096) ((i : Int) + 1) t) else f_X9_placeOfKey_L49 (fun (k18 : Int) (t19 : St) => some (k18, t19)) q (((p : Int) + 1) % 4096) ((i : Int) + 1) t) else f_X9_placeOfKey_L49 (fun (k18 : Int) (t19 : St) => some (k18, t19)) q (((p : Int) + 1) % 4096) ((i : Int) + 1) t := by
        conv => lhs; unfold f_X9_placeOfKey_L49
        simp only [lt1_k, jn1_k]
        rw [cmpI_ok (by omega), if_pos (by omega), ixI_ok (by omega), Int.toNat_natCast, hv, cmpI_ok (by omega), if_neg (by omega), ixI_ok (by omega), ixI_ok (by omega), ixI_ok (by omega), ixI_ok (by omega), ixI_ok (by omega), ixI_ok (by omega), ixI_ok (by omega)]
        rw [show (3 * (((s + 1 : Nat) : Int) - 1)).toNat = 3 * s by omega, show (3 * (((s + 1 : Nat) : Int) - 1) + 1).toNat = 3 * s + 1 by omega, show (3 * (((s + 1 : Nat) : Int) - 1) + 2).toNat = 3 * s + 2 by omega]
        rfl
      have hnext : f_X9_placeOfKey_L49 (fun (k18 : Int) (t19 : St) => some (k18, t19)) q (((p : Int) + 1) % 4096) ((i : Int) + 1) t = f_X9_placeOfKey_L49 (fun (k18 : Int) (t19 : St) => some (k18, t19)) q (((hs9 (t.2 436) + (i + 1)) % 4096 : Nat) : Int) ((i + 1 : Nat) : Int) t := by
        rw [show ((p : Int) + 1) % 4096 = (((hs9 (t.2 436) + (i + 1)) % 4096 : Nat) : Int) by omega, show (i : Int) + 1 = ((i + 1 : Nat) : Int) by omega]
      by_cases hk : sk9 (ky9 t s) (t.2 436)
      · refine Or.inl ⟨i, s, Nat.le_refl i, by omega, hs, by rw [hps, hp], hk, ?_⟩
        rw [hstep, if_pos (show t.2 430 (3 * s) = t.2 436 0 from hk.1), if_pos (show t.2 430 (3 * s + 1) = t.2 436 1 from hk.2.1), if_pos (show t.2 430 (3 * s + 2) = t.2 436 2 from hk.2.2), hps]
      · have hgo : f_X9_placeOfKey_L49 (fun (k18 : Int) (t19 : St) => some (k18, t19)) (q + 1) ((p : Nat) : Int) i t = f_X9_placeOfKey_L49 (fun (k18 : Int) (t19 : St) => some (k18, t19)) q (((hs9 (t.2 436) + (i + 1)) % 4096 : Nat) : Int) ((i + 1 : Nat) : Int) t := by
          rw [hstep, hnext]
          split
          · next e1 =>
            split
            · next e2 =>
              split
              · next e3 => exact absurd ⟨e1, e2, e3⟩ hk
              · rfl
            · rfl
          · rfl
        have hpre : ∀ i', i' < i + 1 → ∀ r, r < S → pl r = (hs9 (t.2 436) + i') % 4096 → ¬ sk9 (ky9 t r) (t.2 436) := by
          intro i' hi' r hr hpr
          by_cases hii : i' = i
          · subst hii
            have e1 := (hT.2.1 r hr).2
            rw [hpr, hp, hv] at e1
            have : r = s := by omega
            rw [this]; exact hk
          · exact h3 i' (by omega) r hr hpr
        rcases ih (i + 1) q (by omega) (by omega) hpre with ⟨i', r, g1, g2, g3, g4, g5, g6⟩ | ⟨g1, g2⟩
        · exact Or.inl ⟨i', r, by omega, g2, g3, g4, g5, by rw [hgo]; exact g6⟩
        · exact Or.inr ⟨g1, by rw [hgo]; exact g2⟩
/-- a key is looked up -/
theorem h_find9 {t : St} {S : Nat} {pl : Nat → Nat} (hT : HTb t S pl) (hN : 5000 ≤ N) : ∃ p : Nat, p < 4096 ∧ f_X9_placeOfKey N t = some ((p : Int), t) ∧ ((∃ s, s < S ∧ pl s = p ∧ sk9 (ky9 t s) (t.2 436)) ∨ (t.1 431 p = 0 ∧ (∀ s, s < S → ¬ sk9 (ky9 t s) (t.2 436)) ∧ ∃ d, d < 4096 ∧ (hs9 (t.2 436) + d) % 4096 = p ∧ ∀ i, i < d → t.1 431 ((hs9 (t.2 436) + i) % 4096) ≠ 0)) := by
  have hlt := hs9_lt (t.2 436)
  obtain ⟨p0, a1, a2⟩ := pig9 S 4096 pl (by have := hT.1; omega)
  have a3 : t.1 431 p0 = 0 := by
    rcases hT.2.2.1 p0 a1 with h | ⟨s, h1, h2⟩
    · exact h
    · exact absurd h2 (a2 s h1)
  obtain ⟨z, b1, b2, b3⟩ := least9 (fun i => t.1 431 ((hs9 (t.2 436) + i) % 4096) = 0) ((p0 + 4096 - hs9 (t.2 436)) % 4096) (by
    show t.1 431 ((hs9 (t.2 436) + (p0 + 4096 - hs9 (t.2 436)) % 4096) % 4096) = 0
    rw [show (hs9 (t.2 436) + (p0 + 4096 - hs9 (t.2 436)) % 4096) % 4096 = p0 by omega]
    exact a3)
  have hz : z < 4096 := by omega
  have hpk : f_X9_placeOfKey N t = f_X9_placeOfKey_L49 (fun (k18 : Int) (t19 : St) => some (k18, t19)) N (((hs9 (t.2 436) + 0) % 4096 : Nat) : Int) ((0 : Nat) : Int) t := by
    unfold f_X9_placeOfKey
    simp only [lt1_k]
    rw [ixI_ok (by omega), ixI_ok (by omega), ixI_ok (by omega)]
    have e : (ushrL ((((((t.2 436 (0 : Int).toNat * (31 : Int64)) + t.2 436 (1 : Int).toNat) * (31 : Int64)) + t.2 436 (2 : Int).toNat) ^^^ (ushrL ((((t.2 436 (0 : Int).toNat * (31 : Int64)) + t.2 436 (1 : Int).toNat) * (31 : Int64)) + t.2 436 (2 : Int).toNat) 29)) * (-7046029254386353131 : Int64)) 52).toInt = (((hs9 (t.2 436) + 0) % 4096 : Nat) : Int) := by
      have e2 : uq (ushrL ((((((t.2 436 (0 : Int).toNat * (31 : Int64)) + t.2 436 (1 : Int).toNat) * (31 : Int64)) + t.2 436 (2 : Int).toNat) ^^^ (ushrL ((((t.2 436 (0 : Int).toNat * (31 : Int64)) + t.2 436 (1 : Int).toNat) * (31 : Int64)) + t.2 436 (2 : Int).toNat) 29)) * (-7046029254386353131 : Int64)) ((52 : Nat) : Int)) = hs9 (t.2 436) := uq_shr (by decide)
      rw [show (52 : Int) = ((52 : Nat) : Int) from rfl, uq_toI (by rw [e2]; omega), e2]
      omega
    rw [e]
    rfl
  rcases h_probe hT hz b2 b3 z 0 N (by omega) (by omega) (fun i' h => by omega) with ⟨i', s, g1, g2, g3, g4, g5, g6⟩ | ⟨g1, g2⟩
  · exact ⟨pl s, (hT.2.1 s g3).1, by rw [hpk]; exact g6, Or.inl ⟨s, g3, rfl, g5⟩⟩
  · refine ⟨(hs9 (t.2 436) + z) % 4096, by omega, by rw [hpk]; exact g2, Or.inr ⟨b2, fun s hs hk => ?_, z, hz, rfl, b3⟩⟩
    obtain ⟨d, d1, d2, d3⟩ := hT.2.2.2.1 s hs
    have eh : hs9 (ky9 t s) = hs9 (t.2 436) := hs9_cg hk
    rw [eh] at d2 d3
    have hdz : d < z := by
      rcases Nat.lt_or_ge d z with h | h
      · exact h
      · exfalso
        rcases Nat.lt_or_eq_of_le h with h | h
        · exact d3 z h b2
        · have e1 := (hT.2.1 s hs).2
          rw [← d2, ← h] at e1
          rw [b2] at e1
          omega
    exact g1 d hdz s hs d2.symm hk
/-- the frame of meeting a state -/
def MTf (t u : St) : Prop := (∀ x, x ≠ 310 → x ≠ 431 → u.1 x = t.1 x) ∧ (∀ y, y ≠ 11 → y ≠ 13 → u.1 310 y = t.1 310 y) ∧ (∀ x, x ≠ 430 → u.2 x = t.2 x)
theorem MTf.rf {t : St} : MTf t t := ⟨fun _ _ _ => rfl, fun _ _ _ => rfl, fun _ _ => rfl⟩
/-- meet -/
theorem h_meet9 {t : St} {S e : Nat} {pl : Nat → Nat} (hT : HTb t S pl) (h11 : t.1 310 11 = S) (h13 : t.1 310 13 = e) (he : e ≤ 10000) (hN : 5000 ≤ N) :
    (∃ s, s < S ∧ sk9 (ky9 t s) (t.2 436) ∧ f_X9_meet N t = some ((s : Int), t)) ∨
    ((∀ s, s < S → ¬ sk9 (ky9 t s) (t.2 436)) ∧ (S = 2000 ∨ e = 10000) ∧ f_X9_meet N t = some (-1, t)) ∨
    ((∀ s, s < S → ¬ sk9 (ky9 t s) (t.2 436)) ∧ S < 2000 ∧ e < 10000 ∧ ∃ (u : St) (pl2 : Nat → Nat), f_X9_meet N t = some ((S : Int), u) ∧ HTb u (S + 1) pl2 ∧ u.1 310 11 = ((S + 1 : Nat) : Int) ∧ u.1 310 13 = ((e + 1 : Nat) : Int) ∧ MTf t u ∧ (∀ s, s < S → sk9 (ky9 u s) (ky9 t s)) ∧ sk9 (ky9 u S) (t.2 436)) := by
  obtain ⟨p, hp, a1, a2⟩ := h_find9 (N := N) hT hN
  rcases a2 with ⟨s, b1, b2, b3⟩ | ⟨b1, b2, d, b3, b4, b5⟩
  · refine Or.inl ⟨s, b1, b3, ?_⟩
    have hv := (hT.2.1 s b1).2
    rw [b2] at hv
    have hS := hT.1
    unfold f_X9_meet
    simp only [lt1_k]
    rw [a1, bdI_s, ixI_ok (by omega), Int.toNat_natCast, hv, cmpI_ok (by omega), if_neg (by omega), ixI_ok (by omega)]
    rw [show ((s + 1 : Nat) : Int) - 1 = (s : Int) by omega]
  · have hS := hT.1
    by_cases hfull : S = 2000 ∨ e = 10000
    · refine Or.inr (Or.inl ⟨b2, hfull, ?_⟩)
      unfold f_X9_meet
      simp only [lt1_k]
      rw [a1, bdI_s, ixI_ok (by omega), Int.toNat_natCast, b1, cmpI_ok (by omega), if_pos rfl, h11, cmpI_ok (by omega)]
      by_cases h2 : (S : Int) < 2000
      · rw [if_pos h2, h13, cmpI_ok (by omega), if_neg (by omega)]
      · rw [if_neg h2]
    · refine Or.inr (Or.inr ⟨b2, by omega, by omega, ?_⟩)
      generalize hu : pI (pI (pI (cpL t 436 430 0 (3 * S) 3) 310 11 ((S + 1 : Nat) : Int)) 310 13 ((e + 1 : Nat) : Int)) 431 p ((S + 1 : Nat) : Int) = u
      have hcp : (cpL t 436 430 0 (3 * S) 3).1 = t.1 := rfl
      have u1 : ∀ x, x ≠ 310 → x ≠ 431 → u.1 x = t.1 x := fun x h1 h2 => by rw [← hu, pI_ne h2, pI_ne h1, pI_ne h1, hcp]
      have u310 : ∀ y, y ≠ 11 → y ≠ 13 → u.1 310 y = t.1 310 y := fun y h1 h2 => by rw [← hu, pI_ne (by decide), pI_nf h2, pI_nf h1, hcp]
      have u11 : u.1 310 11 = ((S + 1 : Nat) : Int) := by rw [← hu, pI_ne (by decide), pI_nf (by decide), pI_at]
      have u13 : u.1 310 13 = ((e + 1 : Nat) : Int) := by rw [← hu, pI_ne (by decide), pI_at]
      have u431 : ∀ x, x ≠ p → u.1 431 x = t.1 431 x := fun x hx => by rw [← hu, pI_nf hx, pI_ne (by decide), pI_ne (by decide), hcp]
      have u431p : u.1 431 p = ((S + 1 : Nat) : Int) := by rw [← hu, pI_at]
      have uL : ∀ x, x ≠ 430 → u.2 x = t.2 x := fun x hx => by rw [← hu]; exact cpL_ne hx
      have u430 : u.2 430 = va_cpy (t.2 436) (t.2 430) 0 (3 * S) 3 := by
        rw [← hu]
        exact cpL_at (t := t) (src := 436) (dst := 430) (sp := 0) (dp := 3 * S) (n := 3)
      have kold : ∀ s, s < S → ky9 u s 0 = ky9 t s 0 ∧ ky9 u s 1 = ky9 t s 1 ∧ ky9 u s 2 = ky9 t s 2 := by
        intro s hs
        unfold ky9
        rw [u430]
        unfold va_cpy
        exact ⟨if_neg (by omega), if_neg (by omega), if_neg (by omega)⟩
      have knew : sk9 (ky9 u S) (t.2 436) := by
        unfold sk9 ky9
        rw [u430]
        unfold va_cpy
        exact ⟨by rw [if_pos (by omega), show 0 + (3 * S + 0 - 3 * S) = 0 by omega], by rw [if_pos (by omega), show 0 + (3 * S + 1 - 3 * S) = 1 by omega], by rw [if_pos (by omega), show 0 + (3 * S + 2 - 3 * S) = 2 by omega]⟩
      have hcd : t.1 310 11 = S := h11
      refine ⟨u, fun s => if s = S then p else pl s, ?_, ?_, u11, u13, ⟨u1, u310, uL⟩, kold, knew⟩
      · unfold f_X9_meet
        simp only [lt1_k]
        rw [a1, bdI_s, ixI_ok (by omega), Int.toNat_natCast, b1, cmpI_ok (by omega), if_pos rfl, h11, cmpI_ok (by omega), if_pos (by omega), h13, cmpI_ok (by omega), if_pos (by omega)]
        have ecp : ∀ {Z : Type} (K : Option Z), cpI 0 (3 * (S : Int)) 3 3 6000 K = K := fun K => by unfold cpI; rw [if_pos (by omega)]
        rw [ecp, show (3 * (S : Int)).toNat = 3 * S by omega, show (0 : Int).toNat = 0 from rfl, show (3 : Int).toNat = 3 from rfl, hcp, h11]
        rw [pI_nf (show (13 : Nat) ≠ 11 by decide), hcp, h13, show (S : Int) + 1 = ((S + 1 : Nat) : Int) by omega, show (e : Int) + 1 = ((e + 1 : Nat) : Int) by omega]
        rw [pI_nf (show (11 : Nat) ≠ 13 by decide), pI_at, ixI_ok (by omega)]
        have hb : b16 (b16 ((S + 1 : Nat) : Int)) = ((S + 1 : Nat) : Int) := by unfold b16; omega
        rw [hb, hu, u11, show ((S + 1 : Nat) : Int) - 1 = (S : Int) by omega]
      · refine ⟨by omega, fun s hs => ?_, fun q hq => ?_, fun s hs => ?_, fun s r hs hr hk => ?_⟩
        · dsimp only
          by_cases h : s = S
          · rw [if_pos h, h]; exact ⟨hp, u431p⟩
          · rw [if_neg h]
            have h2 := hT.2.1 s (by omega)
            have hne : pl s ≠ p := fun hh => by rw [hh, b1] at h2; omega
            exact ⟨h2.1, by rw [u431 _ hne]; exact h2.2⟩
        · by_cases hqp : q = p
          · exact Or.inr ⟨S, by omega, by dsimp only; rw [if_pos rfl, hqp]⟩
          · rw [u431 q hqp]
            refine (hT.2.2.1 q hq).imp id (fun ⟨s, h1, h2⟩ => ⟨s, by omega, by dsimp only; rw [if_neg (by omega)]; exact h2⟩)
        · dsimp only
          by_cases h : s = S
          · rw [if_pos h]
            refine ⟨d, b3, ?_, fun i hi => ?_⟩
            · rw [h, hs9_cg knew]; exact b4
            · rw [h, hs9_cg knew]
              by_cases hq : (hs9 (t.2 436) + i) % 4096 = p
              · rw [hq, u431p]; omega
              · rw [u431 _ hq]; exact b5 i hi
          · rw [if_neg h]
            obtain ⟨d2, c1, c2, c3⟩ := hT.2.2.2.1 s (by omega)
            have ek : hs9 (ky9 u s) = hs9 (ky9 t s) := hs9_cg (kold s (by omega))
            refine ⟨d2, c1, by rw [ek]; exact c2, fun i hi => ?_⟩
            rw [ek]
            by_cases hq : (hs9 (ky9 t s) + i) % 4096 = p
            · rw [hq, u431p]; omega
            · rw [u431 _ hq]; exact c3 i hi
        · have key : ∀ x, x < S + 1 → ∀ y, y < S → x ≠ y → ¬ sk9 (ky9 u x) (ky9 u y) := by
            intro x hx y hy hxy hk2
            have e1 := kold y hy
            by_cases hxS : x = S
            · subst hxS
              exact b2 y hy ⟨by rw [← e1.1, ← hk2.1]; exact knew.1, by rw [← e1.2.1, ← hk2.2.1]; exact knew.2.1, by rw [← e1.2.2, ← hk2.2.2]; exact knew.2.2⟩
            · have e2 := kold x (by omega)
              exact hxy (hT.2.2.2.2 x y (by omega) hy ⟨by rw [← e2.1, hk2.1, e1.1], by rw [← e2.2.1, hk2.2.1, e1.2.1], by rw [← e2.2.2, hk2.2.2, e1.2.2]⟩)
          by_cases hrs : s = r
          · exact hrs
          · exfalso
            by_cases hrS : r < S
            · exact key s hs r hrS hrs hk
            · exact key r hr s (by omega) (fun h => hrs h.symm) ⟨hk.1.symm, hk.2.1.symm, hk.2.2.symm⟩
end
