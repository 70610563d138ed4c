/-! load against load -/
def LDh (t u : St) : Prop := (∀ x y : Nat, x ≠ 332 → x ≠ 333 → x ≠ 334 → x ≠ 365 → (x ≠ 301 ∨ (y ≠ 7 ∧ y ≠ 1)) → (x ≠ 300 ∨ y ≠ 13) → LwA x y (t.1 312 2) (t.1 313 2) (t.1 314 2) (t.1 302 16) (t.1 302 18) → u.1 x y = t.1 x y) ∧ ∀ x y : Nat, x ≠ 335 → LwL x y (t.1 312 2) (t.1 313 2) (t.1 314 2) → u.2 x y = t.2 x y
def LDm (m v : St) : Prop := (∀ x y : Nat, (x ≠ 200 ∨ y = 0 ∨ 8 < y) → LwB x y (m.1 200 13) (m.1 200 14) (m.1 200 15) (m.1 200 16) (m.1 200 17) (m.1 200 33) → v.1 x y = m.1 x y) ∧ v.2 = m.2
section
variable {N : Nat} {B : Nat → Int} {e mm i : Nat} {t m u v : St}
theorem h_save : ∃ u, f_X7_save N t = some u ∧ (∀ x, x ≠ 365 → u.1 x = t.1 x) ∧ u.2 = t.2 ∧ (u.1 365 0 = t.1 312 2 ∧ u.1 365 1 = t.1 313 2 ∧ u.1 365 2 = t.1 314 2 ∧ u.1 365 3 = t.1 302 16 ∧ u.1 365 4 = t.1 302 18 ∧ u.1 365 5 = t.1 302 19) := by
  refine ⟨pI (pI (pI (pI (pI (pI t 365 0 (t.1 312 2)) 365 1 (t.1 313 2)) 365 2 (t.1 314 2)) 365 3 (t.1 302 16)) 365 4 (t.1 302 18)) 365 5 (t.1 302 19), ?_, fun x hx => by rw [pI_ne hx, pI_ne hx, pI_ne hx, pI_ne hx, pI_ne hx, pI_ne hx], rfl, ?_, ?_, ?_, ?_, ?_, ?_⟩
  · unfold f_X7_save
    simp only [lt1_k]
    rw [ixI_ok (by decide), ixI_ok (by decide), ixI_ok (by decide), ixI_ok (by decide), ixI_ok (by decide), ixI_ok (by decide)]
    rfl
  · rw [pI_nf (by decide), pI_nf (by decide), pI_nf (by decide), pI_nf (by decide), pI_nf (by decide), pI_at]
  · rw [pI_nf (by decide), pI_nf (by decide), pI_nf (by decide), pI_nf (by decide), pI_at]
  · rw [pI_nf (by decide), pI_nf (by decide), pI_nf (by decide), pI_at]
  · rw [pI_nf (by decide), pI_nf (by decide), pI_at]
  · rw [pI_nf (by decide), pI_at]
  · rw [pI_at]
theorem h_revert : ∃ u, f_X7_revert N t = some u ∧ (∀ x y, ((x < 312 ∨ 314 < x) ∨ y ≠ 2) → (x ≠ 302 ∨ (y ≠ 16 ∧ y ≠ 18 ∧ y ≠ 19)) → u.1 x y = t.1 x y) ∧ u.2 = t.2 ∧ (u.1 312 2 = t.1 365 0 ∧ u.1 313 2 = t.1 365 1 ∧ u.1 314 2 = t.1 365 2 ∧ u.1 302 16 = t.1 365 3 ∧ u.1 302 18 = t.1 365 4 ∧ u.1 302 19 = t.1 365 5) := by
  refine ⟨pI (pI (pI (pI (pI (pI t 312 2 (t.1 365 0)) 313 2 (t.1 365 1)) 314 2 (t.1 365 2)) 302 16 (t.1 365 3)) 302 18 (t.1 365 4)) 302 19 (t.1 365 5), ?_, fun x y h1 h2 => by rw [pI_of (by omega), pI_of (by omega), pI_of (by omega), pI_of (by omega), pI_of (by omega), pI_of (by omega)], rfl, ?_, ?_, ?_, ?_, ?_, ?_⟩
  · unfold f_X7_revert
    simp only [lt1_k]
    rw [ixI_ok (by decide), ixI_ok (by decide), ixI_ok (by decide), ixI_ok (by decide), ixI_ok (by decide), ixI_ok (by decide)]
    rfl
  · rw [pI_of (by omega), pI_of (by omega), pI_of (by omega), pI_of (by omega), pI_of (by omega), pI_at]
  · rw [pI_of (by omega), pI_of (by omega), pI_of (by omega), pI_of (by omega), pI_at]
  · rw [pI_of (by omega), pI_of (by omega), pI_of (by omega), pI_at]
  · rw [pI_of (by omega), pI_of (by omega), pI_at]
  · rw [pI_of (by omega), pI_at]
  · rw [pI_at]
theorem h_wplace {i : Nat} (h : TKs t B e mm) (hi : i ≤ mm) (h2 : t.1 303 2 = i) : f_X7_wrongPlace N t = some ((ch B e i : Int), t) := by
  have hl := h.2.2.2.1
  have hl2 := h.2.2.2.2.1
  unfold f_X7_wrongPlace f_X10_startOf
  simp only [lt1_k]
  rw [h2, cmpI_ok (by omega), if_neg (by omega), cmpI_ok (by omega), if_pos (by omega), ixI_ok (by omega), Int.toNat_natCast, (h.1 i hi).1, bdI_s]
theorem load_both (hN : 5000 ≤ N) (hB : BK0 t m) (hT : TXt t m) (hkw : kwOK t) : ∃ (r : Int) (u v : St), f_X11_load N t = some (r, u) ∧ f_X12_load N m = some (r, v) ∧ (-4098 ≤ r ∧ r ≤ 0) ∧ BK0 u v ∧ (u.1 301 1 = 0 ∧ v.1 200 1 = 0) ∧ (u.1 300 13 = v.1 200 8 ∧ 0 ≤ v.1 200 8 ∧ v.1 200 8 ≤ 7) ∧ LDh t u ∧ LDm m v ∧ CLe t u ∧ CLm m v := by
  obtain ⟨⟨e, he, x1, x2, x3⟩, hby⟩ := hT
  obtain ⟨t1, mm, a1, a2, a3, a4⟩ := s_read (N := N) (t := t) (B := fun i => m.1 0 i % 256) (e := e) ⟨x1, he, x3, fun i _ => ⟨Int.emod_nonneg _ (by decide), Int.emod_lt_of_pos _ (by decide)⟩⟩ hkw hN
  obtain ⟨v0, b1, b2, b3, b4⟩ := op_text (N := N) (B := fun i => m.1 0 i % 256) hN he x2 hby (fun i _ => rfl)
  obtain ⟨t2, c1, c2, c3, c4⟩ := h_save (N := N) (t := t1)
  have hBn := hB.2.1
  obtain ⟨⟨a0, c0, n1, n2, n3, n4, n4'⟩, ⟨n5, n6, n7, n8⟩, n9, n10, n11⟩ := hBn
  have T2 : ∀ x y, x ≠ 332 → x ≠ 333 → x ≠ 334 → x ≠ 301 → x ≠ 365 → t2.1 x y = t.1 x y := fun x y z1 z2 z3 z4 z5 => by rw [c2 x z5, a2.1 x y z1 z2 z3 (by omega)]
  have hTK2 : TKs t2 (fun i => m.1 0 i % 256) e mm := TKs.mv a4 (by rw [c2 301 (by decide)]) (fun x hx => c2 x (by omega)) (by rw [c3])
  obtain ⟨u0, d1, d2, d3, d4, d5⟩ := st_text (N := N) hTK2 b2 b3 (by rw [T2 302 19 (by omega) (by omega) (by omega) (by omega) (by omega), b4.1 200 33 (by omega)]; omega)
  have U0 : ∀ x y, x ≠ 332 → x ≠ 333 → x ≠ 334 → x ≠ 301 → x ≠ 365 → x ≠ 303 → u0.1 x y = t.1 x y := fun x y z1 z2 z3 z4 z5 z6 => by rw [d3 x z6, T2 x y z1 z2 z3 z4 z5]
  have hB0 : BK0 u0 v0 := hB.mv (fun x y hx _ => U0 x y (by omega) (by omega) (by omega) (by omega) (by omega) (by omega)) (fun x y hx _ => b4.1 x y (by omega)) (fun s x hs _ => by rw [d4, c3, a2.2 (340 + s) (by omega)]) ⟨U0 312 2 (by omega) (by omega) (by omega) (by omega) (by omega) (by omega), U0 313 2 (by omega) (by omega) (by omega) (by omega) (by omega) (by omega), U0 314 2 (by omega) (by omega) (by omega) (by omega) (by omega) (by omega)⟩ ⟨U0 302 16 (by omega) (by omega) (by omega) (by omega) (by omega) (by omega), U0 302 18 (by omega) (by omega) (by omega) (by omega) (by omega) (by omega), U0 302 19 (by omega) (by omega) (by omega) (by omega) (by omega) (by omega)⟩ ⟨b4.1 200 13 (by omega), b4.1 200 14 (by omega), b4.1 200 15 (by omega), b4.1 200 16 (by omega), b4.1 200 17 (by omega), b4.1 200 33 (by omega)⟩
  have hmm := a4.2.2.2.2.2
  have q312 : u0.1 312 2 = t.1 312 2 := U0 312 2 (by omega) (by omega) (by omega) (by omega) (by omega) (by omega)
  have q313 : u0.1 313 2 = t.1 313 2 := U0 313 2 (by omega) (by omega) (by omega) (by omega) (by omega) (by omega)
  have q314 : u0.1 314 2 = t.1 314 2 := U0 314 2 (by omega) (by omega) (by omega) (by omega) (by omega) (by omega)
  have q16 : u0.1 302 16 = t.1 302 16 := U0 302 16 (by omega) (by omega) (by omega) (by omega) (by omega) (by omega)
  have q18 : u0.1 302 18 = t.1 302 18 := U0 302 18 (by omega) (by omega) (by omega) (by omega) (by omega) (by omega)
  have q19 : u0.1 302 19 = t.1 302 19 := U0 302 19 (by omega) (by omega) (by omega) (by omega) (by omega) (by omega)
  have w13 := b4.1 200 13 (by omega)
  have w14 := b4.1 200 14 (by omega)
  have w15 := b4.1 200 15 (by omega)
  have w16 := b4.1 200 16 (by omega)
  have w17 := b4.1 200 17 (by omega)
  have w33 := b4.1 200 33 (by omega)
  obtain ⟨u, v, fl, f1, f2, f3, f4, f5⟩ := book_lp (N := N) (t0 := u0) (m0 := v0) hN (fun (k22 : Int) (t23 : St) => cmpI k22 0 (if k22 = 0 then (bdV (f_X7_revert N t23) fun t24 => some t24) else (some t23))) (fun (k39 : Int) (t40 : St) => cmpI k39 0 (if k39 = 0 then (some ((-2) - (pI (pI (pI (pI (pI (pI t40 200 13 (m.1 200 13)) 200 14 (m.1 200 14)) 200 15 (m.1 200 15)) 200 16 (m.1 200 16)) 200 17 (m.1 200 17)) 200 33 (m.1 200 33)).1 200 4, pI (pI (pI (pI (pI (pI t40 200 13 (m.1 200 13)) 200 14 (m.1 200 14)) 200 15 (m.1 200 15)) 200 16 (m.1 200 16)) 200 17 (m.1 200 17)) 200 33 (m.1 200 33))) else (some (0, t40)))) mm 0 N N 0 u0 v0 (by omega) (by omega) (by omega) (by omega) d2 d5 hB0 LwH.rf LwM.rf ⟨Int.le_refl _, Int.le_refl _, Int.le_refl _, Int.le_refl _, Int.le_refl _⟩ ⟨Int.le_refl _, Int.le_refl _, Int.le_refl _, Int.le_refl _, Int.le_refl _, Int.le_refl _⟩
  have hM0 : f_X12_load N m = f_X12_load_L40 N (fun (k39 : Int) (t40 : St) => cmpI k39 0 (if k39 = 0 then (some ((-2) - (pI (pI (pI (pI (pI (pI t40 200 13 (m.1 200 13)) 200 14 (m.1 200 14)) 200 15 (m.1 200 15)) 200 16 (m.1 200 16)) 200 17 (m.1 200 17)) 200 33 (m.1 200 33)).1 200 4, pI (pI (pI (pI (pI (pI t40 200 13 (m.1 200 13)) 200 14 (m.1 200 14)) 200 15 (m.1 200 15)) 200 16 (m.1 200 16)) 200 17 (m.1 200 17)) 200 33 (m.1 200 33))) else (some (0, t40)))) N 1 v0 := by
    unfold f_X12_load
    simp only [lt1_k]
    rw [b1, bdV_s]
  have LDH : ∀ w : St, LwH u0 w → ∀ z : St, (∀ x y, ((x < 312 ∨ 314 < x) ∨ y ≠ 2) → (x ≠ 302 ∨ (y ≠ 16 ∧ y ≠ 18 ∧ y ≠ 19)) → (x ≠ 300 ∨ y ≠ 13) → z.1 x y = w.1 x y) → z.2 = w.2 → LDh t z := fun w hw z hz hz2 => by
    refine ⟨fun x y k1 k2 k3 k4 k5 k6 k7 => ?_, fun x y k1 k2 => ?_⟩
    · rw [hz x y k7.2.2.1 k7.2.1 k6]
      have h7 := k7
      rw [← q312, ← q313, ← q314, ← q16, ← q18] at h7
      rw [hw.1 x y h7, d3 x k7.1, c2 x k4, a2.1 x y k1 k2 k3 k5]
    · rw [hz2]
      have h7 := k2
      rw [← q312, ← q313, ← q314] at h7
      rw [hw.2 x y h7, d4, c3, a2.2 x k1]
  have LDM : ∀ w : St, LwM v0 w → LDm m w := fun w hw => by
    refine ⟨fun x y k1 k2 => ?_, hw.2.trans b4.2.1⟩
    have h7 := k2
    rw [← w13, ← w14, ← w15, ← w16, ← w17, ← w33] at h7
    rw [hw.1 x y h7]
    have k3 : x ≠ 200 ∨ (¬ PFd y ∧ (y < 13 ∨ 17 < y)) := k2.1
    refine b4.1 x y ?_
    rcases k3 with k3 | k3
    · exact Or.inl k3
    · have := npf k3.1
      omega
  unfold f_X11_load f_X7_readBook
  simp only [lt1_k]
  rw [a1, bdV_s, c1, bdV_s, d1, bdV_s, hM0]
  rw [show f_X7_readBook_L12 N (fun (k22 : Int) (t23 : St) => cmpI k22 0 (if k22 = 0 then (bdV (f_X7_revert N t23) fun t24 => some t24) else (some t23))) N 1 0 u0 = _ from f1, f2]
  rcases f5 with ⟨rfl, g1, g2, g3, g4, g5⟩ | ⟨rfl, g1, i, g2, g3, g4, g5, g6⟩
  · rw [cmpI_ok (a := 1) (b := 0) (by omega), if_neg (show ¬ (1 : Int) = 0 by decide), bdV_s, cmpI_ok (a := 1) (b := 0) (by omega), if_neg (show ¬ (1 : Int) = 0 by decide), g2, pI_at, cmpI_ok (a := 0) (b := 0) (by omega), if_pos rfl]
    have pz : ∀ x y, (x ≠ 300 ∨ y ≠ 13) → (pI u 300 13 0).1 x y = u.1 x y := fun x y z => pI_of z
    refine ⟨0, pI u 300 13 0, v, rfl, rfl, by omega, ?_, ⟨?_, ?_⟩, ⟨?_, by omega, by omega⟩, ?_, LDM v f4, ?_, ?_⟩
    · exact g1.mv (fun x y hx _ => pz x y (by omega)) (fun _ _ _ _ => rfl) (fun _ _ _ _ => rfl) ⟨pz 312 2 (by omega), pz 313 2 (by omega), pz 314 2 (by omega)⟩ ⟨pz 302 16 (by omega), pz 302 18 (by omega), pz 302 19 (by omega)⟩ ⟨rfl, rfl, rfl, rfl, rfl, rfl⟩
    · rw [pz 301 1 (by omega), f3.1 301 1 ⟨by omega, by omega, by omega, by omega, by omega, by omega, by omega, by omega, by omega, by omega, by omega⟩, d3 301 (by decide), c2 301 (by decide)]; exact a3
    · rw [f4.1 200 1 ⟨Or.inr ⟨by unfold PFd; omega, by omega⟩, by omega, by omega, by omega, by omega, by omega, by omega, by omega, by omega, by omega⟩]; exact b4.2.2
    · rw [pI_at, g3]
    · exact LDH u f3 _ (fun x y _ _ z3 => pz x y z3) rfl
    · obtain ⟨k1, k2, k3, k4, k5⟩ := g4
      exact ⟨by rw [pz 312 2 (by omega)]; omega, by rw [pz 313 2 (by omega)]; omega, by rw [pz 314 2 (by omega)]; omega, by rw [pz 302 16 (by omega)]; omega, by rw [pz 302 18 (by omega)]; omega⟩
    · obtain ⟨k1, k2, k3, k4, k5, k6⟩ := g5
      exact ⟨by omega, by omega, by omega, by omega, by omega, by omega⟩
  · obtain ⟨z, j1, j2, j3, j4⟩ := h_revert (N := N) (t := u)
    have e365 : ∀ y, u.1 365 y = t2.1 365 y := fun y => by rw [f3.1 365 y ⟨by omega, by omega, by omega, by omega, by omega, by omega, by omega, by omega, by omega, by omega, by omega⟩, d3 365 (by decide)]
    have z312 : z.1 312 2 = t.1 312 2 := by rw [j4.1, e365, c4.1, a2.1 312 2 (by omega) (by omega) (by omega) (by omega)]
    have z313 : z.1 313 2 = t.1 313 2 := by rw [j4.2.1, e365, c4.2.1, a2.1 313 2 (by omega) (by omega) (by omega) (by omega)]
    have z314 : z.1 314 2 = t.1 314 2 := by rw [j4.2.2.1, e365, c4.2.2.1, a2.1 314 2 (by omega) (by omega) (by omega) (by omega)]
    have z16 : z.1 302 16 = t.1 302 16 := by rw [j4.2.2.2.1, e365, c4.2.2.2.1, a2.1 302 16 (by omega) (by omega) (by omega) (by omega)]
    have z18 : z.1 302 18 = t.1 302 18 := by rw [j4.2.2.2.2.1, e365, c4.2.2.2.2.1, a2.1 302 18 (by omega) (by omega) (by omega) (by omega)]
    have z19 : z.1 302 19 = t.1 302 19 := by rw [j4.2.2.2.2.2, e365, c4.2.2.2.2.2, a2.1 302 19 (by omega) (by omega) (by omega) (by omega)]
    have z5 : z.1 303 5 = v.1 200 8 := by rw [j2 303 5 (by omega) (by omega)]; exact g5
    rw [cmpI_ok (a := 0) (b := 0) (by omega), if_pos (show (0 : Int) = 0 from rfl), j1, bdV_s, bdV_s, cmpI_ok (a := 0) (b := 0) (by omega), if_pos (show (0 : Int) = 0 from rfl), z5, pI_at, cmpI_ok (by omega), if_neg (show ¬ v.1 200 8 = 0 by omega)]
    have pz : ∀ x y, (x ≠ 300 ∨ y ≠ 13) → (pI z 300 13 (v.1 200 8)).1 x y = z.1 x y := fun x y q => pI_of q
    have hTKz : TKs (pI z 300 13 (v.1 200 8)) (fun i => m.1 0 i % 256) e mm := TKs.mv g1 (by rw [pz 301 7 (by omega), j2 301 7 (by omega) (by omega)]) (fun x hx => funext fun y => by rw [pz x y (by omega), j2 x y (by omega) (by omega)]) (by rw [pI_L, j3])
    rw [h_wplace hTKz g2 (by rw [pz 303 2 (by omega), j2 303 2 (by omega) (by omega)]; exact g3), bdI_s]
    generalize hw : pI (pI (pI (pI (pI (pI v 200 13 (m.1 200 13)) 200 14 (m.1 200 14)) 200 15 (m.1 200 15)) 200 16 (m.1 200 16)) 200 17 (m.1 200 17)) 200 33 (m.1 200 33) = w
    have W : ∀ x y, (x ≠ 200 ∨ ((y < 13 ∨ 17 < y) ∧ y ≠ 33)) → w.1 x y = v.1 x y := fun x y q => by rw [← hw, pI_of (by omega), pI_of (by omega), pI_of (by omega), pI_of (by omega), pI_of (by omega), pI_of (by omega)]
    have y13 : w.1 200 13 = m.1 200 13 := by rw [← hw, pI_of (by omega), pI_of (by omega), pI_of (by omega), pI_of (by omega), pI_of (by omega), pI_at]
    have y14 : w.1 200 14 = m.1 200 14 := by rw [← hw, pI_of (by omega), pI_of (by omega), pI_of (by omega), pI_of (by omega), pI_at]
    have y15 : w.1 200 15 = m.1 200 15 := by rw [← hw, pI_of (by omega), pI_of (by omega), pI_of (by omega), pI_at]
    have y16 : w.1 200 16 = m.1 200 16 := by rw [← hw, pI_of (by omega), pI_of (by omega), pI_at]
    have y17 : w.1 200 17 = m.1 200 17 := by rw [← hw, pI_of (by omega), pI_at]
    have y33 : w.1 200 33 = m.1 200 33 := by rw [← hw, pI_at]
    have LH := LDH u f3 (pI z 300 13 (v.1 200 8)) (fun x y k1 k2 k3 => by rw [pz x y k3, j2 x y k1 k2]) (by rw [pI_L, j3])
    have LM : LDm m w := by
      have hv := LDM v f4
      refine ⟨fun x y k1 k2 => ?_, by rw [← hw]; exact hv.2⟩
      rw [← hv.1 x y k1 k2]
      have k3 : x ≠ 200 ∨ (¬ PFd y ∧ (y < 13 ∨ 17 < y)) := k2.1
      refine W x y ?_
      rcases k3 with k3 | k3
      · exact Or.inl k3
      · have := npf k3.1
        omega
    have hch := ch_le (B := fun i => m.1 0 i % 256) (e := e) i
    refine ⟨-2 - (ch (fun i => m.1 0 i % 256) e i : Int), pI z 300 13 (v.1 200 8), w, rfl, by rw [W 200 4 (by omega), g4], by omega, ?_, ⟨?_, ?_⟩, ⟨?_, ?_, ?_⟩, LH, LM, ?_, ?_⟩
    · refine hB.mv (fun x y hx q => LH.1 x y (by omega) (by omega) (by omega) (by omega) (by omega) (by omega) q) (fun x y hx q => LM.1 x y (by omega) q) (fun s x hs hx => LH.2 (340 + s) x (by omega) ?_) ⟨by rw [pz 312 2 (by omega)]; exact z312, by rw [pz 313 2 (by omega)]; exact z313, by rw [pz 314 2 (by omega)]; exact z314⟩ ⟨by rw [pz 302 16 (by omega)]; exact z16, by rw [pz 302 18 (by omega)]; exact z18, by rw [pz 302 19 (by omega)]; exact z19⟩ ⟨y13, y14, y15, y16, y17, y33⟩
      have : s = 0 ∨ s = 1 ∨ s = 2 := by omega
      rcases this with rfl | rfl | rfl
      · exact ⟨Or.inr hx, by omega, by omega⟩
      · exact ⟨by omega, Or.inr hx, by omega⟩
      · exact ⟨by omega, by omega, Or.inr hx⟩
    · rw [pz 301 1 (by omega), j2 301 1 (by omega) (by omega), f3.1 301 1 ⟨by omega, by omega, by omega, by omega, by omega, by omega, by omega, by omega, by omega, by omega, by omega⟩, d3 301 (by decide), c2 301 (by decide)]; exact a3
    · rw [W 200 1 (by omega), f4.1 200 1 ⟨Or.inr ⟨by unfold PFd; omega, by omega⟩, by omega, by omega, by omega, by omega, by omega, by omega, by omega, by omega, by omega⟩]; exact b4.2.2
    · rw [pI_at, W 200 8 (by omega)]
    · rw [W 200 8 (by omega)]; omega
    · rw [W 200 8 (by omega)]; omega
    · exact ⟨by rw [pz 312 2 (by omega)]; omega, by rw [pz 313 2 (by omega)]; omega, by rw [pz 314 2 (by omega)]; omega, by rw [pz 302 16 (by omega)]; omega, by rw [pz 302 18 (by omega)]; omega⟩
    · exact ⟨by omega, by omega, by omega, by omega, by omega, by omega⟩
end
