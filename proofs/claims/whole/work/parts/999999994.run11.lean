/-! goOn against goesToStep -/
/-- the run between two steps -/
def RUNP (o n : Nat) (t m : St) (k h a : Nat) : Prop := (t.1 (307 + o) 3 = a ∧ t.1 (307 + o) 6 = h ∧ m.1 200 51 = ((k + 1 : Nat) : Int) ∧ t.2 (307 + o) 4 = m.2 58 k) ∧ RF (XC t m) m (t.1 302 18) n (t.2 (410 + o)) (m.1 55) (m.1 56) (m.1 57) (m.2 58) k h a
/-- its limits; R: how much both have counted at most -/
def RLm (o : Nat) (R : Int) (t m : St) : Prop := m.1 200 52 = 0 ∧ (0 ≤ t.1 (307 + o) 9 ∧ t.1 (307 + o) 9 ≤ R ∧ 0 ≤ m.1 200 53 ∧ m.1 200 53 ≤ R) ∧ ((o = 0 ∧ t.1 (307 + o) 8 = 0 ∧ m.1 200 54 = 0) ∨ (t.1 (307 + o) 8 = 1 ∧ m.1 200 54 = 1 ∧ t.1 (307 + o) 9 = m.1 200 53 ∧ m.1 200 53 ≤ 20000))
section
variable {N o n : Nat} {t m : St} {k h a : Nat}
theorem m_scan {K : Int → St → Option (Int × St)} : ∀ (j c q : Nat), j < q → c + j < 10100 → (∀ x, c ≤ x → x < c + j → m.1 31 x ≠ 5059 ∧ inR (m.1 31 x)) → m.1 31 (c + j) = 5059 → f_X12_goesToStep_L85 K q c m = K ((c + j : Nat) : Int) m := by
  intro j
  induction j with
  | zero =>
    intro c q h1 h2 h3 h4
    obtain ⟨q, rfl⟩ : ∃ q', q = q' + 1 := ⟨q - 1, by omega⟩
    conv => lhs; unfold f_X12_goesToStep_L85
    rw [ixI_ok (by omega), lt1_k, Int.toNat_natCast, show m.1 31 c = 5059 from h4, cmpI_ok (by omega), if_pos rfl]
    rfl
  | succ j ih =>
    intro c q h1 h2 h3 h4
    obtain ⟨q, rfl⟩ : ∃ q', q = q' + 1 := ⟨q - 1, by omega⟩
    have h5 := h3 c (by omega) (by omega)
    conv => lhs; unfold f_X12_goesToStep_L85
    rw [ixI_ok (by omega), lt1_k, Int.toNat_natCast, cmpI_ok ⟨h5.2, by omega⟩, if_neg h5.1, show (c : Int) + 1 = ((c + 1 : Nat) : Int) by omega, ih (c + 1) q (by omega) (by omega) (fun x z1 z2 => h3 x (by omega) (by omega)) (by rw [show c + 1 + j = c + (j + 1) by omega]; exact h4), show c + 1 + j = c + (j + 1) by omega]
theorem STp.ns {M : St} {cd tk : Nat → Int} {a b c d : Nat} (h : STp M cd tk a b c d) (hM : M.1 200 15 ≤ 100) : ∀ x, c ≤ x → x < d → tk x ≠ 5059 ∧ inR (tk x) := by
  obtain ⟨H, p, h1, h2, e, h3, h4, h5⟩ := h
  exact h4.ns hM
theorem go_both (hN : 100000 ≤ N) (hB : BK0 t m) (hE : EVr o t m n) (hP : RUNP o n t m k h a) {R : Int} (hL : RLm o R t m) (hR : R ≤ 1100000000) :
    ∃ u v : St, GHs o t u ∧ CIk u ∧ GMs m v ∧ (0 ≤ u.1 (307 + o) 9 ∧ u.1 (307 + o) 9 ≤ R + 9000 ∧ 0 ≤ v.1 200 53 ∧ v.1 200 53 ≤ R + 9000) ∧ ((f_X8_goOn N o o t = some (0, u) ∧ f_X12_goesToStep N m = some (0, v) ∧ RNc o u v) ∨ (∃ w : Int, (w = 3 ∨ w = 4) ∧ f_X8_goOn N o o t = some (w, u) ∧ f_X12_goesToStep N m = some (w, v)) ∨
      (∃ (M : St) (k' h' a' b1 c d1 : Nat), f_X8_goOn N o o t = (bdI (f_X8_dance N o o u) fun v29 t28 => some (v29, t28)) ∧ f_X12_goesToStep N m = some (1, v) ∧ (bkG M m ∧ M.1 200 15 ≤ m.1 200 15 ∧ ∀ e, e < 64 → bq (v.2 58 k') e = true → e < n) ∧ (STp M (t.1 363) (m.1 31) a' b1 c d1 ∧ m.1 31 d1 = 5059 ∧ (b1 : Int) ≤ t.1 302 18 ∧ d1 < 6000) ∧ (v.1 200 115 = c ∧ u.1 (307 + o) 3 = a' ∧ u.1 (307 + o) 6 = h' ∧ v.1 200 51 = ((k' + 1 : Nat) : Int) ∧ u.2 (307 + o) 4 = v.2 58 k' ∧ k' < 1500) ∧ RLm o (R + 2000) u v ∧ EVr o u v n ∧ RF (XC t m) m (t.1 302 18) n (u.2 (410 + o)) (v.1 55) (v.1 56) (v.1 57) (v.2 58) k' h' b1)) := by
  have ho := hE.1
  obtain ⟨⟨p1, p2, p3, p4⟩, hF⟩ := hP
  obtain ⟨l1, ⟨l2, l3, l4, l5⟩, l6⟩ := hL
  have hCI := hE.2.2.2.2.2.1
  generalize ht1 : pI t (307 + o) 7 0 = t1
  have t1o : ∀ x, x ≠ 307 + o → t1.1 x = t.1 x := fun x hx => by rw [← ht1, pI_ne hx]
  have t1y : ∀ y, y ≠ 7 → t1.1 (307 + o) y = t.1 (307 + o) y := fun y hy => by rw [← ht1, pI_nf hy]
  have t17 : t1.1 (307 + o) 7 = 0 := by rw [← ht1, pI_at]
  have t1L : t1.2 = t.2 := by rw [← ht1]; rfl
  have hCI1 : CIk t1 := hCI.rn (fun x h1 h2 => t1o x (by omega)) (by rw [t1L])
  have gs1 : GHs o t t1 := ⟨fun x h1 _ _ => t1o x h1, fun y _ _ h3 _ => t1y y h3, fun b _ _ _ => by rw [t1o 311 (by omega)], fun x _ _ _ _ _ => by rw [t1L]⟩
  have gm0 : GMs m m := GMr.rf.s
  have hE1 : EVr o t1 m n := hE.rs ho gs1 hCI1 gm0
  have hX1 : XC t1 m = XC t m := by
    show (t1.1 363, m.1 31, m.1 32) = (t.1 363, m.1 31, m.1 32)
    rw [t1o 363 (by omega)]
  have hB1 : BK0 t1 m := hB.mv (fun x y hx _ => by rw [t1o x (by omega)]) (fun _ _ _ _ => rfl) (fun s x hs _ => by rw [t1L]) ⟨by rw [t1o 312 (by omega)], by rw [t1o 313 (by omega)], by rw [t1o 314 (by omega)]⟩ ⟨by rw [t1o 302 (by omega)], by rw [t1o 302 (by omega)], by rw [t1o 302 (by omega)]⟩ ⟨rfl, rfl, rfl, rfl, rfl, rfl⟩
  have hc1 : RNc o t1 m := by
    unfold RNc
    rw [t17, t1y 9 (by decide), t1y 8 (by decide)]
    exact ⟨⟨by omega, by omega, by omega⟩, ⟨by omega, by omega, by omega, by omega⟩, l6⟩
  have hR1 : RUNR o n t1 m t1 m k h a := by
    refine ⟨⟨GHr.rf, GMr.rf⟩, hE1, hc1, ⟨by rw [t1y 3 (by decide)]; exact p1, by rw [t1y 6 (by decide)]; exact p2, p3, by rw [t1L]; exact p4⟩, ?_⟩
    rw [hX1, t1L, t1o 302 (by omega)]
    exact hF
  have hkk : k < 1500 := by
    obtain ⟨M, f, b, c, d, s, q, hf, _⟩ := hF
    have := hf.2.2.2.2.2.1
    omega
  obtain ⟨u, v, g1, gC, g2, gb, h9⟩ := run_lp (N := N) (K4 := fun (t27 : St) => bdI (f_X8_dance N o o t27) fun v29 t28 => some (v29, t28)) (K5 := fun (t30 : St) => some (3, t30)) (K2 := fun (k17 : Int) (t18 : St) => f_X12_goesToStep_L85 (fun (k25 : Int) (t26 : St) => ixI (t26.1 200 51 - 1) 1600 (some (1, pI t26 55 (t26.1 200 51 - 1).toNat (k25 + 1)))) N k17 (pI (pI t18 200 115 k17) 200 52 0)) (K3 := fun (t29 : St) => some (0, t29)) (by omega) hB1 5501 k h a N N 0 t1 m (by omega) (by omega) (by omega) (by omega) (by omega) hR1
  have eH : f_X8_goOn N o o t = f_X8_goOn_L7 N o o (fun (t27 : St) => bdI (f_X8_dance N o o t27) fun v29 t28 => some (v29, t28)) (fun (t30 : St) => some (3, t30)) N 0 t1 := by
    unfold f_X8_goOn
    rw [lt1_k, ht1]
  have eM : f_X12_goesToStep N m = f_X12_goesToStep_L0 N (fun (k17 : Int) (t18 : St) => f_X12_goesToStep_L85 (fun (k25 : Int) (t26 : St) => ixI (t26.1 200 51 - 1) 1600 (some (1, pI t26 55 (t26.1 200 51 - 1).toNat (k25 + 1)))) N k17 (pI (pI t18 200 115 k17) 200 52 0)) (fun (t29 : St) => some (0, t29)) N m := by
    unfold f_X12_goesToStep
    rfl
  have gU := gs1.tr g1.s
  have d7 := g1.2.1.2
  have d5 := g2.2.2.2
  rw [t17, t1y 9 (by decide)] at d7
  have hbd : 0 ≤ u.1 (307 + o) 9 ∧ u.1 (307 + o) 9 ≤ R + 9000 ∧ 0 ≤ v.1 200 53 ∧ v.1 200 53 ≤ R + 9000 := by omega
  rcases h9 with ⟨e1, e2, e3⟩ | ⟨w, w1, e1, e2⟩ | ⟨k', h', a', c, e1, e2, hR2, hSt⟩
  · exact ⟨u, v, gU, gC, g2.s, hbd, Or.inl ⟨by rw [eH, e1], by rw [eM, e2], e3⟩⟩
  · exact ⟨u, v, gU, gC, g2.s, hbd, Or.inr (Or.inl ⟨w, w1, by rw [eH, e1], by rw [eM, e2]⟩)⟩
  · obtain ⟨M, f, b, d, s, q, b1, d1, s1, s2, s3, s4, ⟨s5, s6, s7, s8⟩, s9⟩ := hSt
    have s1' := s1
    obtain ⟨r1, r2, r3, r4, r5, r6, ⟨r7, r8, r9⟩, r12⟩ := s1
    obtain ⟨q3, q6, q51, qw⟩ := hR2.2.2.2.1
    have hBn := hB.2.1.2.2.1
    have hle := SB.le _ _ _ _ _ s9
    have hst := s5.lt
    have htk := g2.tk
    generalize hv2 : pI (pI v 200 115 (c : Int)) 200 52 0 = v2
    have v2o : ∀ x, x ≠ 200 → v2.1 x = v.1 x := fun x hx => by rw [← hv2, pI_ne hx, pI_ne hx]
    have v2y : ∀ y, y ≠ 115 → y ≠ 52 → v2.1 200 y = v.1 200 y := fun y z1 z2 => by rw [← hv2, pI_nf z2, pI_nf z1]
    have v2L : v2.2 = v.2 := by rw [← hv2]; rfl
    have hns := s5.ns (by omega)
    have hsc := m_scan (m := v2) (K := fun (k25 : Int) (t26 : St) => ixI (t26.1 200 51 - 1) 1600 (some (1, pI t26 55 (t26.1 200 51 - 1).toNat (k25 + 1)))) (d1 - c) c N (by omega) (by omega) (fun x z1 z2 => by rw [v2o 31 (by decide), htk.1]; exact hns x z1 (by omega)) (by rw [show c + (d1 - c) = d1 by omega, v2o 31 (by decide), htk.1]; exact s8)
    rw [show c + (d1 - c) = d1 by omega] at hsc
    have e51 : v2.1 200 51 = ((k' + 1 : Nat) : Int) := by rw [v2y 51 (by decide) (by decide)]; exact q51
    rw [e51, ixI_ok (by omega), show (((k' + 1 : Nat) : Int) - 1).toNat = k' by omega] at hsc
    generalize hv3 : pI v2 55 k' ((d1 : Int) + 1) = v3 at hsc
    have v3o : ∀ x, x ≠ 55 → v3.1 x = v2.1 x := fun x hx => by rw [← hv3, pI_ne hx]
    have v3L : v3.2 = v.2 := by rw [← hv3]; exact v2L
    have gV : GMs m v3 := by
      refine g2.s.tr ⟨fun x _ _ _ _ h5 h6 _ _ => by rw [v3o x h6, v2o x h5], fun b z1 _ _ _ z5 => by rw [v3o 200 (by decide), v2y b z5 (by omega)], fun x _ => by rw [v3L]⟩
    have hRN := hR2.2.2.1
    obtain ⟨⟨c1, c2, c3⟩, c4, c5⟩ := hRN
    have w52 : v3.1 200 52 = 0 := by rw [v3o 200 (by decide), ← hv2, pI_at]
    have w53 : v3.1 200 53 = v.1 200 53 := by rw [v3o 200 (by decide), v2y 53 (by decide) (by decide)]
    have w54 : v3.1 200 54 = v.1 200 54 := by rw [v3o 200 (by decide), v2y 54 (by decide) (by decide)]
    have uw : u.2 (307 + o) 4 = v3.2 58 k' := by rw [v3L]; exact qw
    refine ⟨u, v3, gU, gC, gV, by rw [w53]; exact hbd, Or.inr (Or.inr ⟨M, k', h', a', b1, c, d1, by rw [eH, e1], by rw [eM, e2]; show f_X12_goesToStep_L85 _ N (c : Int) (pI (pI v 200 115 (c : Int)) 200 52 0) = _; rw [hv2, hsc], ⟨r7, r8, by rw [v3L]; exact r12⟩, ⟨by rw [t1o 363 (by omega)] at s5; exact s5, s8, ?_, by omega⟩, ⟨?_, q3, q6, by rw [v3o 200 (by decide)]; exact e51, uw, by omega⟩, ?_, ?_, ?_⟩)⟩
    · rw [t1o 302 (by omega)] at r4; omega
    · rw [v3o 200 (by decide), ← hv2, pI_nf (by decide), pI_at]
    · unfold RLm
      rw [w52, w53, w54]
      refine ⟨rfl, ⟨by omega, by omega, by omega, by omega⟩, ?_⟩
      exact c5
    · exact hE.rs ho gU gC gV
    · have hRF := RF.rest (m0 := m) (S2 := u.2 (410 + o)) (P2 := v3.1 55) (Q2 := v3.1 56) (Z2 := v3.1 57) (W2 := v3.2 58) s1' s2 s3 s4 s9 (by omega) (fun j _ => rfl) (fun j hj => by rw [← hv3, pI_nf (by omega), v2o 55 (by decide)]) (by rw [← hv3, pI_at]; omega) (fun j _ => by rw [v3o 56 (by decide), v2o 56 (by decide)]) (fun j _ => by rw [v3o 57 (by decide), v2o 57 (by decide)]) (fun j _ => by rw [v3L])
      rw [hX1, t1o 302 (by omega)] at hRF
      exact hRF
end
