/-! the run: one statement after another -/
def NXs (N o n : Nat) (t0 m0 : St) (K4 K5 : St → Option (Int × St)) (K2 : Int → St → Option (Int × St)) (K3 : St → Option (Int × St)) (t m : St) (k : Nat) : Prop :=
  (∃ (w : Int) (u v : St), (w = 3 ∨ w = 4) ∧ (∀ (q : Nat) (x : Int), 0 ≤ x → x < 900000 → f_X8_goOn_L7 N o o K4 K5 (q + 6) x t = some (w, u)) ∧ (∀ r : Nat, f_X12_goesToStep_L0 N K2 K3 (r + 1) m = some (w, v)) ∧ GHr o t u ∧ CIk u ∧ GMr m v ∧ (0 ≤ u.1 (307 + o) 7 ∧ u.1 (307 + o) 7 ≤ 9000 ∧ 0 ≤ v.1 200 52 ∧ v.1 200 52 ≤ 9000)) ∨
  (∃ (j : Nat) (u v : St) (k' h' a' : Nat), j ≤ 6 ∧ (∀ (q : Nat) (x : Int), 0 ≤ x → x < 900000 → f_X8_goOn_L7 N o o K4 K5 (q + j) x t = f_X8_goOn_L7 N o o K4 K5 q (x + j) u) ∧ (∀ r : Nat, f_X12_goesToStep_L0 N K2 K3 (r + 1) m = f_X12_goesToStep_L0 N K2 K3 r v) ∧ RUNR o n t0 m0 u v k' h' a' ∧ k' + 2 * (2001 - (v.1 200 52).toNat) < k + 2 * (2001 - (m.1 200 52).toNat))
section
variable {N o n : Nat} {t0 m0 t m u v : St} {k h a : Nat} {K4 K5 : St → Option (Int × St)} {K2 : Int → St → Option (Int × St)} {K3 : St → Option (Int × St)}
theorem ct_b {A : Int} (hC : RNc o t m) (hA : 0 ≤ A ∧ A ≤ 6001) : 0 ≤ (CT o t A).1 (307 + o) 7 ∧ (CT o t A).1 (307 + o) 7 ≤ 9000 ∧ 0 ≤ (ACt m A).1 200 52 ∧ (ACt m A).1 200 52 ≤ 9000 := by
  have e7 : (CT o t A).1 (307 + o) 7 = t.1 (307 + o) 7 + A := by unfold CT; rw [pI_nf (by decide), pI_at]
  have e2 : (ACt m A).1 200 52 = m.1 200 52 + A := by unfold ACt; rw [pI_nf (by decide), pI_at]
  have := hC.1
  rw [e7, e2]
  omega
theorem RUNR.ho (hR : RUNR o n t0 m0 t m k h a) : o < 2 := hR.2.1.1
theorem RUNR.th (hR : RUNR o n t0 m0 t m k h a) : t.1 363 = t0.1 363 ∧ t.1 302 = t0.1 302 ∧ t.1 360 = t0.1 360 := by
  have ho := hR.ho
  exact ⟨hR.1.1.1 363 (by omega) (by omega) (by omega), hR.1.1.1 302 (by omega) (by omega) (by omega), hR.1.1.1 360 (by omega) (by omega) (by omega)⟩
theorem GMr.tk (g : GMr m v) : v.1 31 = m.1 31 ∧ v.1 32 = m.1 32 ∧ v.1 29 = m.1 29 ∧ v.1 18 = m.1 18 ∧ v.1 200 14 = m.1 200 14 := ⟨g.1 31 (by decide) (by decide) (by decide) (by decide) (by decide) (by decide) (by decide) (by decide), g.1 32 (by decide) (by decide) (by decide) (by decide) (by decide) (by decide) (by decide) (by decide), g.1 29 (by decide) (by decide) (by decide) (by decide) (by decide) (by decide) (by decide) (by decide), g.1 18 (by decide) (by decide) (by decide) (by decide) (by decide) (by decide) (by decide) (by decide), g.2.1 14 (by decide) (by decide) (by decide) (by decide)⟩
theorem RUNR.cx {M : St} {s : Int64} (hR : RUNR o n t0 m0 t m k h a) (hN : 20000 ≤ N) (hl : t0.1 302 18 ≤ 10098) (hM : bkG M m0) (hs : ∀ e, e < 64 → bq s e = true → e < n) (g1 : GHr o t u) (gC : CIk u) (g2 : GMr m v) : CXr M N o n u v s := by
  have g := (hR.1.2.tr g2).tk
  refine ⟨hN, hR.2.1.rn hR.ho g1 gC g2, hs, ?_, hM.tr ⟨by rw [g.2.2.2.2]; exact Int.le_refl _, fun f _ => by rw [g.2.2.2.1]⟩⟩
  rw [(hR.1.1.tr g1).1 302 (by have := hR.ho; omega) (by omega) (by omega)]; exact hl
/-- what a look needs of both sides -/
abbrev RUNE (o n : Nat) (t0 m0 t m : St) : Prop := (GHr o t0 t ∧ GMr m0 m) ∧ EVr o t m n
theorem rune_cx {M : St} {s : Int64} (hE : RUNE o n t0 m0 t m) (hN : 20000 ≤ N) (hl : t0.1 302 18 ≤ 10098) (hM : bkG M m0) (hs : ∀ e, e < 64 → bq s e = true → e < n) (g1 : GHr o t u) (gC : CIk u) (g2 : GMr m v) : CXr M N o n u v s := by
  have ho := hE.2.1
  have g := (hE.1.2.tr g2).tk
  refine ⟨hN, hE.2.rn ho g1 gC g2, hs, ?_, hM.tr ⟨by rw [g.2.2.2.2]; exact Int.le_refl _, fun f _ => by rw [g.2.2.2.1]⟩⟩
  rw [(hE.1.1.tr g1).1 302 (by omega) (by omega) (by omega)]; exact hl
theorem RUNR.to {k' h' a' : Nat} (hR : RUNR o n t0 m0 t m k h a) (g1 : GHr o t u) (gC : CIk u) (g2 : GMr m v) (hc : RNc o u v) (h4 : u.1 (307 + o) 3 = a' ∧ u.1 (307 + o) 6 = h' ∧ v.1 200 51 = ((k' + 1 : Nat) : Int) ∧ u.2 (307 + o) 4 = v.2 58 k') (hF : RF (XC t0 m0) m0 (t0.1 302 18) n (u.2 (410 + o)) (v.1 55) (v.1 56) (v.1 57) (v.2 58) k' h' a') : RUNR o n t0 m0 u v k' h' a' :=
  ⟨⟨hR.1.1.tr g1, hR.1.2.tr g2⟩, hR.2.1.rn hR.ho g1 gC g2, hc, h4, hF⟩
/-- the model at a statement -/
theorem m_word {c : Nat} {A w : Int} {r : Nat} (h51 : m.1 200 51 = ((k + 1 : Nat) : Int)) (hk : k < 1600) (h55 : m.1 55 k = c) (hc : c < 10100) (hw : m.1 31 c = w) (hw2 : w = 7 ∨ w = 8 ∨ w = 9 ∨ w = 11 ∨ w = 13) (hA : f_X12_actsOf N c m = some (A, m)) (hR : RNc o t m) (hA2 : 0 ≤ A ∧ A ≤ 20000) :
    f_X12_goesToStep_L0 N K2 K3 (r + 1) m = if ovr m A = 0 then (bdV (f_X12_enters_ N c w (ACt m A)) fun t14 => f_X12_goesToStep_L0 N K2 K3 r t14) else some (ovr m A, ACt m A) := by
  have hov := ovr_r (m := m) (x := A)
  have main : (bdI (f_X12_actsOf N (c : Int) m) fun v11 t10 => bdI (f_X12_acted N v11 t10) fun v13 t12 => cmpI v13 0 (if 0 < v13 then (some (v13, t12)) else (bdV (f_X12_enters_ N (c : Int) w t12) fun t14 => f_X12_goesToStep_L0 N K2 K3 r t14))) = if ovr m A = 0 then (bdV (f_X12_enters_ N c w (ACt m A)) fun t14 => f_X12_goesToStep_L0 N K2 K3 r t14) else some (ovr m A, ACt m A) := by
    rw [hA, bdI_s, m_act hR hA2, bdI_s, cmpI_ok (by omega)]
    by_cases h0 : ovr m A = 0
    · rw [if_pos h0, if_neg (by omega)]
    · rw [if_neg h0, if_pos (by omega)]
  conv => lhs; unfold f_X12_goesToStep_L0
  simp only [lt1_k, jn1_k]
  rw [h51, cmpI_ok (by omega), if_pos (by omega), ixI_ok (by omega), show (((k + 1 : Nat) : Int) - 1).toNat = k by omega, h55, ixI_ok (by omega), Int.toNat_natCast, hw, cmpI_ok (by omega), if_neg (by omega), cmpI_ok (by omega), cmpI_ok (by omega), cmpI_ok (by omega), cmpI_ok (by omega), cmpI_ok (by omega)]
  by_cases w7 : w = 7
  · rw [if_pos w7]; exact main
  · rw [if_neg w7]
    by_cases w8 : w = 8
    · rw [if_pos w8]; exact main
    · rw [if_neg w8]
      by_cases w9 : w = 9
      · rw [if_pos w9]; exact main
      · rw [if_neg w9]
        by_cases w11 : w = 11
        · rw [if_pos w11]; exact main
        · rw [if_neg w11, if_pos (by omega)]; exact main
/-- the model at a step -/
theorem m_stp {c : Nat} {r : Nat} (h51 : m.1 200 51 = ((k + 1 : Nat) : Int)) (hk : k < 1600) (h55 : m.1 55 k = c) (hc : c < 10100) (hw : WTk (m.1 31 c)) : f_X12_goesToStep_L0 N K2 K3 (r + 1) m = K2 c m := by
  unfold WTk at hw
  conv => lhs; unfold f_X12_goesToStep_L0
  simp only [lt1_k, jn1_k]
  rw [h51, cmpI_ok (by omega), if_pos (by omega), ixI_ok (by omega), show (((k + 1 : Nat) : Int) - 1).toNat = k by omega, h55, ixI_ok (by omega), Int.toNat_natCast, cmpI_ok (by omega), if_neg (by omega), cmpI_ok (by omega), if_neg (by omega), cmpI_ok (by omega), if_neg (by omega), cmpI_ok (by omega), if_neg (by omega), cmpI_ok (by omega), if_neg (by omega), cmpI_ok (by omega), if_neg (by omega)]
/-- the model at the end of a block -/
theorem m_cls {c : Nat} {w : Int} {r : Nat} (h51 : m.1 200 51 = ((k + 1 : Nat) : Int)) (hk : k < 1600) (h55 : m.1 55 k = c) (hc : c < 10100) (hw : m.1 31 c = 5125) (hcl : f_X12_closes N c m = some (w, v)) (hw2 : w = 0 ∨ w = 3 ∨ w = 4) : f_X12_goesToStep_L0 N K2 K3 (r + 1) m = if w = 0 then f_X12_goesToStep_L0 N K2 K3 r v else some (w, v) := by
  conv => lhs; unfold f_X12_goesToStep_L0
  simp only [lt1_k, jn1_k]
  rw [h51, cmpI_ok (by omega), if_pos (by omega), ixI_ok (by omega), show (((k + 1 : Nat) : Int) - 1).toNat = k by omega, h55, ixI_ok (by omega), Int.toNat_natCast, hw, cmpI_ok (by omega), if_pos rfl, hcl, bdI_s, cmpI_ok (by omega)]
  by_cases h0 : w = 0
  · rw [if_pos h0, if_neg (by omega)]
  · rw [if_neg h0, if_pos (by omega)]
/-- what is left of the top block behind its first statement -/
theorem RF.rest {X : CTE} {L : Int} {S S2 : Nat → Int64} {P Q Z P2 Q2 Z2 : Nat → Int} {W W2 : Nat → Int64} {M : St} {f b c d s q b1 d1 : Nat} (h1 : RFt X m0 L n (P k) (W k) M (f + 1) k a b c d s) (hq : Q k = (q : Int)) (hq2 : q < 6000 ∧ q ≤ d) (hT : RTl X m0 L n S P Q Z W k h M b d s q) (hS : SB M X f b1 b d1 d) (hcd : c ≤ d1) (e1 : ∀ j, j < h → S2 j = S j) (e2 : ∀ j, j < k → P2 j = P j) (e2k : P2 k = (d1 : Int)) (e3 : ∀ j, j ≤ k → Q2 j = Q j) (e4 : ∀ j, j ≤ k → Z2 j = Z j) (e5 : ∀ j, j ≤ k → W2 j = W j) : RF X m0 L n S2 P2 Q2 Z2 W2 k h b1 := by
  obtain ⟨h2, h3, h4, h5, h6, h7, h8, h9⟩ := h1
  have hl := SB.le _ _ _ _ _ hS
  exact ⟨M, f, b, d1, d, s, q, ⟨e2k, hS, h4, h5, h6, by omega, h8, by rw [e5 k (Nat.le_refl k)]; exact h9⟩, by rw [e3 k (Nat.le_refl k)]; exact hq, hq2, hT.cg k e1 e2 (fun j hj => e3 j (by omega)) e4 e5⟩
/-- do -/
theorem nx_do {M : St} {f b c d s q p : Nat} (hN : 20000 ≤ N) (hB : BK0 t0 m0) (hR : RUNR o n t0 m0 t m k h a) (h1 : RFt (XC t0 m0) m0 (t0.1 302 18) n (m.1 55 k) (m.2 58 k) M (f + 1) k a b c d s) (hq : m.1 56 k = (q : Int)) (hq2 : q < 6000 ∧ q ≤ d) (hT : RTl (XC t0 m0) m0 (t0.1 302 18) n (t.2 (410 + o)) (m.1 55) (m.1 56) (m.1 57) (m.2 58) k h M b d s q) (hS : SB M (XC t0 m0) f (a + 1) b (c + 3) d)
    (k1 : (p : Int) < M.1 200 16) (k2 : t0.1 363 a = (p : Int) * 64 + 19) (k3 : m0.1 31 c = 7) (k4 : m0.1 31 (c + 1) = 4000 + (p : Int)) (k5 : m0.1 31 (c + 2) = 5059) : NXs N o n t0 m0 K4 K5 K2 K3 t m k := by
  have ho := hR.ho
  have hth := hR.th
  have htk := hR.1.2.tk
  obtain ⟨r1, r2, r3, r4, r5, r6, ⟨r7, r8, p0, r9, r10, r11⟩, r12⟩ := h1
  have hBn := hB.2.1
  obtain ⟨⟨a0, c0, n1, n2, n3, n4, n4'⟩, _, n9, _⟩ := hBn
  have hab := SB.le _ _ _ _ _ hS
  have hhk := RTl.hk k hT
  have hC := hR.2.2.1
  obtain ⟨q3, q6, q51, qw⟩ := hR.2.2.2.1
  have hp60 : p < 60 := by omega
  obtain ⟨M', f', a', b', c', d', ⟨t1, t2, t3⟩, ⟨t4, t5⟩, ⟨t6, t7, t8⟩, t9, t10, t11⟩ := hB.2.2.2.2.1 p (by omega)
  have t71 := t7.1
  have hord := hB.2.2.2.2.2.2 p p0 (by omega) r10
  rw [t10, Int.toNat_natCast, r11, show m0.1 32 c' = (d' : Int) from t7.2.2.2] at hord
  have hA : f_X8_actsOf N o 19 (p : Int) t = some (1, t) := by unfold f_X8_actsOf; rw [rnI_ok (by omega), if_pos rfl]
  have hAm : f_X12_actsOf N c m = some (1, m) := by
    unfold f_X12_actsOf
    rw [ixI_ok (by omega), lt1_k, Int.toNat_natCast, htk.1, k3, cmpI_ok (by omega), if_pos rfl]
  have hwd := fun (q : Nat) (x : Int) (hx : 0 ≤ x ∧ x < 1000000) => g_word (N := N) (K4 := K4) (K5 := K5) (q := q) hC q3 (by rw [hth.2.1]; omega) (by rw [hth.2.1]; omega) (by rw [hth.1]; exact k2) (by omega) (by omega) hx (Or.inl (by decide)) hA (by omega)
  have hmd := fun r => m_word (N := N) (K2 := K2) (K3 := K3) (r := r) q51 (by omega) r1 (by omega) (show m.1 31 c = 7 by rw [htk.1]; exact k3) (by omega) hAm hC (by omega)
  by_cases h0 : ovr m 1 = 0
  · right
    -- the hall
    generalize hu : pI (pI (pL (CT o t 1) (410 + o) h (Int64.ofInt ((a : Int) + 1))) (307 + o) 6 ((h + 1 : Nat) : Int)) (307 + o) 3 (a' : Int) = u
    have hob : f_X8_obey N o 19 (p : Int) (CT o t 1) = some u := by
      unfold f_X8_obey
      rw [rnI_ok (by omega), if_pos rfl, lt1_k, CT_f (by decide) (by decide), q3, rnI_ok (by omega), h_push (h := h) (by rw [CT_f (by decide) (by decide)]; exact q6) (by omega), bdV_s, ixI_ok (by omega), lt1_k, Int.toNat_natCast, pI_ne (by omega), pL_I, CT_n (by omega), hth.2.2, t9, lt1_k, hu]
    have gs : HSr o (CT o t 1) u (a' : Int) ((h + 1 : Nat) : Int) := by rw [← hu]; exact ((HSr.rf.l (Or.inl rfl)).p6).p3
    have g1 : GHr o t u := (GHr.CT ho).tr (gs.gh ho)
    have gC : CIk u := gs.ci ho (hR.2.1.2.2.2.2.2.1.CT ho)
    -- the model
    generalize hv : ENf (pI (pI (ACt m 1) 200 114 ((c : Int) + 1)) 55 k ((c : Int) + 3)) (k + 1) ((c' : Int) + 1) (c' : Int) 0 (m.2 58 k) = v
    have hen : f_X12_enters_ N c 7 (ACt m 1) = some v := by
      unfold f_X12_enters_
      simp only [lt1_k]
      have e51 : (ACt m 1).1 200 51 = ((k + 1 : Nat) : Int) := by rw [ACt_f (by decide) (by decide)]; exact q51
      have e51b : (pI (ACt m 1) 200 114 ((c : Int) + 1)).1 200 51 = ((k + 1 : Nat) : Int) := by rw [pI_nf (by decide)]; exact e51
      have e31 : (pI (pI (ACt m 1) 200 114 ((c : Int) + 1)) 55 k ((c : Int) + 3)).1 31 = m0.1 31 := by rw [pI_ne (by decide), pI_ne (by decide), ACt_n (by decide)]; exact htk.1
      have e29 : (pI (pI (ACt m 1) 200 114 ((c : Int) + 1)) 55 k ((c : Int) + 3)).1 29 = m0.1 29 := by rw [pI_ne (by decide), pI_ne (by decide), ACt_n (by decide)]; exact htk.2.2.1
      rw [e51, e51b, ixI_ok (by omega), show (((k + 1 : Nat) : Int) - 1).toNat = k by omega, ACt_L, cmpI_ok (by omega), if_pos trivial, ixI_ok (by omega), e31, e29, show ((c : Int) + 1).toNat = c + 1 by omega, k4, ixI_ok (by omega), show (4000 + (p : Int) - 4000) = (p : Int) by omega, ixI_ok (by omega), Int.toNat_natCast, ixI_ok (by omega), t10, m_enters (k := k + 1) (by rw [pI_ne (by decide), pI_nf (by decide)]; exact e51) (by omega), bdV_s, hv]
    have g2 : GMr m v := by rw [← hv]; exact ((GMr.ACt.tr (GMr.F (by omega))).tr (GMr.I (by omega))).tr GMr.ENf
    have v55 : ∀ j, j < k → v.1 55 j = m.1 55 j := fun j hj => by
      rw [← hv]; unfold ENf
      rw [pI_ne (by decide), pL_I, pI_ne (by decide), pI_ne (by decide), pI_nf (by omega), pI_nf (by omega), pI_ne (by decide), ACt_n (by decide)]
    have v55k : v.1 55 k = ((c + 3 : Nat) : Int) := by
      rw [← hv]; unfold ENf
      rw [pI_ne (by decide), pL_I, pI_ne (by decide), pI_ne (by decide), pI_nf (by omega), pI_at]; omega
    have v55n : v.1 55 (k + 1) = ((c' + 1 : Nat) : Int) := by
      rw [← hv]; unfold ENf
      rw [pI_ne (by decide), pL_I, pI_ne (by decide), pI_ne (by decide), pI_at]; omega
    have v56 : ∀ j, j ≤ k → v.1 56 j = m.1 56 j := fun j hj => by
      rw [← hv]; unfold ENf
      rw [pI_ne (by decide), pL_I, pI_ne (by decide), pI_nf (by omega), pI_ne (by decide), pI_ne (by decide), pI_ne (by decide), ACt_n (by decide)]
    have v56n : v.1 56 (k + 1) = (c' : Int) := by
      rw [← hv]; unfold ENf
      rw [pI_ne (by decide), pL_I, pI_ne (by decide), pI_at]
    have v57 : ∀ j, j ≤ k → v.1 57 j = m.1 57 j := fun j hj => by
      rw [← hv]; unfold ENf
      rw [pI_ne (by decide), pL_I, pI_nf (by omega), pI_ne (by decide), pI_ne (by decide), pI_ne (by decide), pI_ne (by decide), ACt_n (by decide)]
    have v58 : ∀ j, j ≤ k → v.2 58 j = m.2 58 j := fun j hj => by
      rw [← hv]; unfold ENf
      rw [pI_L, pL_nf (by omega)]; rfl
    have v58n : v.2 58 (k + 1) = m.2 58 k := by
      rw [← hv]; unfold ENf
      rw [pI_L, pL_at]
    have v51 : v.1 200 51 = ((k + 1 + 1 : Nat) : Int) := by rw [← hv]; unfold ENf; rw [pI_at]
    have v52 : v.1 200 52 = m.1 200 52 + 1 ∧ v.1 200 53 = m.1 200 53 + 1 ∧ v.1 200 54 = m.1 200 54 := by
      rw [← hv]; unfold ENf ACt
      refine ⟨?_, ?_, ?_⟩
      · rw [pI_nf (by decide), pL_I, pI_ne (by decide), pI_ne (by decide), pI_ne (by decide), pI_ne (by decide), pI_nf (by decide), pI_nf (by decide), pI_at]
      · rw [pI_nf (by decide), pL_I, pI_ne (by decide), pI_ne (by decide), pI_ne (by decide), pI_ne (by decide), pI_nf (by decide), pI_at]
      · rw [pI_nf (by decide), pL_I, pI_ne (by decide), pI_ne (by decide), pI_ne (by decide), pI_ne (by decide), pI_nf (by decide), pI_nf (by decide), pI_nf (by decide)]
    have hcv : RNc o u v := by
      have hcc := gs.rc (hC.cv (by omega) h0)
      have f2 : (ACt m 1).1 200 52 = m.1 200 52 + 1 := by unfold ACt; rw [pI_nf (by decide), pI_at]
      have f3 : (ACt m 1).1 200 53 = m.1 200 53 + 1 := by unfold ACt; rw [pI_at]
      have f4 : (ACt m 1).1 200 54 = m.1 200 54 := by unfold ACt; rw [pI_nf (by decide), pI_nf (by decide)]
      unfold RNc at hcc ⊢
      rw [f2, f3, f4] at hcc
      rw [v52.1, v52.2.1, v52.2.2]
      exact hcc
    have uS : ∀ j, j < h → u.2 (410 + o) j = t.2 (410 + o) j := fun j hj => by rw [← hu, pI_L, pI_L, pL_nf (by omega)]; rfl
    have uSh : u.2 (410 + o) h = Int64.ofInt ((a + 1 : Nat) : Int) := by rw [← hu, pI_L, pI_L, pL_at]; rfl
    have uw : u.2 (307 + o) 4 = v.2 58 (k + 1) := by
      rw [v58n, ← qw, ← hu, pI_L, pI_L, pL_ne (by omega)]; rfl
    have hRF : RF (XC t0 m0) m0 (t0.1 302 18) n (u.2 (410 + o)) (v.1 55) (v.1 56) (v.1 57) (v.2 58) k h (a + 1) := RF.rest (m0 := m0) ⟨r1, r2, r3, r4, r5, r6, ⟨r7, r8, p0, r9, r10, r11⟩, r12⟩ hq hq2 hT hS (by omega) uS v55 v55k v56 v57 v58
    refine ⟨1, u, v, k + 1, h + 1, a', by omega, fun q x z1 z2 => ?_, fun r => ?_, ?_, ?_⟩
    · rw [hwd q x (by omega), if_pos h0, if_neg (by decide), hob, bdV_s]; rfl
    · rw [hmd r, if_pos h0, hen, bdV_s]
    · refine hR.to g1 gC g2 hcv ⟨gs.1, gs.2.1, v51, uw⟩ ?_
      refine ⟨M', f', b', c' + 1, d', c' - 2, c', ⟨v55n, t6, t7.2.2.1, t4, by omega, by omega, ⟨t1, t2, p, t3, by omega, by rw [t10]; omega⟩, by rw [v58n]; exact r12⟩, v56n, by omega, ?_⟩
      rw [RTl_s]
      exact Or.inl ⟨t7.2.1, t8, h, a + 1, rfl, uSh, by omega, by rw [v58n, v58 k (Nat.le_refl k)], hRF⟩
    · rw [v52.1]
      have hc1 := hcv.1
      have hc0 := hC.1
      rw [v52.1] at hc1
      omega
  · left
    have hov := ovr_r (m := m) (x := 1)
    refine ⟨ovr m 1, CT o t 1, ACt m 1, by omega, fun q x z1 z2 => ?_, fun r => ?_, GHr.CT ho, hR.2.1.2.2.2.2.2.1.CT ho, GMr.ACt, ct_b hC (by omega)⟩
    · rw [hwd (q + 5) x (by omega), if_neg h0]
    · rw [hmd r, if_neg h0]
end
