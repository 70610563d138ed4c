/-! the run: repeat, until -/
section
variable {N o n : Nat} {t0 m0 t m u v w : St} {k h a : Nat} {K4 K5 : St → Option (Int × St)} {K2 : Int → St → Option (Int × St)} {K3 : St → Option (Int × St)}
/-- the model has entered a block -/
def ENV (m v : St) (k : Nat) (A d1 cN qN zN : Int) (sN : Int64) : Prop := (GMr m v ∧ v.1 200 51 = ((k + 1 + 1 : Nat) : Int) ∧ (v.1 200 52 = m.1 200 52 + A ∧ v.1 200 53 = m.1 200 53 + A ∧ v.1 200 54 = m.1 200 54)) ∧ ((∀ j, j < k → v.1 55 j = m.1 55 j) ∧ v.1 55 k = d1 ∧ v.1 55 (k + 1) = cN) ∧ ((∀ j, j ≤ k → v.1 56 j = m.1 56 j) ∧ v.1 56 (k + 1) = qN) ∧ ((∀ j, j ≤ k → v.1 57 j = m.1 57 j) ∧ v.1 57 (k + 1) = zN) ∧ ((∀ j, j ≤ k → v.2 58 j = m.2 58 j) ∧ v.2 58 (k + 1) = sN)
/-- the model has counted and looked, no more -/
def LKv (m w : St) (A : Int) : Prop := GMr m w ∧ (w.1 200 52 = m.1 200 52 + A ∧ w.1 200 53 = m.1 200 53 + A ∧ w.1 200 54 = m.1 200 54 ∧ w.1 200 51 = m.1 200 51) ∧ (w.1 55 = m.1 55 ∧ w.1 56 = m.1 56 ∧ w.1 57 = m.1 57 ∧ w.2 58 = m.2 58)
theorem LKv.ac {A : Int} : LKv m (ACt m A) A := by
  refine ⟨GMr.ACt, ⟨?_, ?_, ?_, ?_⟩, ACt_n (by decide), ACt_n (by decide), ACt_n (by decide), rfl⟩
  · unfold ACt; rw [pI_nf (by decide), pI_at]
  · unfold ACt; rw [pI_at]
  · exact ACt_f (by decide) (by decide)
  · exact ACt_f (by decide) (by decide)
theorem LKv.p {A x : Int} (g : LKv m w A) : LKv m (pI w 200 114 x) A := by
  obtain ⟨g1, ⟨g2, g3, g4, g5⟩, g6, g7, g8, g9⟩ := g
  exact ⟨g1.tr (GMr.F (by omega)), ⟨by rw [pI_nf (by decide)]; exact g2, by rw [pI_nf (by decide)]; exact g3, by rw [pI_nf (by decide)]; exact g4, by rw [pI_nf (by decide)]; exact g5⟩, by rw [pI_ne (by decide)]; exact g6, by rw [pI_ne (by decide)]; exact g7, by rw [pI_ne (by decide)]; exact g8, g9⟩
theorem LKv.f {A : Int} {z : St} (g : LKv m w A) (e : mf4 w z) : LKv m z A := by
  obtain ⟨g1, ⟨g2, g3, g4, g5⟩, g6, g7, g8, g9⟩ := g
  have f : ∀ b, (b < 82 → z.1 200 b = w.1 200 b) := fun b hb => e.2.1 b (by omega) (by omega) (by omega) (by omega) (by omega) (by omega)
  exact ⟨g1.tr (GMr.f e), ⟨by rw [f 52 (by decide)]; exact g2, by rw [f 53 (by decide)]; exact g3, by rw [f 54 (by decide)]; exact g4, by rw [f 51 (by decide)]; exact g5⟩, by rw [e.1 55 (by decide) (by decide) (by decide) (by decide) (by decide)]; exact g6, by rw [e.1 56 (by decide) (by decide) (by decide) (by decide) (by decide)]; exact g7, by rw [e.1 57 (by decide) (by decide) (by decide) (by decide) (by decide)]; exact g8, by rw [e.2.2]; exact g9⟩
theorem ENV.of {A d1 cN qN zN : Int} {sN : Int64} (g : LKv m w A) : ENV m (ENf (pI w 55 k d1) (k + 1) cN qN zN sN) k A d1 cN qN zN sN := by
  obtain ⟨g1, ⟨g2, g3, g4, g5⟩, g6, g7, g8, g9⟩ := g
  refine ⟨⟨(g1.tr (GMr.I (by omega))).tr GMr.ENf, ?_, ?_, ?_, ?_⟩, ⟨fun j hj => ?_, ?_, ?_⟩, ⟨fun j hj => ?_, ?_⟩, ⟨fun j hj => ?_, ?_⟩, ⟨fun j hj => ?_, ?_⟩⟩
  · unfold ENf; rw [pI_at]
  · unfold ENf; rw [pI_nf (by decide), pL_I, pI_ne (by decide), pI_ne (by decide), pI_ne (by decide), pI_ne (by decide)]; exact g2
  · unfold ENf; rw [pI_nf (by decide), pL_I, pI_ne (by decide), pI_ne (by decide), pI_ne (by decide), pI_ne (by decide)]; exact g3
  · unfold ENf; rw [pI_nf (by decide), pL_I, pI_ne (by decide), pI_ne (by decide), pI_ne (by decide), pI_ne (by decide)]; exact g4
  · unfold ENf; rw [pI_ne (by decide), pL_I, pI_ne (by decide), pI_ne (by decide), pI_nf (by omega), pI_nf (by omega), g6]
  · unfold ENf; rw [pI_ne (by decide), pL_I, pI_ne (by decide), pI_ne (by decide), pI_nf (by omega), pI_at]
  · unfold ENf; rw [pI_ne (by decide), pL_I, pI_ne (by decide), pI_ne (by decide), pI_at]
  · unfold ENf; rw [pI_ne (by decide), pL_I, pI_ne (by decide), pI_nf (by omega), pI_ne (by decide), pI_ne (by decide), g7]
  · unfold ENf; rw [pI_ne (by decide), pL_I, pI_ne (by decide), pI_at]
  · unfold ENf; rw [pI_ne (by decide), pL_I, pI_nf (by omega), pI_ne (by decide), pI_ne (by decide), pI_ne (by decide), g8]
  · unfold ENf; rw [pI_ne (by decide), pL_I, pI_at]
  · unfold ENf; rw [pI_L, pL_nf (by omega)]; show w.2 58 j = _; rw [g9]
  · unfold ENf; rw [pI_L, pL_at]
theorem RNc.uv {A : Int} (h0 : RNc o (CT o t A) (ACt m A)) (hu : ∀ y, y = 7 ∨ y = 8 ∨ y = 9 → u.1 (307 + o) y = (CT o t A).1 (307 + o) y) (hv : v.1 200 52 = m.1 200 52 + A ∧ v.1 200 53 = m.1 200 53 + A ∧ v.1 200 54 = m.1 200 54) : RNc o u v := by
  have f2 : (ACt m A).1 200 52 = m.1 200 52 + A := by unfold ACt; rw [pI_nf (by decide), pI_at]
  have f3 : (ACt m A).1 200 53 = m.1 200 53 + A := by unfold ACt; rw [pI_at]
  have f4 : (ACt m A).1 200 54 = m.1 200 54 := by unfold ACt; rw [pI_nf (by decide), pI_nf (by decide)]
  unfold RNc at h0 ⊢
  rw [f2, f3, f4] at h0
  rw [hv.1, hv.2.1, hv.2.2, hu 7 (by omega), hu 8 (by omega), hu 9 (by omega)]
  exact h0
/-- the measure goes down when a block is entered -/
theorem ms_dn {A : Int} {k2 : Nat} (hc : RNc o u v) (hc0 : RNc o t m) (hA : 1 ≤ A) (hv : v.1 200 52 = m.1 200 52 + A) (hk : k2 ≤ k + 1) : k2 + 2 * (2001 - (v.1 200 52).toNat) < k + 2 * (2001 - (m.1 200 52).toNat) := by
  have h1 := hc.1
  have h2 := hc0.1
  rw [hv] at h1 ⊢
  omega
/-- repeat -/
theorem nx_rep {M : St} {f b c d s q b1 d1 : Nat} {r : Int} (hN : 20000 ≤ N) (hB : BK0 t0 m0) (hR : RUNR o n t0 m0 t m k h a) (h1 : RFt (XC t0 m0) m0 (t0.1 302 18) n (m.1 55 k) (m.2 58 k) M (f + 1) k a b c d s) (hq : m.1 56 k = (q : Int)) (hq2 : q < 6000 ∧ q ≤ d) (hT : RTl (XC t0 m0) m0 (t0.1 302 18) n (t.2 (410 + o)) (m.1 55) (m.1 56) (m.1 57) (m.2 58) k h M b d s q) (hS : SB M (XC t0 m0) f (b1 + 1) b (d1 + 1) d)
    (k1 : 1 ≤ r ∧ r ≤ 64) (k2 : t0.1 363 a = r * 64 + 20) (k3 : t0.1 363 (a + 1) = ((b1 + 1 : Nat) : Int) * 64 + 21) (k4 : SB M (XC t0 m0) f (a + 2) b1 (c + 3) d1) (k5 : t0.1 363 b1 = ((a + 1 : Nat) : Int) * 64 + 26) (k6 : m0.1 31 c = 8) (k7 : m0.1 31 (c + 1) = 1000 + r) (k8 : BKt (XC t0 m0) (c + 2) d1) : NXs N o n t0 m0 K4 K5 K2 K3 t m k := by
  have ho := hR.ho
  have hth := hR.th
  have htk := hR.1.2.tk
  have h1' := h1
  obtain ⟨r1, r2, r3, r4, r5, r6, ⟨r7, r8, p0, r9, r10, r11⟩, r12⟩ := h1
  have hBn := hB.2.1
  obtain ⟨⟨a0, c0, n1, n2, n3, n4, n4'⟩, _, n9, _⟩ := hBn
  have hab := SB.le _ _ _ _ _ hS
  have hab4 := SB.le _ _ _ _ _ k4
  have hhk := RTl.hk k hT
  have hC := hR.2.2.1
  have hCI := hR.2.1.2.2.2.2.2.1
  obtain ⟨q3, q6, q51, qw⟩ := hR.2.2.2.1
  -- the hall: the first word
  generalize ht1 : pI (pI (pL t (410 + o) h (Int64.ofInt r)) (307 + o) 6 ((h + 1 : Nat) : Int)) (307 + o) 3 ((a + 1 : Nat) : Int) = t1
  have gs1 : HSr o t t1 ((a + 1 : Nat) : Int) ((h + 1 : Nat) : Int) := by rw [← ht1]; exact ((HSr.rf.l (Or.inl rfl)).p6).p3
  have s1h : t1.2 (410 + o) h = Int64.ofInt r := by rw [← ht1, pI_L, pI_L, pL_at]
  have s1j : ∀ j, j < h → t1.2 (410 + o) j = t.2 (410 + o) j := fun j hj => by rw [← ht1, pI_L, pI_L, pL_nf (by omega)]
  have s1w : t1.2 (307 + o) = t.2 (307 + o) := by rw [← ht1, pI_L, pI_L, pL_ne (by omega)]
  have hob1 : f_X8_obey N o 20 r t = some t1 := by
    unfold f_X8_obey
    rw [rnI_ok (by omega), if_neg (by decide), if_pos rfl, rnI_ok (by omega), h_push q6 (by omega), bdV_s, lt1_k, lt1_k, pI_nf (by decide), pL_I, q3, ← ht1]
    rfl
  have hA1 : f_X8_actsOf N o 20 r t = some (0, t) := by unfold f_X8_actsOf; rw [rnI_ok (by omega), if_neg (by decide), if_pos rfl]
  have hw1 := fun (q : Nat) (x : Int) (hx : 0 ≤ x ∧ x < 1000000) => g_word0 (N := N) (K4 := K4) (K5 := K5) (q := q) hC q3 (by rw [hth.2.1]; omega) (by rw [hth.2.1]; omega) (by rw [hth.1]; exact k2) (by omega) (by decide) (by omega) hx (Or.inl (by decide)) hA1
  -- the second word
  have hC1 : RNc o t1 m := gs1.rc hC
  have e302 : t1.1 302 = t0.1 302 := by rw [gs1.2.2.2.1 302 (by omega)]; exact hth.2.1
  have e363 : t1.1 363 = t0.1 363 := by rw [gs1.2.2.2.1 363 (by omega)]; exact hth.1
  have hA2 : f_X8_actsOf N o 21 ((b1 + 1 : Nat) : Int) t1 = some (1, t1) := by
    unfold f_X8_actsOf
    rw [rnI_ok (by omega), if_neg (by decide), if_neg (by decide), if_pos rfl, h_top gs1.2.1 (by omega), bdL_s, s1h]
    simp only [i64g (show -1000 ≤ r ∧ r ≤ 1000 by omega)]
    rw [if_pos (by omega)]
  have hw2 := fun (q : Nat) (x : Int) (hx : 0 ≤ x ∧ x < 1000000) => g_word (N := N) (K4 := K4) (K5 := K5) (q := q) hC1 gs1.1 (by rw [e302]; omega) (by rw [e302]; omega) (by rw [e363]; exact k3) (by omega) (by omega) hx (Or.inl (by decide)) hA2 (by omega)
  -- the model
  have hAm : f_X12_actsOf N c m = some (1, m) := by
    unfold f_X12_actsOf
    rw [ixI_ok (by omega), lt1_k, Int.toNat_natCast, htk.1, k6, cmpI_ok (by omega), if_neg (by decide), cmpI_ok (by omega), if_pos rfl]
  have hmd := fun r => m_word (N := N) (K2 := K2) (K3 := K3) (r := r) q51 (by omega) r1 (by omega) (show m.1 31 c = 8 by rw [htk.1]; exact k6) (by omega) hAm hC (by omega)
  by_cases h0 : ovr m 1 = 0
  · right
    obtain ⟨u, o1, o2, o3, o4⟩ := ob_21 (N := N) (kd := 21) (a1 := ((b1 + 1 : Nat) : Int)) (t := CT o t1 1) (a := a + 1) (h := h) (r := r) (Or.inl rfl) (by rw [CT_f (by decide) (by decide)]; exact gs1.1) (by rw [CT_f (by decide) (by decide)]; exact gs1.2.1) (by omega) (by omega) s1h
    rw [if_neg (show ¬ r = 0 by omega)] at o4
    obtain ⟨gs2, o5⟩ := o4
    have g1 : GHr o t u := ((gs1.gh ho).tr (GHr.CT ho)).tr (gs2.gh ho)
    have gC : CIk u := gs2.ci ho ((gs1.ci ho hCI).CT ho)
    have LK : LKv m (pI (ACt m 1) 200 114 ((c : Int) + 1)) 1 := LKv.ac.p
    have EV := ENV.of (k := k) (d1 := ((d1 + 1 : Nat) : Int)) (cN := ((c + 3 : Nat) : Int)) (qN := (c : Int)) (zN := r) (sN := m.2 58 k) LK
    generalize hv : ENf (pI (pI (ACt m 1) 200 114 ((c : Int) + 1)) 55 k ((d1 + 1 : Nat) : Int)) (k + 1) ((c + 3 : Nat) : Int) (c : Int) r (m.2 58 k) = v at EV
    have hen : f_X12_enters_ N c 8 (ACt m 1) = some v := by
      unfold f_X12_enters_
      simp only [lt1_k]
      have e51 : (ACt m 1).1 200 51 = ((k + 1 : Nat) : Int) := by rw [ACt_f (by decide) (by decide)]; exact q51
      have e51b : (pI (ACt m 1) 200 114 ((c : Int) + 1)).1 200 51 = ((k + 1 : Nat) : Int) := by rw [pI_nf (by decide)]; exact e51
      have e32 : (pI (ACt m 1) 200 114 ((c : Int) + 1)).1 32 = m0.1 32 := by rw [pI_ne (by decide), ACt_n (by decide)]; exact htk.2.1
      have e31 : (pI (pI (ACt m 1) 200 114 ((c : Int) + 1)) 55 k ((d1 : Int) + 1)).1 31 = m0.1 31 := by rw [pI_ne (by decide), pI_ne (by decide), ACt_n (by decide)]; exact htk.1
      rw [e51, e51b, ixI_ok (by omega), show (((k + 1 : Nat) : Int) - 1).toNat = k by omega, ACt_L, cmpI_ok (by omega), if_neg (by decide), cmpI_ok (by omega), if_pos trivial, ixI_ok (by omega), e32, show ((c : Int) + 2).toNat = c + 2 by omega, show m0.1 32 (c + 2) = (d1 : Int) from k8.2.2.2, ixI_ok (by omega), ixI_ok (by omega), e31, show ((c : Int) + 1).toNat = c + 1 by omega, k7, show (1000 + r - 1000) = r by omega, m_enters (k := k + 1) (by rw [pI_ne (by decide), pI_nf (by decide)]; exact e51) (by omega), bdV_s, ← hv]
      rfl
    obtain ⟨⟨E1, E2, E3⟩, ⟨E4, E5, E6⟩, ⟨E7, E8⟩, ⟨E9, E10⟩, ⟨E11, E12⟩⟩ := EV
    have hcv : RNc o u v := RNc.uv (hC1.cv (by omega) h0) (fun y hy => gs2.2.2.1 y (by omega) (by omega)) E3
    have uS : ∀ j, j < h → u.2 (410 + o) j = t.2 (410 + o) j := fun j hj => by rw [o2 j hj]; exact s1j j hj
    have uw : u.2 (307 + o) 4 = v.2 58 (k + 1) := by rw [E12, ← qw, o3]; exact congrFun s1w 4
    have hRF : RF (XC t0 m0) m0 (t0.1 302 18) n (u.2 (410 + o)) (v.1 55) (v.1 56) (v.1 57) (v.2 58) k h (b1 + 1) := RF.rest h1' hq hq2 hT hS (by omega) uS E4 E5 E7 E9 E11
    refine ⟨2, u, v, k + 1, h + 1, a + 2, by omega, fun q x z1 z2 => ?_, fun r => ?_, ?_, ms_dn hcv hC (by omega) E3.1 (Nat.le_refl _)⟩
    · rw [hw1 (q + 1) x (by omega), hob1, bdV_s, hw2 q (x + 1) (by omega), if_pos h0, if_neg (by decide), o1, bdV_s, Int.add_assoc]; rfl
    · rw [hmd r, if_pos h0, hen, bdV_s]
    · refine hR.to g1 gC E1 hcv ⟨gs2.1, gs2.2.1, E2, uw⟩ ?_
      refine ⟨M, f, b1, c + 3, d1, s, c, ⟨E6, k4, k8.2.2.1, by omega, by omega, by omega, ⟨r7, r8, p0, r9, r10, r11⟩, by rw [E12]; exact r12⟩, E8, by omega, ?_⟩
      rw [RTl_s]
      refine Or.inr (Or.inl ⟨k6, (r - 1).toNat, h, b1 + 1, a, f, by rw [E10]; omega, by omega, rfl, by rw [o5, show (((r - 1).toNat : Nat) : Int) = r - 1 by omega], ⟨by omega, k5, k3⟩, k4, by omega, by omega, by rw [E12, E11 k (Nat.le_refl k)], hRF⟩)
  · left
    have hov := ovr_r (m := m) (x := 1)
    refine ⟨ovr m 1, CT o t1 1, ACt m 1, by omega, fun q x z1 z2 => ?_, fun r => ?_, (gs1.gh ho).tr (GHr.CT ho), (gs1.ci ho hCI).CT ho, GMr.ACt, ct_b hC1 (by omega)⟩
    · rw [hw1 (q + 5) x (by omega), hob1, bdV_s, hw2 (q + 4) (x + 1) (by omega), if_neg h0]
    · rw [hmd r, if_neg h0]
end
