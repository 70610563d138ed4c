/-! the run: until, if, for -/
section
variable {N o n : Nat} {t0 m0 t m u v w : St} {k h a : Nat} {K4 K5 : St → Option (Int × St)} {K2 : Int → St → Option (Int × St)} {K3 : St → Option (Int × St)}
/-- the model goes on behind a statement -/
def STY (m v : St) (k : Nat) (A d1 : Int) : Prop := (GMr m v ∧ v.1 200 51 = m.1 200 51 ∧ (v.1 200 52 = m.1 200 52 + A ∧ v.1 200 53 = m.1 200 53 + A ∧ v.1 200 54 = m.1 200 54)) ∧ ((∀ j, j < k → v.1 55 j = m.1 55 j) ∧ v.1 55 k = d1) ∧ v.1 56 = m.1 56 ∧ v.1 57 = m.1 57 ∧ v.2 58 = m.2 58
theorem STY.of {A d1 : Int} (g : LKv m w A) : STY m (pI w 55 k d1) k A d1 := by
  obtain ⟨g1, ⟨g2, g3, g4, g5⟩, g6, g7, g8, g9⟩ := g
  exact ⟨⟨g1.tr (GMr.I (by omega)), by rw [pI_ne (by decide)]; exact g5, by rw [pI_ne (by decide)]; exact g2, by rw [pI_ne (by decide)]; exact g3, by rw [pI_ne (by decide)]; exact g4⟩, ⟨fun j hj => by rw [pI_nf (by omega), g6], pI_at⟩, by rw [pI_ne (by decide)]; exact g7, by rw [pI_ne (by decide)]; exact g8, g9⟩
theorem RNc.uw {A : Int} {z : St} (h0 : RNc o z (ACt m A)) (hu : ∀ y, y = 7 ∨ y = 8 ∨ y = 9 → u.1 (307 + o) y = z.1 (307 + o) y) (hv : v.1 200 52 = m.1 200 52 + A ∧ v.1 200 53 = m.1 200 53 + A ∧ v.1 200 54 = m.1 200 54) : RNc o u v := by
  have f2 : (ACt m A).1 200 52 = m.1 200 52 + A := by unfold ACt; rw [pI_nf (by decide), pI_at]
  have f3 : (ACt m A).1 200 53 = m.1 200 53 + A := by unfold ACt; rw [pI_at]
  have f4 : (ACt m A).1 200 54 = m.1 200 54 := by unfold ACt; rw [pI_nf (by decide), pI_nf (by decide)]
  unfold RNc at h0 ⊢
  rw [f2, f3, f4] at h0
  rw [hv.1, hv.2.1, hv.2.2, hu 7 (by omega), hu 8 (by omega), hu 9 (by omega)]
  exact h0
/-- until -/
theorem nx_unt {M : St} {f b c d s q b1 d1 b2 d2 : Nat} {r : Int} (hN : 20000 ≤ N) (hB : BK0 t0 m0) (hR : RUNR o n t0 m0 t m k h a) (h1 : RFt (XC t0 m0) m0 (t0.1 302 18) n (m.1 55 k) (m.2 58 k) M (f + 1) k a b c d s) (hq : m.1 56 k = (q : Int)) (hq2 : q < 6000 ∧ q ≤ d) (hT : RTl (XC t0 m0) m0 (t0.1 302 18) n (t.2 (410 + o)) (m.1 55) (m.1 56) (m.1 57) (m.2 58) k h M b d s q) (hS : SB M (XC t0 m0) f (b2 + 1) b (d2 + 1) d)
    (k1 : 1 ≤ r ∧ r ≤ 64) (k2 : t0.1 363 a = r * 64 + 20) (k3 : t0.1 363 (a + 1) = ((b2 + 1 : Nat) : Int) * 64 + 22) (k4 : LKc false M (XC t0 m0) (a + 2) b1 (c + 1) d1) (k5 : t0.1 363 b1 = ((b2 + 1 : Nat) : Int) * 64 + 24) (k6 : SB M (XC t0 m0) f (b1 + 1) b2 (d1 + 3) d2) (k7 : t0.1 363 b2 = ((a + 1 : Nat) : Int) * 64 + 26) (k8 : m0.1 31 c = 9) (k9 : m0.1 31 d1 = 10) (k10 : m0.1 31 (d1 + 1) = 1000 + r) (k11 : BKt (XC t0 m0) (d1 + 2) d2) : NXs N o n t0 m0 K4 K5 K2 K3 t m k := by
  have ho := hR.ho
  have hth := hR.th
  have htk := hR.1.2.tk
  have h1' := h1
  obtain ⟨r1, r2, r3, r4, r5, r6, ⟨r7, r8, p0, r9, r10, r11⟩, r12⟩ := h1
  have hBn := hB.2.1
  obtain ⟨⟨a0, c0, n1, n2, n3, n4, n4'⟩, _, n9, _⟩ := hBn
  have hab := SB.le _ _ _ _ _ hS
  have hhk := RTl.hk k hT
  have hC := hR.2.2.1
  have hCI := hR.2.1.2.2.2.2.2.1
  obtain ⟨q3, q6, q51, qw⟩ := hR.2.2.2.1
  have hab6 := SB.le _ _ _ _ _ k6
  have hlk := k4.lt
  have k111 := k11.1
  -- the hall: the first word
  generalize ht1 : pI (pI (pL t (410 + o) h (Int64.ofInt r)) (307 + o) 6 ((h + 1 : Nat) : Int)) (307 + o) 3 ((a + 1 : Nat) : Int) = t1
  have gs1 : HSr o t t1 ((a + 1 : Nat) : Int) ((h + 1 : Nat) : Int) := by rw [← ht1]; exact ((HSr.rf.l (Or.inl rfl)).p6).p3
  have s1h : t1.2 (410 + o) h = Int64.ofInt r := by rw [← ht1, pI_L, pI_L, pL_at]
  have s1j : ∀ j, j < h → t1.2 (410 + o) j = t.2 (410 + o) j := fun j hj => by rw [← ht1, pI_L, pI_L, pL_nf (by omega)]
  have s1w : t1.2 (307 + o) = t.2 (307 + o) := by rw [← ht1, pI_L, pI_L, pL_ne (by omega)]
  have hob1 : f_X8_obey N o 20 r t = some t1 := by
    unfold f_X8_obey
    rw [rnI_ok (by omega), if_neg (by decide), if_pos rfl, rnI_ok (by omega), h_push q6 (by omega), bdV_s, lt1_k, lt1_k, pI_nf (by decide), pL_I, q3, ← ht1]
    rfl
  have hw1 := fun (q : Nat) (x : Int) (hx : 0 ≤ x ∧ x < 1000000) => g_word0 (N := N) (K4 := K4) (K5 := K5) (q := q) hC q3 (by rw [hth.2.1]; omega) (by rw [hth.2.1]; omega) (by rw [hth.1]; exact k2) (by omega) (by decide) (by omega) hx (Or.inl (by decide)) (ac_0 (by omega))
  -- the second word
  have hC1 : RNc o t1 m := gs1.rc hC
  have e302 : t1.1 302 = t0.1 302 := by rw [gs1.2.2.2.1 302 (by omega)]; exact hth.2.1
  have e363 : t1.1 363 = t0.1 363 := by rw [gs1.2.2.2.1 363 (by omega)]; exact hth.1
  have hw2 := fun (q : Nat) (x : Int) (hx : 0 ≤ x ∧ x < 1000000) => g_word0 (N := N) (K4 := K4) (K5 := K5) (q := q) hC1 gs1.1 (by rw [e302]; omega) (by rw [e302]; omega) (by rw [e363]; exact k3) (by omega) (by decide) (by omega) hx (Or.inl (by decide)) (ac_0 (by omega))
  obtain ⟨t2, o1, o2, o3, o4⟩ := ob_21 (N := N) (kd := 22) (a1 := ((b2 + 1 : Nat) : Int)) (t := t1) (a := a + 1) (h := h) (r := r) (Or.inr rfl) gs1.1 gs1.2.1 (by omega) (by omega) s1h
  rw [if_neg (show ¬ r = 0 by omega)] at o4
  obtain ⟨gs2, o5⟩ := o4
  have g12 : GHr o t t2 := (gs1.gh ho).tr (gs2.gh ho)
  have hCI2 : CIk t2 := gs2.ci ho (gs1.ci ho hCI)
  obtain ⟨A, A1, A2, A3, A4⟩ := lk_cond (N := N) (K4 := K4) (K5 := K5) (t1 := t2) (a := a + 2) (c := c) (d1 := d1) (b1 := b1) (kd := 24) (vl := ((b2 + 1 : Nat) : Int)) hN (by omega) ⟨hR.1, hR.2.1⟩ r7 r12 g12 hCI2 (gs2.rc hC1) gs2.1 (by rw [o3, s1w]; exact qw) k4 (by omega) k5 (by omega) (by omega) (by omega) (Or.inl k8) (Or.inr ⟨k9, ⟨r, k1.1, k1.2, k10⟩, k11.2.1⟩)
  have hmd := fun r => m_word (N := N) (K2 := K2) (K3 := K3) (r := r) q51 (by omega) r1 (by omega) (show m.1 31 c = 9 by rw [htk.1]; exact k8) (by omega) A2 hC (by omega)
  by_cases h0 : ovr m A = 0
  · right
    obtain ⟨w, u2, v1, B1, B2, B3, ⟨B4, B5, B6⟩, ⟨B7, B8, B9, B10, B11⟩, B12, B13⟩ := A4 h0
    clear A3 A4
    have e302u : u2.1 302 = t0.1 302 := (hR.1.1.tr (g12.tr B4)).1 302 (by omega) (by omega) (by omega)
    have e363u : u2.1 363 = t0.1 363 := (hR.1.1.tr (g12.tr B4)).1 363 (by omega) (by omega) (by omega)
    have hw4 := fun (q : Nat) (x : Int) (hx : 0 ≤ x ∧ x < 1000000) => g_word0 (N := N) (K4 := K4) (K5 := K5) (q := q) B6 B7 (by rw [e302u]; omega) (by rw [e302u]; omega) (by rw [e363u]; exact k5) (by omega) (by decide) (by omega) hx (Or.inl (by decide)) (ac_0 (by omega))
    have h6u : u2.1 (307 + o) 6 = ((h + 1 : Nat) : Int) := by rw [B8 6 (by decide), CT_f (by decide) (by decide)]; exact gs2.2.1
    have hob4 := ob_24 (N := N) (o := o) (a1 := ((b2 + 1 : Nat) : Int)) B7 B11 B1 h6u (by omega)
    have LK51 := B12.2.1.2.2.2
    have LK32 : v1.1 32 = m0.1 32 := by rw [B12.1.tk.2.1]; exact htk.2.1
    have LK31 : v1.1 31 = m0.1 31 := by rw [B12.1.tk.1]; exact htk.1
    have hj4 : ∀ (q : Nat) (x : Int), 0 ≤ x → x < 900000 → ∀ u3, f_X8_obey N o 24 ((b2 + 1 : Nat) : Int) u2 = some u3 → f_X8_goOn_L7 N o o K4 K5 (q + 4) x t = f_X8_goOn_L7 N o o K4 K5 q (x + (4 : Nat)) u3 := fun q x z1 z2 u3 h3 => by
      rw [hw1 (q + 3) x (by omega), hob1, bdV_s, hw2 (q + 2) (x + 1) (by omega), o1, bdV_s, B2 (q + 1) (x + 1 + 1) (by omega), hw4 q (x + 1 + 1 + 1) (by omega), h3, bdV_s]
      rw [show x + 1 + 1 + 1 + 1 = x + ((4 : Nat) : Int) by omega]
    have hen0 : f_X12_enters_ N c 9 (ACt m A) = if w = 0 then some (ENf (pI v1 55 k ((d2 + 1 : Nat) : Int)) (k + 1) ((d1 + 3 : Nat) : Int) (c : Int) r (m.2 58 k)) else some (pI v1 55 k ((d2 + 1 : Nat) : Int)) := by
      unfold f_X12_enters_
      simp only [lt1_k]
      have e51 : (ACt m A).1 200 51 = ((k + 1 : Nat) : Int) := by rw [ACt_f (by decide) (by decide)]; exact q51
      have e51v : v1.1 200 51 = ((k + 1 : Nat) : Int) := by rw [LK51]; exact q51
      rw [e51, ixI_ok (by omega), show (((k + 1 : Nat) : Int) - 1).toNat = k by omega, ACt_L, cmpI_ok (by omega), if_neg (by decide), cmpI_ok (by omega), if_neg (by decide), cmpI_ok (by omega), if_neg (by decide), B3, bdI_s, cmpI_ok (by omega), if_pos trivial, B13, ixI_ok (by omega), LK32, show ((d1 : Int) + 2).toNat = d1 + 2 by omega, show m0.1 32 (d1 + 2) = (d2 : Int) from k11.2.2.2, e51v, ixI_ok (by omega), show (((k + 1 : Nat) : Int) - 1).toNat = k by omega, cmpI_ok (by omega)]
      by_cases w0 : w = 0
      · rw [if_pos w0, if_pos w0, pI_ne (show (200 : Nat) ≠ 55 by decide), B13, ixI_ok (by omega), pI_ne (show (31 : Nat) ≠ 55 by decide), LK31, show ((d1 : Int) + 1).toNat = d1 + 1 by omega, k10, show (1000 + r - 1000) = r by omega, m_enters (k := k + 1) (by rw [pI_ne (by decide)]; exact e51v) (by omega), bdV_s]
        rfl
      · rw [if_neg w0, if_neg w0]
        rfl
    by_cases w0 : w = 0
    · rw [if_pos w0] at hob4 hen0
      have EV := ENV.of (k := k) (d1 := ((d2 + 1 : Nat) : Int)) (cN := ((d1 + 3 : Nat) : Int)) (qN := (c : Int)) (zN := r) (sN := m.2 58 k) B12
      generalize hv : ENf (pI v1 55 k ((d2 + 1 : Nat) : Int)) (k + 1) ((d1 + 3 : Nat) : Int) (c : Int) r (m.2 58 k) = v at EV hen0
      obtain ⟨⟨E1, E2, E3⟩, ⟨E4, E5, E6⟩, ⟨E7, E8⟩, ⟨E9, E10⟩, ⟨E11, E12⟩⟩ := EV
      have hcv : RNc o (pI u2 (307 + o) 3 ((b1 + 1 : Nat) : Int)) v := RNc.uw B6 (fun y hy => pI_nf (by omega)) E3
      have uS : ∀ j, j < h → (pI u2 (307 + o) 3 ((b1 + 1 : Nat) : Int)).2 (410 + o) j = t.2 (410 + o) j := fun j hj => by rw [pI_L, B9, o2 j hj]; exact s1j j hj
      have hRF : RF (XC t0 m0) m0 (t0.1 302 18) n ((pI u2 (307 + o) 3 ((b1 + 1 : Nat) : Int)).2 (410 + o)) (v.1 55) (v.1 56) (v.1 57) (v.2 58) k h (b2 + 1) := RF.rest h1' hq hq2 hT hS (by omega) uS E4 E5 E7 E9 E11
      refine ⟨4, pI u2 (307 + o) 3 ((b1 + 1 : Nat) : Int), v, k + 1, h + 1, b1 + 1, by omega, fun q x z1 z2 => hj4 q x z1 z2 _ hob4, fun r => ?_, ?_, ms_dn hcv hC (by omega) E3.1 (Nat.le_refl _)⟩
      · rw [hmd r, if_pos h0, hen0, bdV_s]
      · refine hR.to ((g12.tr B4).tr (GHr.I (by omega) ho)) (B5.rI ho) E1 hcv ⟨pI_at, by rw [pI_nf (by decide)]; exact h6u, E2, by rw [pI_L, B10, o3, s1w, E12]; exact qw⟩ ?_
        refine ⟨M, f, b2, d1 + 3, d2, s, c, ⟨E6, k6, k11.2.2.1, by omega, by omega, by omega, ⟨r7, r8, p0, r9, r10, r11⟩, by rw [E12]; exact r12⟩, E8, by omega, ?_⟩
        rw [RTl_s]
        refine Or.inr (Or.inr (Or.inl ⟨k8, (r - 1).toNat, h, b2 + 1, a, f, b1, d1, by rw [E10]; omega, by omega, rfl, by rw [pI_L, B9, o5, show (((r - 1).toNat : Nat) : Int) = r - 1 by omega], ⟨by omega, k7, k3⟩, ⟨k4, by omega, k5, k9, ⟨r, k1.1, k1.2, k10⟩, k11.2.1, by omega⟩, k6, by omega, by omega, by rw [E12, E11 k (Nat.le_refl k)], hRF⟩))
    · rw [if_neg w0] at hob4 hen0
      have EV := STY.of (k := k) (d1 := ((d2 + 1 : Nat) : Int)) B12
      generalize hv : pI v1 55 k ((d2 + 1 : Nat) : Int) = v at EV hen0
      generalize hu3 : pI (pI u2 (307 + o) 6 (h : Int)) (307 + o) 3 ((b2 + 1 : Nat) : Int) = u3 at hob4
      obtain ⟨⟨E1, E2, E3⟩, ⟨E4, E5⟩, E7, E9, E11⟩ := EV
      have u3y : ∀ y, y ≠ 3 → y ≠ 6 → u3.1 (307 + o) y = u2.1 (307 + o) y := fun y z1 z2 => by rw [← hu3, pI_nf z1, pI_nf z2]
      have u3L : u3.2 = u2.2 := by rw [← hu3]; rfl
      have hcv : RNc o u3 v := RNc.uw B6 (fun y hy => u3y y (by omega) (by omega)) E3
      have uS : ∀ j, j < h → u3.2 (410 + o) j = t.2 (410 + o) j := fun j hj => by rw [u3L, B9, o2 j hj]; exact s1j j hj
      refine ⟨4, u3, v, k, h, b2 + 1, by omega, fun q x z1 z2 => hj4 q x z1 z2 _ hob4, fun r => ?_, ?_, ms_dn hcv hC (by omega) E3.1 (by omega)⟩
      · rw [hmd r, if_pos h0, hen0, bdV_s]
      · refine hR.to ((g12.tr B4).tr (by rw [← hu3]; exact (GHr.I (by omega) ho).tr (GHr.I (by omega) ho))) (by rw [← hu3]; exact (B5.rI ho).rI ho) E1 hcv ⟨by rw [← hu3, pI_at], by rw [← hu3, pI_nf (by decide), pI_at], by rw [E2]; exact q51, by rw [u3L, B10, o3, s1w, E11]; exact qw⟩ ?_
        exact RF.rest h1' hq hq2 hT hS (by omega) uS E4 E5 (fun j _ => by rw [E7]) (fun j _ => by rw [E9]) (fun j _ => by rw [E11])
  · left
    clear A4
    have hov := ovr_r (m := m) (x := A)
    refine ⟨ovr m A, CT o t2 A, ACt m A, by omega, fun q x z1 z2 => ?_, fun r => ?_, g12.tr (GHr.CT ho), hCI2.CT ho, GMr.ACt, ct_b (gs2.rc hC1) (by omega)⟩
    · rw [hw1 (q + 5) x (by omega), hob1, bdV_s, hw2 (q + 4) (x + 1) (by omega), o1, bdV_s, A3 h0 (q + 3) (x + 1 + 1) (by omega)]
    · rw [hmd r, if_neg h0]
end
