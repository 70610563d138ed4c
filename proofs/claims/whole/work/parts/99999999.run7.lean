/-! the run: if, for -/
section
variable {N o n : Nat} {t0 m0 t m u v w : St} {k h a : Nat} {K4 K5 : St → Option (Int × St)} {K2 : Int → St → Option (Int × St)} {K3 : St → Option (Int × St)}
/-- both sides are in a block of an if -/
theorem go_if {M : St} {f b c d s q b1 c1 d1 dd bs b2 : Nat} (hN : 20000 ≤ N) (hB : BK0 t0 m0) (hR : RUNR o n t0 m0 t m k h a) (h1 : RFt (XC t0 m0) m0 (t0.1 302 18) n (m.1 55 k) (m.2 58 k) M (f + 1) k a b c d s) (hq : m.1 56 k = (q : Int)) (hq2 : q < 6000 ∧ q ≤ d) (hT : RTl (XC t0 m0) m0 (t0.1 302 18) n (t.2 (410 + o)) (m.1 55) (m.1 56) (m.1 57) (m.2 58) k h M b d s q) {A : Int} {u2 v1 : St} (hS : SB M (XC t0 m0) f bs b dd d) (B4 : GHr o t u2) (B5 : CIk u2) (B6 : RNc o u2 (ACt m A)) (B8 : u2.1 (307 + o) 6 = (h : Int)) (B9 : u2.2 (410 + o) = t.2 (410 + o)) (B10 : u2.2 (307 + o) = t.2 (307 + o)) (B12 : LKv m v1 A) (hA : 1 ≤ A) (hc : c ≤ dd)
    (s1 : SB M (XC t0 m0) f b1 b2 c1 d1) (s2 : m0.1 31 d1 = 5125) (s3 : t0.1 363 b2 = (bs : Int) * 64 + 26 ∨ bs = b2) (s4 : m0.1 31 c = 11) (s5 : b2 ≤ bs ∧ c + 3 ≤ c1 ∧ d1 + 1 ≤ dd) :
    RUNR o n t0 m0 (pI u2 (307 + o) 3 (b1 : Int)) (ENf (pI v1 55 k (dd : Int)) (k + 1) (c1 : Int) (c : Int) 0 (m.2 58 k)) (k + 1) h b1 ∧ (k + 1) + 2 * (2001 - ((ENf (pI v1 55 k (dd : Int)) (k + 1) (c1 : Int) (c : Int) 0 (m.2 58 k)).1 200 52).toNat) < k + 2 * (2001 - (m.1 200 52).toNat) := by
  have ho := hR.ho
  have hth := hR.th
  have htk := hR.1.2.tk
  have h1' := h1
  obtain ⟨r1, r2, r3, r4, r5, r6, ⟨r7, r8, p0, r9, r10, r11⟩, r12⟩ := h1
  have hBn := hB.2.1
  obtain ⟨⟨a0, c0, n1, n2, n3, n4, n4'⟩, _, n9, _⟩ := hBn
  have hab := SB.le _ _ _ _ _ hS
  have hhk := RTl.hk k hT
  have hC := hR.2.2.1
  have hCI := hR.2.1.2.2.2.2.2.1
  obtain ⟨q3, q6, q51, qw⟩ := hR.2.2.2.1
  have hl1 := SB.le _ _ _ _ _ s1
  have EV := ENV.of (k := k) (d1 := (dd : Int)) (cN := (c1 : Int)) (qN := (c : Int)) (zN := 0) (sN := m.2 58 k) B12
  generalize hv : ENf (pI v1 55 k (dd : Int)) (k + 1) (c1 : Int) (c : Int) 0 (m.2 58 k) = v at EV ⊢
  obtain ⟨⟨E1, E2, E3⟩, ⟨E4, E5, E6⟩, ⟨E7, E8⟩, ⟨E9, E10⟩, ⟨E11, E12⟩⟩ := EV
  have hcv : RNc o (pI u2 (307 + o) 3 (b1 : Int)) v := RNc.uw B6 (fun y hy => pI_nf (by omega)) E3
  have uS : ∀ j, j < h → (pI u2 (307 + o) 3 (b1 : Int)).2 (410 + o) j = t.2 (410 + o) j := fun j hj => by rw [pI_L, B9]
  have hRF : RF (XC t0 m0) m0 (t0.1 302 18) n ((pI u2 (307 + o) 3 (b1 : Int)).2 (410 + o)) (v.1 55) (v.1 56) (v.1 57) (v.2 58) k h bs := RF.rest h1' hq hq2 hT hS hc uS E4 E5 E7 E9 E11
  refine ⟨hR.to (B4.tr (GHr.I (by omega) ho)) (B5.rI ho) E1 hcv ⟨pI_at, by rw [pI_nf (by decide)]; exact B8, E2, by rw [pI_L, B10, E12]; exact qw⟩ ?_, ms_dn hcv hC hA E3.1 (Nat.le_refl _)⟩
  refine ⟨M, f, b2, c1, d1, s, c, ⟨E6, s1, s2, by omega, by omega, by omega, ⟨r7, r8, p0, r9, r10, r11⟩, by rw [E12]; exact r12⟩, E8, by omega, ?_⟩
  rw [RTl_s]
  exact Or.inr (Or.inr (Or.inr (Or.inl ⟨s4, bs, s3, by omega, by rw [E12, E11 k (Nat.le_refl k)], hRF⟩)))
/-- if without else -/
theorem nx_if {M : St} {f b c d s q b1 d1 d2 bs : Nat} (hN : 20000 ≤ N) (hB : BK0 t0 m0) (hR : RUNR o n t0 m0 t m k h a) (h1 : RFt (XC t0 m0) m0 (t0.1 302 18) n (m.1 55 k) (m.2 58 k) M (f + 1) k a b c d s) (hq : m.1 56 k = (q : Int)) (hq2 : q < 6000 ∧ q ≤ d) (hT : RTl (XC t0 m0) m0 (t0.1 302 18) n (t.2 (410 + o)) (m.1 55) (m.1 56) (m.1 57) (m.2 58) k h M b d s q) (hS : SB M (XC t0 m0) f bs b (d2 + 1) d)
    (k4 : LKc false M (XC t0 m0) a b1 (c + 1) d1) (k5 : t0.1 363 b1 = (bs : Int) * 64 + 25) (k6 : SB M (XC t0 m0) f (b1 + 1) bs (d1 + 1) d2) (k8 : m0.1 31 c = 11) (k11 : BKt (XC t0 m0) d1 d2) (hne : m0.1 31 (d2 + 1) ≠ 12 ∧ inR (m0.1 31 (d2 + 1))) : NXs N o n t0 m0 K4 K5 K2 K3 t m k := by
  have ho := hR.ho
  have hth := hR.th
  have htk := hR.1.2.tk
  have h1' := h1
  obtain ⟨r1, r2, r3, r4, r5, r6, ⟨r7, r8, p0, r9, r10, r11⟩, r12⟩ := h1
  have hBn := hB.2.1
  obtain ⟨⟨a0, c0, n1, n2, n3, n4, n4'⟩, _, n9, _⟩ := hBn
  have hab := SB.le _ _ _ _ _ hS
  have hhk := RTl.hk k hT
  have hC := hR.2.2.1
  have hCI := hR.2.1.2.2.2.2.2.1
  obtain ⟨q3, q6, q51, qw⟩ := hR.2.2.2.1
  have hab6 := SB.le _ _ _ _ _ k6
  have hlk := k4.lt
  have k111 := k11.1
  obtain ⟨A, A1, A2, A3, A4⟩ := lk_cond (N := N) (K4 := K4) (K5 := K5) (t1 := t) (a := a) (c := c) (d1 := d1) (b1 := b1) (kd := 25) (vl := (bs : Int)) hN (by omega) ⟨hR.1, hR.2.1⟩ r7 r12 GHr.rf hCI hC q3 qw k4 (by omega) k5 (by omega) (by omega) (by omega) (Or.inr k8) (Or.inl k11.2.1)
  have hmd := fun r => m_word (N := N) (K2 := K2) (K3 := K3) (r := r) q51 (by omega) r1 (by omega) (show m.1 31 c = 11 by rw [htk.1]; exact k8) (by omega) A2 hC (by omega)
  by_cases h0 : ovr m A = 0
  · right
    obtain ⟨w, u2, v1, B1, B2, B3, ⟨B4, B5, B6⟩, ⟨B7, B8, B9, B10, B11⟩, B12, B13⟩ := A4 h0
    clear A3 A4
    have e302u : u2.1 302 = t0.1 302 := (hR.1.1.tr B4).1 302 (by omega) (by omega) (by omega)
    have e363u : u2.1 363 = t0.1 363 := (hR.1.1.tr B4).1 363 (by omega) (by omega) (by omega)
    have hw4 := fun (q : Nat) (x : Int) (hx : 0 ≤ x ∧ x < 1000000) => g_word0 (N := N) (K4 := K4) (K5 := K5) (q := q) B6 B7 (by rw [e302u]; omega) (by rw [e302u]; omega) (by rw [e363u]; exact k5) (by omega) (by decide) (by omega) hx (Or.inl (by decide)) (ac_0 (by omega))
    have h6u : u2.1 (307 + o) 6 = (h : Int) := by rw [B8 6 (by decide), CT_f (by decide) (by decide)]; exact q6
    have hj2 : ∀ (q : Nat) (x : Int), 0 ≤ x → x < 900000 → ∀ u3, f_X8_obey N o 25 (bs : Int) u2 = some u3 → f_X8_goOn_L7 N o o K4 K5 (q + 2) x t = f_X8_goOn_L7 N o o K4 K5 q (x + (2 : Nat)) u3 := fun q x z1 z2 u3 h3 => by
      rw [B2 (q + 1) x (by omega), hw4 q (x + 1) (by omega), h3, bdV_s]
      rw [show x + 1 + 1 = x + ((2 : Nat) : Int) by omega]
    have hob4 := ob_25 (N := N) (o := o) (a1 := (bs : Int)) B7 B11 B1
    have LK51 := B12.2.1.2.2.2
    have LK32 : v1.1 32 = m0.1 32 := by rw [B12.1.tk.2.1]; exact htk.2.1
    have LK31 : v1.1 31 = m0.1 31 := by rw [B12.1.tk.1]; exact htk.1
    have e51 : (ACt m A).1 200 51 = ((k + 1 : Nat) : Int) := by rw [ACt_f (by decide) (by decide)]; exact q51
    have e51v : v1.1 200 51 = ((k + 1 : Nat) : Int) := by rw [LK51]; exact q51
    have hen0 : f_X12_enters_ N c 11 (ACt m A) = if w = 0 then some (pI v1 55 k ((d2 + 1 : Nat) : Int)) else some (ENf (pI v1 55 k ((d2 + 1 : Nat) : Int)) (k + 1) ((d1 + 1 : Nat) : Int) (c : Int) 0 (m.2 58 k)) := by
      unfold f_X12_enters_
      simp only [lt1_k, jn1_k]
      rw [e51, ixI_ok (by omega), show (((k + 1 : Nat) : Int) - 1).toNat = k by omega, ACt_L, cmpI_ok (by omega), if_neg (by decide), cmpI_ok (by omega), if_neg (by decide), cmpI_ok (by omega), if_neg (by decide), B3, bdI_s, cmpI_ok (by omega), if_neg (by decide), B13, ixI_ok (by omega), LK32, Int.toNat_natCast, show m0.1 32 d1 = (d2 : Int) from k11.2.2.2, ixI_ok (by omega), LK31, show ((d2 : Int) + 1).toNat = d2 + 1 by omega, cmpI_ok (by omega), if_neg hne.1, cmpI_ok (by omega), if_pos trivial, e51v, ixI_ok (by omega), show (((k + 1 : Nat) : Int) - 1).toNat = k by omega, cmpI_ok (by omega)]
      by_cases w0 : w = 0
      · rw [if_pos w0, if_pos w0, cmpI_ok (by omega), if_pos trivial]
        rfl
      · rw [if_neg w0, if_neg w0, m_enters (k := k + 1) (by rw [pI_ne (by decide)]; exact e51v) (by omega), bdV_s]
        rfl
    by_cases w0 : w = 0
    · rw [if_pos w0] at hob4 hen0
      have EV := STY.of (k := k) (d1 := ((d2 + 1 : Nat) : Int)) B12
      generalize hv : pI v1 55 k ((d2 + 1 : Nat) : Int) = v at EV hen0
      obtain ⟨⟨E1, E2, E3⟩, ⟨E4, E5⟩, E7, E9, E11⟩ := EV
      have hcv : RNc o (pI u2 (307 + o) 3 (bs : Int)) v := RNc.uw B6 (fun y hy => pI_nf (by omega)) E3
      refine ⟨2, pI u2 (307 + o) 3 (bs : Int), v, k, h, bs, by omega, fun q x z1 z2 => hj2 q x z1 z2 _ hob4, fun r => ?_, ?_, ms_dn hcv hC (by omega) E3.1 (by omega)⟩
      · rw [hmd r, if_pos h0, hen0, bdV_s]
      · refine hR.to (B4.tr (GHr.I (by omega) ho)) (B5.rI ho) E1 hcv ⟨pI_at, by rw [pI_nf (by decide)]; exact h6u, by rw [E2]; exact q51, by rw [pI_L, B10, E11]; exact qw⟩ ?_
        exact RF.rest h1' hq hq2 hT hS (by omega) (fun j hj => by rw [pI_L, B9]) E4 E5 (fun j _ => by rw [E7]) (fun j _ => by rw [E9]) (fun j _ => by rw [E11])
    · rw [if_neg w0] at hob4 hen0
      have hG := go_if (b1 := b1 + 1) (c1 := d1 + 1) (d1 := d2) (dd := d2 + 1) (bs := bs) (b2 := bs) hN hB hR h1' hq hq2 hT hS B4 B5 B6 h6u B9 B10 B12 A1.1 (by omega) k6 k11.2.2.1 (Or.inr rfl) k8 (by omega)
      refine ⟨2, _, _, k + 1, h, b1 + 1, by omega, fun q x z1 z2 => hj2 q x z1 z2 _ hob4, fun r => ?_, hG.1, hG.2⟩
      rw [hmd r, if_pos h0, hen0, bdV_s]
  · left
    clear A4
    have hov := ovr_r (m := m) (x := A)
    refine ⟨ovr m A, CT o t A, ACt m A, by omega, fun q x z1 z2 => ?_, fun r => ?_, GHr.CT ho, hCI.CT ho, GMr.ACt, ct_b hC (by omega)⟩
    · rw [A3 h0 (q + 5) x (by omega)]
    · rw [hmd r, if_neg h0]
/-- if with else -/
theorem nx_ife {M : St} {f b c d s q b1 d1 b2 d2 d3 bs : Nat} (hN : 20000 ≤ N) (hB : BK0 t0 m0) (hR : RUNR o n t0 m0 t m k h a) (h1 : RFt (XC t0 m0) m0 (t0.1 302 18) n (m.1 55 k) (m.2 58 k) M (f + 1) k a b c d s) (hq : m.1 56 k = (q : Int)) (hq2 : q < 6000 ∧ q ≤ d) (hT : RTl (XC t0 m0) m0 (t0.1 302 18) n (t.2 (410 + o)) (m.1 55) (m.1 56) (m.1 57) (m.2 58) k h M b d s q) (hS : SB M (XC t0 m0) f bs b (d3 + 1) d)
    (k4 : LKc false M (XC t0 m0) a b1 (c + 1) d1) (k5 : t0.1 363 b1 = ((b2 + 1 : Nat) : Int) * 64 + 25) (k6 : SB M (XC t0 m0) f (b1 + 1) b2 (d1 + 1) d2) (k7 : t0.1 363 b2 = (bs : Int) * 64 + 26) (k8 : m0.1 31 c = 11) (k11 : BKt (XC t0 m0) d1 d2) (k12 : m0.1 31 (d2 + 1) = 12) (k13 : SB M (XC t0 m0) f (b2 + 1) bs (d2 + 3) d3) (k14 : BKt (XC t0 m0) (d2 + 2) d3) : NXs N o n t0 m0 K4 K5 K2 K3 t m k := by
  have ho := hR.ho
  have hth := hR.th
  have htk := hR.1.2.tk
  have h1' := h1
  obtain ⟨r1, r2, r3, r4, r5, r6, ⟨r7, r8, p0, r9, r10, r11⟩, r12⟩ := h1
  have hBn := hB.2.1
  obtain ⟨⟨a0, c0, n1, n2, n3, n4, n4'⟩, _, n9, _⟩ := hBn
  have hab := SB.le _ _ _ _ _ hS
  have hhk := RTl.hk k hT
  have hC := hR.2.2.1
  have hCI := hR.2.1.2.2.2.2.2.1
  obtain ⟨q3, q6, q51, qw⟩ := hR.2.2.2.1
  have hab6 := SB.le _ _ _ _ _ k6
  have hab13 := SB.le _ _ _ _ _ k13
  have hlk := k4.lt
  have k111 := k11.1
  have k141 := k14.1
  obtain ⟨A, A1, A2, A3, A4⟩ := lk_cond (N := N) (K4 := K4) (K5 := K5) (t1 := t) (a := a) (c := c) (d1 := d1) (b1 := b1) (kd := 25) (vl := ((b2 + 1 : Nat) : Int)) hN (by omega) ⟨hR.1, hR.2.1⟩ r7 r12 GHr.rf hCI hC q3 qw k4 (by omega) k5 (by omega) (by omega) (by omega) (Or.inr k8) (Or.inl k11.2.1)
  have hmd := fun r => m_word (N := N) (K2 := K2) (K3 := K3) (r := r) q51 (by omega) r1 (by omega) (show m.1 31 c = 11 by rw [htk.1]; exact k8) (by omega) A2 hC (by omega)
  by_cases h0 : ovr m A = 0
  · right
    obtain ⟨w, u2, v1, B1, B2, B3, ⟨B4, B5, B6⟩, ⟨B7, B8, B9, B10, B11⟩, B12, B13⟩ := A4 h0
    clear A3 A4
    have e302u : u2.1 302 = t0.1 302 := (hR.1.1.tr B4).1 302 (by omega) (by omega) (by omega)
    have e363u : u2.1 363 = t0.1 363 := (hR.1.1.tr B4).1 363 (by omega) (by omega) (by omega)
    have hw4 := fun (q : Nat) (x : Int) (hx : 0 ≤ x ∧ x < 1000000) => g_word0 (N := N) (K4 := K4) (K5 := K5) (q := q) B6 B7 (by rw [e302u]; omega) (by rw [e302u]; omega) (by rw [e363u]; exact k5) (by omega) (by decide) (by omega) hx (Or.inl (by decide)) (ac_0 (by omega))
    have h6u : u2.1 (307 + o) 6 = (h : Int) := by rw [B8 6 (by decide), CT_f (by decide) (by decide)]; exact q6
    have hj2 : ∀ (q : Nat) (x : Int), 0 ≤ x → x < 900000 → ∀ u3, f_X8_obey N o 25 ((b2 + 1 : Nat) : Int) u2 = some u3 → f_X8_goOn_L7 N o o K4 K5 (q + 2) x t = f_X8_goOn_L7 N o o K4 K5 q (x + (2 : Nat)) u3 := fun q x z1 z2 u3 h3 => by
      rw [B2 (q + 1) x (by omega), hw4 q (x + 1) (by omega), h3, bdV_s]
      rw [show x + 1 + 1 = x + ((2 : Nat) : Int) by omega]
    have hob4 := ob_25 (N := N) (o := o) (a1 := ((b2 + 1 : Nat) : Int)) B7 B11 B1
    have LK51 := B12.2.1.2.2.2
    have LK32 : v1.1 32 = m0.1 32 := by rw [B12.1.tk.2.1]; exact htk.2.1
    have LK31 : v1.1 31 = m0.1 31 := by rw [B12.1.tk.1]; exact htk.1
    have e51 : (ACt m A).1 200 51 = ((k + 1 : Nat) : Int) := by rw [ACt_f (by decide) (by decide)]; exact q51
    have e51v : v1.1 200 51 = ((k + 1 : Nat) : Int) := by rw [LK51]; exact q51
    have hen0 : f_X12_enters_ N c 11 (ACt m A) = if w = 0 then some (ENf (pI v1 55 k ((d3 + 1 : Nat) : Int)) (k + 1) ((d2 + 3 : Nat) : Int) (c : Int) 0 (m.2 58 k)) else some (ENf (pI v1 55 k ((d3 + 1 : Nat) : Int)) (k + 1) ((d1 + 1 : Nat) : Int) (c : Int) 0 (m.2 58 k)) := by
      unfold f_X12_enters_
      simp only [lt1_k, jn1_k]
      rw [e51, ixI_ok (by omega), show (((k + 1 : Nat) : Int) - 1).toNat = k by omega, ACt_L, cmpI_ok (by omega), if_neg (by decide), cmpI_ok (by omega), if_neg (by decide), cmpI_ok (by omega), if_neg (by decide), B3, bdI_s, cmpI_ok (by omega), if_neg (by decide), B13, ixI_ok (by omega), LK32, Int.toNat_natCast, show m0.1 32 d1 = (d2 : Int) from k11.2.2.2, ixI_ok (by omega), LK31, show ((d2 : Int) + 1).toNat = d2 + 1 by omega, k12, cmpI_ok (by omega), if_pos (show (12 : Int) = 12 from rfl), cmpI_ok (by omega), if_neg (show ¬ (1 : Int) = 0 by decide), ixI_ok (by omega), show ((d2 : Int) + 1 + 1).toNat = d2 + 2 by omega, show m0.1 32 (d2 + 2) = (d3 : Int) from k14.2.2.2, e51v, ixI_ok (by omega), show (((k + 1 : Nat) : Int) - 1).toNat = k by omega, cmpI_ok (by omega)]
      by_cases w0 : w = 0
      · rw [if_pos w0, if_pos w0, cmpI_ok (by omega), if_neg (by decide), m_enters (k := k + 1) (by rw [pI_ne (by decide)]; exact e51v) (by omega), bdV_s]
        rw [show (d2 : Int) + 1 + 2 = ((d2 + 3 : Nat) : Int) by omega]
        rfl
      · rw [if_neg w0, if_neg w0, m_enters (k := k + 1) (by rw [pI_ne (by decide)]; exact e51v) (by omega), bdV_s]
        rfl
    by_cases w0 : w = 0
    · rw [if_pos w0] at hob4 hen0
      have hG := go_if (b1 := b2 + 1) (c1 := d2 + 3) (d1 := d3) (dd := d3 + 1) (bs := bs) (b2 := bs) hN hB hR h1' hq hq2 hT hS B4 B5 B6 h6u B9 B10 B12 A1.1 (by omega) k13 k14.2.2.1 (Or.inr rfl) k8 (by omega)
      refine ⟨2, _, _, k + 1, h, b2 + 1, by omega, fun q x z1 z2 => hj2 q x z1 z2 _ hob4, fun r => ?_, hG.1, hG.2⟩
      rw [hmd r, if_pos h0, hen0, bdV_s]
    · rw [if_neg w0] at hob4 hen0
      have hG := go_if (b1 := b1 + 1) (c1 := d1 + 1) (d1 := d2) (dd := d3 + 1) (bs := bs) (b2 := b2) hN hB hR h1' hq hq2 hT hS B4 B5 B6 h6u B9 B10 B12 A1.1 (by omega) k6 k11.2.2.1 (Or.inl k7) k8 (by omega)
      refine ⟨2, _, _, k + 1, h, b1 + 1, by omega, fun q x z1 z2 => hj2 q x z1 z2 _ hob4, fun r => ?_, hG.1, hG.2⟩
      rw [hmd r, if_pos h0, hen0, bdV_s]
  · left
    clear A4
    have hov := ovr_r (m := m) (x := A)
    refine ⟨ovr m A, CT o t A, ACt m A, by omega, fun q x z1 z2 => ?_, fun r => ?_, GHr.CT ho, hCI.CT ho, GMr.ACt, ct_b hC (by omega)⟩
    · rw [A3 h0 (q + 5) x (by omega)]
    · rw [hmd r, if_neg h0]
/-- for -/
theorem nx_for {M : St} {f b c d s q b1 d1 b2 d2 : Nat} (hN : 20000 ≤ N) (hB : BK0 t0 m0) (hR : RUNR o n t0 m0 t m k h a) (h1 : RFt (XC t0 m0) m0 (t0.1 302 18) n (m.1 55 k) (m.2 58 k) M (f + 1) k a b c d s) (hq : m.1 56 k = (q : Int)) (hq2 : q < 6000 ∧ q ≤ d) (hT : RTl (XC t0 m0) m0 (t0.1 302 18) n (t.2 (410 + o)) (m.1 55) (m.1 56) (m.1 57) (m.2 58) k h M b d s q) (hS : SB M (XC t0 m0) f (b2 + 1) b (d2 + 1) d)
    (k4 : LKc true M (XC t0 m0) a b1 (c + 1) d1) (k5 : t0.1 363 b1 = 27) (k6 : SB M (XC t0 m0) f (b1 + 1) b2 (d1 + 1) d2) (k7 : t0.1 363 b2 = 28) (k8 : m0.1 31 c = 13) (k11 : BKt (XC t0 m0) d1 d2) : NXs N o n t0 m0 K4 K5 K2 K3 t m k := by
  have ho := hR.ho
  have hth := hR.th
  have htk := hR.1.2.tk
  have h1' := h1
  obtain ⟨r1, r2, r3, r4, r5, r6, ⟨r7, r8, p0, r9, r10, r11⟩, r12⟩ := h1
  have hBn := hB.2.1
  obtain ⟨⟨a0, c0, n1, n2, n3, n4, n4'⟩, _, n9, _⟩ := hBn
  have hab := SB.le _ _ _ _ _ hS
  have hhk := RTl.hk k hT
  have hC := hR.2.2.1
  have hCI := hR.2.1.2.2.2.2.2.1
  obtain ⟨q3, q6, q51, qw⟩ := hR.2.2.2.1
  have hab6 := SB.le _ _ _ _ _ k6
  have hlk := k4.lt
  have k111 := k11.1
  have k5' : t0.1 363 b1 = 0 * 64 + 27 := by rw [k5]; rfl
  obtain ⟨A, A1, A2, A3, A4⟩ := lk_who (N := N) (K4 := K4) (K5 := K5) (a := a) (c := c) (d1 := d1) (b1 := b1) (kd := 27) (vl := 0) hN (by omega) hR r7 r12 q3 qw k4 (by omega) k5' (by omega) (by omega) (by omega) k8 k11.2.1
  have hmd := fun r => m_word (N := N) (K2 := K2) (K3 := K3) (r := r) q51 (by omega) r1 (by omega) (show m.1 31 c = 13 by rw [htk.1]; exact k8) (by omega) A2 hC (by omega)
  by_cases h0 : ovr m A = 0
  · right
    obtain ⟨w, u2, v1, B2, B3, ⟨B4, B5, B6⟩, ⟨B7, B8, B9, B10, B11⟩, B12, B13, B14⟩ := A4 h0
    clear A3 A4
    have e302u : u2.1 302 = t0.1 302 := (hR.1.1.tr B4).1 302 (by omega) (by omega) (by omega)
    have e363u : u2.1 363 = t0.1 363 := (hR.1.1.tr B4).1 363 (by omega) (by omega) (by omega)
    have hw4 := fun (q : Nat) (x : Int) (hx : 0 ≤ x ∧ x < 1000000) => g_word0 (N := N) (K4 := K4) (K5 := K5) (q := q) B6 B7 (by rw [e302u]; omega) (by rw [e302u]; omega) (by rw [e363u]; exact k5') (by omega) (by decide) (by omega) hx (Or.inl (by decide)) (ac_0 (by omega))
    have h6u : u2.1 (307 + o) 6 = (h : Int) := by rw [B8 6 (by decide), CT_f (by decide) (by decide)]; exact q6
    have hj2 : ∀ (q : Nat) (x : Int), 0 ≤ x → x < 900000 → ∀ u3, f_X8_obey N o 27 0 u2 = some u3 → f_X8_goOn_L7 N o o K4 K5 (q + 2) x t = f_X8_goOn_L7 N o o K4 K5 q (x + (2 : Nat)) u3 := fun q x z1 z2 u3 h3 => by
      rw [B2 (q + 1) x (by omega), hw4 q (x + 1) (by omega), h3, bdV_s]
      rw [show x + 1 + 1 = x + ((2 : Nat) : Int) by omega]
    have hob4 := ob_27 (N := N) (o := o) (a1 := 0) B7 h6u (by omega) ho
    have LK51 := B12.2.1.2.2.2
    have LK32 : v1.1 32 = m0.1 32 := by rw [B12.1.tk.2.1]; exact htk.2.1
    have LK31 : v1.1 31 = m0.1 31 := by rw [B12.1.tk.1]; exact htk.1
    have e51 : (ACt m A).1 200 51 = ((k + 1 : Nat) : Int) := by rw [ACt_f (by decide) (by decide)]; exact q51
    have e51v : v1.1 200 51 = ((k + 1 : Nat) : Int) := by rw [LK51]; exact q51
    have hen0 : f_X12_enters_ N c 13 (ACt m A) = some (ENf (pI v1 55 k ((d2 + 1 : Nat) : Int)) (k + 1) ((d1 + 1 : Nat) : Int) (c : Int) 0 w) := by
      unfold f_X12_enters_
      simp only [lt1_k, jn1_k]
      rw [e51, ixI_ok (by omega), show (((k + 1 : Nat) : Int) - 1).toNat = k by omega, ACt_L, cmpI_ok (by omega), if_neg (by decide), cmpI_ok (by omega), if_neg (by decide), cmpI_ok (by omega), if_pos trivial, B3, bdL_s, B13, ixI_ok (by omega), LK32, Int.toNat_natCast, show m0.1 32 d1 = (d2 : Int) from k11.2.2.2, e51v, ixI_ok (by omega), show (((k + 1 : Nat) : Int) - 1).toNat = k by omega, pI_ne (show (200 : Nat) ≠ 55 by decide), B13, m_enters (k := k + 1) (by rw [pI_ne (by decide)]; exact e51v) (by omega), bdV_s]
      rfl
    have EV := ENV.of (k := k) (d1 := ((d2 + 1 : Nat) : Int)) (cN := ((d1 + 1 : Nat) : Int)) (qN := (c : Int)) (zN := 0) (sN := w) B12
    generalize hv : ENf (pI v1 55 k ((d2 + 1 : Nat) : Int)) (k + 1) ((d1 + 1 : Nat) : Int) (c : Int) 0 w = v at EV hen0
    generalize hu3 : pI (pL (pI (pL u2 (410 + o) h (u2.2 (307 + o) 4)) (307 + o) 6 ((h + 1 : Nat) : Int)) (307 + o) 4 (u2.2 370 0)) (307 + o) 3 ((b1 + 1 : Nat) : Int) = u3 at hob4
    obtain ⟨⟨E1, E2, E3⟩, ⟨E4, E5, E6⟩, ⟨E7, E8⟩, ⟨E9, E10⟩, ⟨E11, E12⟩⟩ := EV
    have gs : HSr o u2 u3 ((b1 + 1 : Nat) : Int) ((h + 1 : Nat) : Int) := by rw [← hu3]; exact (((HSr.rf.l (Or.inl rfl)).p6).l (Or.inr rfl)).p3
    have hcv : RNc o u3 v := RNc.uw B6 (fun y hy => gs.2.2.1 y (by omega) (by omega)) E3
    have uS : ∀ j, j < h → u3.2 (410 + o) j = t.2 (410 + o) j := fun j hj => by rw [← hu3, pI_L, pL_ne (by omega), pI_L, pL_nf (by omega), B9]
    have uSh : u3.2 (410 + o) h = v.2 58 k := by rw [← hu3, pI_L, pL_ne (by omega), pI_L, pL_at, B10, E11 k (Nat.le_refl k)]; exact qw
    have hRF : RF (XC t0 m0) m0 (t0.1 302 18) n (u3.2 (410 + o)) (v.1 55) (v.1 56) (v.1 57) (v.2 58) k h (b2 + 1) := RF.rest h1' hq hq2 hT hS (by omega) uS E4 E5 E7 E9 E11
    refine ⟨2, u3, v, k + 1, h + 1, b1 + 1, by omega, fun q x z1 z2 => hj2 q x z1 z2 _ hob4, fun r => ?_, ?_, ms_dn hcv hC (by omega) E3.1 (Nat.le_refl _)⟩
    · rw [hmd r, if_pos h0, hen0, bdV_s]
    · refine hR.to (B4.tr (gs.gh ho)) (gs.ci ho B5) E1 hcv ⟨gs.1, gs.2.1, E2, by rw [← hu3, pI_L, pL_at, E12]; exact B11⟩ ?_
      refine ⟨M, f, b2, d1 + 1, d2, s, c, ⟨E6, k6, k11.2.2.1, by omega, by omega, by omega, ⟨r7, r8, p0, r9, r10, r11⟩, by rw [E12]; exact B14⟩, E8, by omega, ?_⟩
      rw [RTl_s]
      exact Or.inr (Or.inr (Or.inr (Or.inr ⟨k8, h, k7, rfl, uSh, hRF⟩)))
  · left
    clear A4
    have hov := ovr_r (m := m) (x := A)
    refine ⟨ovr m A, CT o t A, ACt m A, by omega, fun q x z1 z2 => ?_, fun r => ?_, GHr.CT ho, hCI.CT ho, GMr.ACt, ct_b hC (by omega)⟩
    · rw [A3 h0 (q + 5) x (by omega)]
    · rw [hmd r, if_neg h0]
end
