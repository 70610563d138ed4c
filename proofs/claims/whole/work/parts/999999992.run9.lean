/-! the run: repeat and until, one time more -/
section
variable {N o n : Nat} {t0 m0 t m u v w : St} {k h a : Nat} {K4 K5 : St → Option (Int × St)} {K2 : Int → St → Option (Int × St)} {K3 : St → Option (Int × St)}
theorem nx_eB {M : St} {s b d q h' a' a0 f2 r : Nat} (hN : 20000 ≤ N) (hl : t0.1 302 18 ≤ 10098) (hR : RUNR o n t0 m0 t m (k + 1) h b) (hk : k + 1 < 1500) (h55 : m.1 55 (k + 1) = (d : Int)) (hd : d < 6000 ∧ (d : Int) < m0.1 200 33) (htd : m0.1 31 d = 5125) (hb : (b : Int) < t0.1 302 18) (hq : m.1 56 (k + 1) = (q : Int)) (hq2 : q < 6000 ∧ q ≤ d) (hM : bkG M m0 ∧ M.1 200 15 ≤ m0.1 200 15 ∧ ∃ p : Nat, M.1 200 16 = p ∧ (p : Int) < m0.1 200 16 ∧ m0.1 29 p = ((s + 2 : Nat) : Int)) (hbt : ∀ e, e < 64 → bq (m.2 58 (k + 1)) e = true → e < n)
    (hw : m0.1 31 q = 8) (hz : m.1 57 (k + 1) = ((r + 1 : Nat) : Int)) (hr : r < 64) (hh : h = h' + 1) (hh2 : h' ≤ k) (hS : t.2 (410 + o) h' = Int64.ofInt (r : Int)) (c1 : a0 + 1 < b) (c2 : t0.1 363 b = ((a0 + 1 : Nat) : Int) * 64 + 26) (c3 : t0.1 363 (a0 + 1) = (a' : Int) * 64 + 21) (k4 : SB M (XC t0 m0) f2 (a0 + 2) b (q + 3) d) (k5 : 4 * (k + 2) + (d - (q + 3)) + s ≤ 6000) (ha' : a' < 20000) (hW : m.2 58 (k + 1) = m.2 58 k) (hRF : RF (XC t0 m0) m0 (t0.1 302 18) n (t.2 (410 + o)) (m.1 55) (m.1 56) (m.1 57) (m.2 58) k h' a') : NXs N o n t0 m0 K4 K5 K2 K3 t m (k + 1) := by
  have ho := hR.ho
  have hth := hR.th
  have htk := hR.1.2.tk
  have hC := hR.2.2.1
  have hCI := hR.2.1.2.2.2.2.2.1
  obtain ⟨q3, q6, q51, qw⟩ := hR.2.2.2.1
  subst hh
  -- the hall: back to the beginning
  have gs1 : HSr o t (pI t (307 + o) 3 ((a0 + 1 : Nat) : Int)) ((a0 + 1 : Nat) : Int) ((h' + 1 : Nat) : Int) := by rw [← q6]; exact HSr.rf.p3
  have hw1 := fun (q : Nat) (x : Int) (hx : 0 ≤ x ∧ x < 1000000) => g_word0 (N := N) (K4 := K4) (K5 := K5) (q := q) (m := m) (kd := 26) (vl := ((a0 + 1 : Nat) : Int)) hC q3 (by rw [hth.2.1]; omega) (by rw [hth.2.1]; omega) (by rw [hth.1, c2]) (by omega) (by decide) (by omega) hx (Or.inl (by decide)) (ac_0 (by omega))
  have hob1 := ob_26 (N := N) (o := o) (a1 := ((a0 + 1 : Nat) : Int)) (t := t)
  generalize ht1 : pI t (307 + o) 3 ((a0 + 1 : Nat) : Int) = t1 at gs1 hob1
  have s1L : t1.2 = t.2 := by rw [← ht1]; rfl
  have e302 : t1.1 302 = t0.1 302 := by rw [gs1.2.2.2.1 302 (by omega)]; exact hth.2.1
  have e363 : t1.1 363 = t0.1 363 := by rw [gs1.2.2.2.1 363 (by omega)]; exact hth.1
  have s1h : t1.2 (410 + o) h' = Int64.ofInt (r : Int) := by rw [s1L]; exact hS
  have hcl := m_c1 (N := N) (m := m) (k := k + 1) (c := d) (q := q) (r := r) q51 (by omega) hq hq2.1 (by rw [htk.1]; omega) hz hr
  have hmd := fun (x : Int) (y : St) (r' : Nat) (h1 : f_X12_closes N d m = some (x, y)) (h2 : x = 0 ∨ x = 3 ∨ x = 4) => m_cls (N := N) (K2 := K2) (K3 := K3) (r := r') q51 (by omega) h55 (by omega) (show m.1 31 d = 5125 by rw [htk.1]; exact htd) h1 h2
  -- the model: one time less
  generalize hm1 : pI m 57 (k + 1) (r : Int) = m1 at hcl
  have gm1 : GMr m m1 := by rw [← hm1]; exact GMr.I (by omega)
  have m1o : ∀ x, x ≠ 57 → m1.1 x = m.1 x := fun x hx => by rw [← hm1, pI_ne hx]
  have m1L : m1.2 = m.2 := by rw [← hm1]; rfl
  have m1z : m1.1 57 (k + 1) = (r : Int) := by rw [← hm1, pI_at]
  have m1j : ∀ j, j ≤ k → m1.1 57 j = m.1 57 j := fun j hj => by rw [← hm1, pI_nf (by omega)]
  have hC1 : RNc o t m1 := by rw [← hm1]; exact hC.m57 (by decide)
  have hE : RUNE o n t0 m0 t m1 := ⟨⟨hR.1.1, hR.1.2.tr gm1⟩, hR.2.1.rn ho GHr.rf hCI gm1⟩
  have m52 : m1.1 200 = m.1 200 := m1o 200 (by decide)
  by_cases r0 : r = 0
  · have hA2 : f_X8_actsOf N o 21 (a' : Int) t1 = some (0, t1) := by
      unfold f_X8_actsOf
      rw [rnI_ok (by omega), if_neg (by decide), if_neg (by decide), if_pos rfl, h_top gs1.2.1 (by omega), bdL_s, s1h]
      simp only [i64g (show -1000 ≤ (r : Int) ∧ (r : Int) ≤ 1000 by omega)]
      rw [if_neg (by omega)]
    have hw2 := fun (q : Nat) (x : Int) (hx : 0 ≤ x ∧ x < 1000000) => g_word0 (N := N) (K4 := K4) (K5 := K5) (q := q) (gs1.rc hC) gs1.1 (by rw [e302]; omega) (by rw [e302]; omega) (by rw [e363]; exact c3) (by omega) (by decide) (by omega) hx (Or.inl (by decide)) hA2
    -- no more
    obtain ⟨u, o1, o2, o3, o4⟩ := ob_21 (N := N) (kd := 21) (a1 := (a' : Int)) (t := t1) (a := a0 + 1) (h := h') (r := (r : Int)) (Or.inl rfl) gs1.1 gs1.2.1 (by omega) (by omega) s1h
    rw [if_pos (show (r : Int) = 0 by omega)] at o4
    rw [if_pos r0] at hcl
    have g1 : GHr o t u := (gs1.gh ho).tr (o4.gh ho)
    have gC : CIk u := o4.ci ho (gs1.ci ho hCI)
    right
    refine ⟨2, u, pI m1 200 51 ((k + 1 : Nat) : Int), k, h', a', by omega, fun q x z1 z2 => ?_, fun r' => ?_, ?_, ?_⟩
    · rw [hw1 (q + 1) x (by omega), hob1, bdV_s, hw2 q (x + 1) (by omega), o1, bdV_s, Int.add_assoc]; rfl
    · rw [hmd 0 _ r' hcl (Or.inl rfl), if_pos rfl]
    · refine hR.to g1 gC (gm1.tr GMr.p51) ((o4.rc (gs1.rc hC1)).m51) ⟨o4.1, o4.2.1, pI_at, ?_⟩ ?_
      · rw [o3, s1L, pI_L, m1L, ← hW]; exact qw
      · exact hRF.cg (fun j hj => by rw [o2 j hj, s1L]) (fun j _ => by rw [pI_ne (by decide), m1o 55 (by decide)]) (fun j _ => by rw [pI_ne (by decide), m1o 56 (by decide)]) (fun j hj => by rw [pI_ne (by decide)]; exact m1j j hj) (fun j _ => by rw [pI_L, m1L])
    · rw [pI_nf (by decide), m52]; omega
  · have hA2 : f_X8_actsOf N o 21 (a' : Int) t1 = some (1, t1) := by
      unfold f_X8_actsOf
      rw [rnI_ok (by omega), if_neg (by decide), if_neg (by decide), if_pos rfl, h_top gs1.2.1 (by omega), bdL_s, s1h]
      simp only [i64g (show -1000 ≤ (r : Int) ∧ (r : Int) ≤ 1000 by omega)]
      rw [if_pos (by omega)]
    have hw2 := fun (q : Nat) (x : Int) (hx : 0 ≤ x ∧ x < 1000000) => g_word (N := N) (K4 := K4) (K5 := K5) (q := q) (gs1.rc hC1) gs1.1 (by rw [e302]; omega) (by rw [e302]; omega) (by rw [e363]; exact c3) (by omega) (by omega) hx (Or.inl (by decide)) hA2 (by omega)
    have hAm : f_X12_actsOf N q m1 = some (1, m1) := by
      unfold f_X12_actsOf
      rw [ixI_ok (by omega), lt1_k, Int.toNat_natCast, m1o 31 (by decide), htk.1, hw, cmpI_ok (by omega), if_neg (by decide), cmpI_ok (by omega), if_pos rfl]
    have hov := ovr_r (m := m1) (x := 1)
    rw [if_neg r0, hAm, bdI_s, m_act hC1 (by omega), bdI_s, cmpI_ok (by omega)] at hcl
    by_cases h0 : ovr m1 1 = 0
    · rw [if_neg (by omega), ixI_ok (by omega), if_neg (by rw [htk.1]; omega), ixI_ok (by omega), show (ACt m1 1).1 56 (k + 1) = (q : Int) by rw [ACt_n (by decide), m1o 56 (by decide)]; exact hq, show (q : Int) + 2 + 1 = ((q + 3 : Nat) : Int) by omega] at hcl
      obtain ⟨u, o1, o2, o3, o4⟩ := ob_21 (N := N) (kd := 21) (a1 := (a' : Int)) (t := CT o t1 1) (a := a0 + 1) (h := h') (r := (r : Int)) (Or.inl rfl) (by rw [CT_f (by decide) (by decide)]; exact gs1.1) (by rw [CT_f (by decide) (by decide)]; exact gs1.2.1) (by omega) (by omega) s1h
      rw [if_neg (show ¬ (r : Int) = 0 by omega)] at o4
      obtain ⟨gs2, o5⟩ := o4
      have g1 : GHr o t u := ((gs1.gh ho).tr (GHr.CT ho)).tr (gs2.gh ho)
      have gC : CIk u := gs2.ci ho ((gs1.ci ho hCI).CT ho)
      have EV := STY.of (m := m1) (k := k + 1) (d1 := ((q + 3 : Nat) : Int)) (LKv.ac (m := m1) (A := 1))
      generalize hv : pI (ACt m1 1) 55 (k + 1) ((q + 3 : Nat) : Int) = v at EV hcl
      obtain ⟨⟨E1, E2, E3⟩, ⟨E4, E5⟩, E7, E9, E11⟩ := EV
      have hcv : RNc o u v := RNc.uv ((gs1.rc hC1).cv (by omega) h0) (fun y hy => gs2.2.2.1 y (by omega) (by omega)) E3
      right
      refine ⟨2, u, v, k + 1, h' + 1, a0 + 2, by omega, fun q x z1 z2 => ?_, fun r' => ?_, ?_, ms_dn (A := 1) hcv hC (by omega) (by rw [E3.1, m52]) (by omega)⟩
      · rw [hw1 (q + 1) x (by omega), hob1, bdV_s, hw2 q (x + 1) (by omega), if_pos h0, if_neg (by decide), o1, bdV_s, Int.add_assoc]; rfl
      · rw [hmd 0 _ r' hcl (Or.inl rfl), if_pos rfl]
      · refine hR.to g1 gC (gm1.tr E1) hcv ⟨gs2.1, gs2.2.1, by rw [E2, m52]; exact q51, by rw [o3, CT_L, s1L, E11, m1L]; exact qw⟩ ?_
        refine ⟨M, f2, b, q + 3, d, s, q, ⟨E5, k4, htd, hb, hd, by omega, hM, by rw [E11, m1L]; exact hbt⟩, by rw [E7, m1o 56 (by decide)]; exact hq, hq2, ?_⟩
        rw [RTl_s]
        refine Or.inr (Or.inl ⟨hw, r - 1, h', a', a0, f2, by rw [E9, m1z]; omega, by omega, rfl, by rw [o5, show ((r - 1 : Nat) : Int) = (r : Int) - 1 by omega], ⟨c1, c2, c3⟩, k4, k5, ha', by rw [E11, m1L]; exact hW, ?_⟩)
        exact hRF.cg (fun j hj => by rw [o2 j hj, CT_L, s1L]) (fun j hj => by rw [E4 j (by omega), m1o 55 (by decide)]) (fun j _ => by rw [E7, m1o 56 (by decide)]) (fun j hj => by rw [E9]; exact m1j j hj) (fun j _ => by rw [E11, m1L])
    · rw [if_pos (by omega)] at hcl
      left
      refine ⟨ovr m1 1, CT o t1 1, ACt m1 1, by omega, fun q x z1 z2 => ?_, fun r' => ?_, (gs1.gh ho).tr (GHr.CT ho), (gs1.ci ho hCI).CT ho, gm1.tr GMr.ACt, ct_b (gs1.rc hC1) (by omega)⟩
      · rw [hw1 (q + 5) x (by omega), hob1, bdV_s, hw2 (q + 4) (x + 1) (by omega), if_neg h0]
      · rw [hmd _ _ r' hcl (by omega), if_neg h0]
theorem nx_eC {M : St} {s b d q h' a' a0 f2 r b1 d1 : Nat} (hN : 20000 ≤ N) (hl : t0.1 302 18 ≤ 10098) (hR : RUNR o n t0 m0 t m (k + 1) h b) (hk : k + 1 < 1500) (h55 : m.1 55 (k + 1) = (d : Int)) (hd : d < 6000 ∧ (d : Int) < m0.1 200 33) (htd : m0.1 31 d = 5125) (hb : (b : Int) < t0.1 302 18) (hq : m.1 56 (k + 1) = (q : Int)) (hq2 : q < 6000 ∧ q ≤ d) (hM : bkG M m0 ∧ M.1 200 15 ≤ m0.1 200 15 ∧ ∃ p : Nat, M.1 200 16 = p ∧ (p : Int) < m0.1 200 16 ∧ m0.1 29 p = ((s + 2 : Nat) : Int)) (hbt : ∀ e, e < 64 → bq (m.2 58 (k + 1)) e = true → e < n)
    (hw : m0.1 31 q = 9) (hz : m.1 57 (k + 1) = ((r + 1 : Nat) : Int)) (hr : r < 64) (hh : h = h' + 1) (hh2 : h' ≤ k) (hS : t.2 (410 + o) h' = Int64.ofInt (r : Int)) (c1 : a0 + 1 < b) (c2 : t0.1 363 b = ((a0 + 1 : Nat) : Int) * 64 + 26) (c3 : t0.1 363 (a0 + 1) = (a' : Int) * 64 + 22) (k4 : LKc false M (XC t0 m0) (a0 + 2) b1 (q + 1) d1) (k5 : b1 < b) (k6 : t0.1 363 b1 = (a' : Int) * 64 + 24) (k7 : m0.1 31 d1 = 10) (k8 : ∃ nn : Int, 1 ≤ nn ∧ nn ≤ 64 ∧ m0.1 31 (d1 + 1) = 1000 + nn) (k9 : m0.1 31 (d1 + 2) = 5123) (k10 : d1 + 3 ≤ d) (k11 : SB M (XC t0 m0) f2 (b1 + 1) b (d1 + 3) d) (k12 : 4 * (k + 2) + (d - (d1 + 3)) + s ≤ 6000) (ha' : a' < 20000) (hW : m.2 58 (k + 1) = m.2 58 k) (hRF : RF (XC t0 m0) m0 (t0.1 302 18) n (t.2 (410 + o)) (m.1 55) (m.1 56) (m.1 57) (m.2 58) k h' a') : NXs N o n t0 m0 K4 K5 K2 K3 t m (k + 1) := by
  have hke : LKe (m0.1 31) d1 := Or.inr ⟨k7, k8, k9⟩
  have k8' := k8
  have hM' := hM
  have hMg := hM.1
  clear k8 hM
  have ho := hR.ho
  have hth := hR.th
  have htk := hR.1.2.tk
  have hC := hR.2.2.1
  have hCI := hR.2.1.2.2.2.2.2.1
  obtain ⟨q3, q6, q51, qw⟩ := hR.2.2.2.1
  subst hh
  -- the hall: back to the beginning
  have gs1 : HSr o t (pI t (307 + o) 3 ((a0 + 1 : Nat) : Int)) ((a0 + 1 : Nat) : Int) ((h' + 1 : Nat) : Int) := by rw [← q6]; exact HSr.rf.p3
  have hw1 := fun (q : Nat) (x : Int) (hx : 0 ≤ x ∧ x < 1000000) => g_word0 (N := N) (K4 := K4) (K5 := K5) (q := q) (m := m) (kd := 26) (vl := ((a0 + 1 : Nat) : Int)) hC q3 (by rw [hth.2.1]; omega) (by rw [hth.2.1]; omega) (by rw [hth.1, c2]) (by omega) (by decide) (by omega) hx (Or.inl (by decide)) (ac_0 (by omega))
  have hob1 := ob_26 (N := N) (o := o) (a1 := ((a0 + 1 : Nat) : Int)) (t := t)
  generalize ht1 : pI t (307 + o) 3 ((a0 + 1 : Nat) : Int) = t1 at gs1 hob1
  have s1L : t1.2 = t.2 := by rw [← ht1]; rfl
  have e302 : t1.1 302 = t0.1 302 := by rw [gs1.2.2.2.1 302 (by omega)]; exact hth.2.1
  have e363 : t1.1 363 = t0.1 363 := by rw [gs1.2.2.2.1 363 (by omega)]; exact hth.1
  have s1h : t1.2 (410 + o) h' = Int64.ofInt (r : Int) := by rw [s1L]; exact hS
  have hcl := m_c1 (N := N) (m := m) (k := k + 1) (c := d) (q := q) (r := r) q51 (by omega) hq hq2.1 (by rw [htk.1]; omega) hz hr
  have hmd := fun (x : Int) (y : St) (r' : Nat) (h1 : f_X12_closes N d m = some (x, y)) (h2 : x = 0 ∨ x = 3 ∨ x = 4) => m_cls (N := N) (K2 := K2) (K3 := K3) (r := r') q51 (by omega) h55 (by omega) (show m.1 31 d = 5125 by rw [htk.1]; exact htd) h1 h2
  -- the model: one time less
  generalize hm1 : pI m 57 (k + 1) (r : Int) = m1 at hcl
  have gm1 : GMr m m1 := by rw [← hm1]; exact GMr.I (by omega)
  have m1o : ∀ x, x ≠ 57 → m1.1 x = m.1 x := fun x hx => by rw [← hm1, pI_ne hx]
  have m1L : m1.2 = m.2 := by rw [← hm1]; rfl
  have m1z : m1.1 57 (k + 1) = (r : Int) := by rw [← hm1, pI_at]
  have m1j : ∀ j, j ≤ k → m1.1 57 j = m.1 57 j := fun j hj => by rw [← hm1, pI_nf (by omega)]
  have hC1 : RNc o t m1 := by rw [← hm1]; exact hC.m57 (by decide)
  have hE : RUNE o n t0 m0 t m1 := ⟨⟨hR.1.1, hR.1.2.tr gm1⟩, hR.2.1.rn ho GHr.rf hCI gm1⟩
  have m52 : m1.1 200 = m.1 200 := m1o 200 (by decide)
  have hw2 := fun (q : Nat) (x : Int) (hx : 0 ≤ x ∧ x < 1000000) => g_word0 (N := N) (K4 := K4) (K5 := K5) (q := q) (gs1.rc hC) gs1.1 (by rw [e302]; omega) (by rw [e302]; omega) (by rw [e363]; exact c3) (by omega) (by decide) (by omega) hx (Or.inl (by decide)) (ac_0 (by omega))
  by_cases r0 : r = 0
  · skip
    -- no more
    obtain ⟨u, o1, o2, o3, o4⟩ := ob_21 (N := N) (kd := 22) (a1 := (a' : Int)) (t := t1) (a := a0 + 1) (h := h') (r := (r : Int)) (Or.inr rfl) gs1.1 gs1.2.1 (by omega) (by omega) s1h
    rw [if_pos (show (r : Int) = 0 by omega)] at o4
    rw [if_pos r0] at hcl
    have g1 : GHr o t u := (gs1.gh ho).tr (o4.gh ho)
    have gC : CIk u := o4.ci ho (gs1.ci ho hCI)
    right
    refine ⟨2, u, pI m1 200 51 ((k + 1 : Nat) : Int), k, h', a', by omega, fun q x z1 z2 => ?_, fun r' => ?_, ?_, ?_⟩
    · rw [hw1 (q + 1) x (by omega), hob1, bdV_s, hw2 q (x + 1) (by omega), o1, bdV_s, Int.add_assoc]; rfl
    · rw [hmd 0 _ r' hcl (Or.inl rfl), if_pos rfl]
    · refine hR.to g1 gC (gm1.tr GMr.p51) ((o4.rc (gs1.rc hC1)).m51) ⟨o4.1, o4.2.1, pI_at, ?_⟩ ?_
      · rw [o3, s1L, pI_L, m1L, ← hW]; exact qw
      · exact hRF.cg (fun j hj => by rw [o2 j hj, s1L]) (fun j _ => by rw [pI_ne (by decide), m1o 55 (by decide)]) (fun j _ => by rw [pI_ne (by decide), m1o 56 (by decide)]) (fun j hj => by rw [pI_ne (by decide)]; exact m1j j hj) (fun j _ => by rw [pI_L, m1L])
    · rw [pI_nf (by decide), m52]; omega
  · obtain ⟨t2, o1, o2, o3, o4⟩ := ob_21 (N := N) (kd := 22) (a1 := (a' : Int)) (t := t1) (a := a0 + 1) (h := h') (r := (r : Int)) (Or.inr rfl) gs1.1 gs1.2.1 (by omega) (by omega) s1h
    rw [if_neg (show ¬ (r : Int) = 0 by omega)] at o4
    obtain ⟨gs2, o5⟩ := o4
    have g12 : GHr o t t2 := (gs1.gh ho).tr (gs2.gh ho)
    have hCI2 : CIk t2 := gs2.ci ho (gs1.ci ho hCI)
    obtain ⟨A, A1, A2, A3, A4⟩ := lk_cond (N := N) (K4 := K4) (K5 := K5) (m := m1) (k := k + 1) (t1 := t2) (a := a0 + 2) (c := q) (d1 := d1) (b1 := b1) (kd := 24) (vl := (a' : Int)) hN hl hE hMg (by rw [m1L]; exact hbt) g12 hCI2 (gs2.rc (gs1.rc hC1)) gs2.1 (by rw [o3, s1L, m1L]; exact qw) k4 (by omega) k6 (by omega) (by omega) (by omega) (Or.inl hw) hke
    have hov := ovr_r (m := m1) (x := A)
    rw [if_neg r0, A2, bdI_s, m_act hC1 (by omega), bdI_s, cmpI_ok (by omega)] at hcl
    by_cases h0 : ovr m1 A = 0
    · obtain ⟨w, u2, v1, B1, B2, B3, ⟨B4, B5, B6⟩, ⟨B7, B8, B9, B10, B11⟩, B12, B13⟩ := A4 h0
      clear A3 A4
      have e302u : u2.1 302 = t0.1 302 := (hR.1.1.tr (g12.tr B4)).1 302 (by omega) (by omega) (by omega)
      have e363u : u2.1 363 = t0.1 363 := (hR.1.1.tr (g12.tr B4)).1 363 (by omega) (by omega) (by omega)
      have hw4 := fun (q : Nat) (x : Int) (hx : 0 ≤ x ∧ x < 1000000) => g_word0 (N := N) (K4 := K4) (K5 := K5) (q := q) B6 B7 (by rw [e302u]; omega) (by rw [e302u]; omega) (by rw [e363u]; exact k6) (by omega) (by decide) (by omega) hx (Or.inl (by decide)) (ac_0 (by omega))
      have h6u : u2.1 (307 + o) 6 = ((h' + 1 : Nat) : Int) := by rw [B8 6 (by decide), CT_f (by decide) (by decide)]; exact gs2.2.1
      have hob4 := ob_24 (N := N) (o := o) (a1 := (a' : Int)) B7 B11 B1 h6u (by omega)
      have hj4 : ∀ (q : Nat) (x : Int), 0 ≤ x → x < 900000 → ∀ u3, f_X8_obey N o 24 (a' : Int) u2 = some u3 → f_X8_goOn_L7 N o o K4 K5 (q + 4) x t = f_X8_goOn_L7 N o o K4 K5 q (x + (4 : Nat)) u3 := fun q x z1 z2 u3 h3 => by
        rw [hw1 (q + 3) x (by omega), hob1, bdV_s, hw2 (q + 2) (x + 1) (by omega), o1, bdV_s, B2 (q + 1) (x + 1 + 1) (by omega), hw4 q (x + 1 + 1 + 1) (by omega), h3, bdV_s]
        rw [show x + 1 + 1 + 1 + 1 = x + ((4 : Nat) : Int) by omega]
      have e56 : (ACt m1 A).1 56 (k + 1) = (q : Int) := by rw [ACt_n (by decide), m1o 56 (by decide)]; exact hq
      have e58 : (pI (ACt m1 A) 200 114 ((q : Int) + 1)).2 58 (k + 1) = m1.2 58 (k + 1) := rfl
      rw [if_neg (by omega), ixI_ok (by omega), if_pos (by rw [htk.1]; exact hw), ixI_ok (by omega), ixI_ok (by omega), e56, e58, B3, bdI_s, cmpI_ok (by omega), B13, ixI_ok (by omega), show (d1 : Int) + 2 + 1 = ((d1 + 3 : Nat) : Int) by omega] at hcl
      by_cases w0 : w = 0
      · rw [if_pos w0] at hob4 hcl
        have EV := STY.of (m := m1) (k := k + 1) (d1 := ((d1 + 3 : Nat) : Int)) B12
        generalize hv : pI v1 55 (k + 1) ((d1 + 3 : Nat) : Int) = v at EV hcl
        obtain ⟨⟨E1, E2, E3⟩, ⟨E4, E5⟩, E7, E9, E11⟩ := EV
        have hcv : RNc o (pI u2 (307 + o) 3 ((b1 + 1 : Nat) : Int)) v := RNc.uw B6 (fun y hy => pI_nf (by omega)) E3
        right
        refine ⟨4, pI u2 (307 + o) 3 ((b1 + 1 : Nat) : Int), v, k + 1, h' + 1, b1 + 1, by omega, fun q x z1 z2 => hj4 q x z1 z2 _ hob4, fun r' => ?_, ?_, ms_dn (A := A) hcv hC (by omega) (by rw [E3.1, m52]) (by omega)⟩
        · rw [hmd 0 _ r' hcl (Or.inl rfl), if_pos rfl]
        · refine hR.to ((g12.tr B4).tr (GHr.I (by omega) ho)) (B5.rI ho) (gm1.tr E1) hcv ⟨pI_at, by rw [pI_nf (by decide)]; exact h6u, by rw [E2, m52]; exact q51, by rw [pI_L, B10, o3, s1L, E11, m1L]; exact qw⟩ ?_
          refine ⟨M, f2, b, d1 + 3, d, s, q, ⟨E5, k11, htd, hb, hd, by omega, hM', by rw [E11, m1L]; exact hbt⟩, by rw [E7, m1o 56 (by decide)]; exact hq, hq2, ?_⟩
          rw [RTl_s]
          refine Or.inr (Or.inr (Or.inl ⟨hw, r - 1, h', a', a0, f2, b1, d1, by rw [E9, m1z]; omega, by omega, rfl, by rw [pI_L, B9, o5, show ((r - 1 : Nat) : Int) = (r : Int) - 1 by omega], ⟨c1, c2, c3⟩, ⟨k4, k5, k6, k7, k8', k9, k10⟩, k11, k12, ha', by rw [E11, m1L]; exact hW, ?_⟩))
          exact hRF.cg (fun j hj => by rw [pI_L, B9, o2 j hj, s1L]) (fun j hj => by rw [E4 j (by omega), m1o 55 (by decide)]) (fun j _ => by rw [E7, m1o 56 (by decide)]) (fun j hj => by rw [E9]; exact m1j j hj) (fun j _ => by rw [E11, m1L])
      · rw [if_neg w0] at hob4 hcl
        generalize hu3 : pI (pI u2 (307 + o) 6 (h' : Int)) (307 + o) 3 (a' : Int) = u3 at hob4
        have u3y : ∀ y, y ≠ 3 → y ≠ 6 → u3.1 (307 + o) y = u2.1 (307 + o) y := fun y z1 z2 => by rw [← hu3, pI_nf z1, pI_nf z2]
        have u3L : u3.2 = u2.2 := by rw [← hu3]; rfl
        obtain ⟨g1, ⟨g2, g3, g4, g5⟩, g6, g7, g8, g9⟩ := B12
        rw [g5, m52, q51, show ((k + 1 + 1 : Nat) : Int) - 1 = ((k + 1 : Nat) : Int) by omega] at hcl
        have hcv : RNc o u3 v1 := RNc.uw B6 (fun y hy => u3y y (by omega) (by omega)) ⟨g2, g3, g4⟩
        right
        refine ⟨4, u3, pI v1 200 51 ((k + 1 : Nat) : Int), k, h', a', by omega, fun q x z1 z2 => hj4 q x z1 z2 _ hob4, fun r' => ?_, ?_, ?_⟩
        · rw [hmd 0 _ r' hcl (Or.inl rfl), if_pos rfl]
        · refine hR.to ((g12.tr B4).tr (by rw [← hu3]; exact (GHr.I (by omega) ho).tr (GHr.I (by omega) ho))) (by rw [← hu3]; exact (B5.rI ho).rI ho) ((gm1.tr g1).tr GMr.p51) hcv.m51 ⟨by rw [← hu3, pI_at], by rw [← hu3, pI_nf (by decide), pI_at], pI_at, by rw [u3L, B10, o3, s1L, pI_L, g9, m1L, ← hW]; exact qw⟩ ?_
          exact hRF.cg (fun j hj => by rw [u3L, B9, o2 j hj, s1L]) (fun j hj => by rw [pI_ne (by decide), g6, m1o 55 (by decide)]) (fun j _ => by rw [pI_ne (by decide), g7, m1o 56 (by decide)]) (fun j hj => by rw [pI_ne (by decide), g8]; exact m1j j hj) (fun j _ => by rw [pI_L, g9, m1L])
        · have hm := ms_dn (k := k + 1) (k2 := k) hcv hC A1.1 (by rw [g2, m52]) (by omega)
          rw [pI_nf (by decide)]; exact hm
    · clear A4
      rw [if_pos (by omega)] at hcl
      left
      refine ⟨ovr m1 A, CT o t2 A, ACt m1 A, by omega, fun q x z1 z2 => ?_, fun r' => ?_, g12.tr (GHr.CT ho), hCI2.CT ho, gm1.tr GMr.ACt, ct_b (gs2.rc (gs1.rc hC1)) (by omega)⟩
      · rw [hw1 (q + 5) x (by omega), hob1, bdV_s, hw2 (q + 4) (x + 1) (by omega), o1, bdV_s, A3 h0 (q + 3) (x + 1 + 1) (by omega)]
      · rw [hmd _ _ r' hcl (by omega), if_neg h0]
end
