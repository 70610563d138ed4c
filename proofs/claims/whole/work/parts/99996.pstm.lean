/-! reading in lock step: statements -/
section
variable {N : Nat} {M : St} {B : Nat → Int} {e mm i a c : Nat} {kp : Int} {t m : St}
theorem h_patch {p L : Nat} {vl x kd : Int} {u : St} (h18 : u.1 302 18 = (L : Int)) (hp : p < L) (hL : L ≤ 10098) (hx : u.1 363 p = x * 64 + kd) (hk : 0 ≤ kd ∧ kd < 64) (hv : 0 ≤ vl ∧ vl < 33554432) : f_X0_patch N (p : Int) vl u = some (pI u 363 p (vl * 64 + kd)) := by
  unfold f_X0_patch f_X0_kindAt
  simp only [lt1_k]
  rw [cmpI_ok (by omega), if_neg (by omega), h18, cmpI_ok (by omega), if_pos (by omega), cmpI_ok (by omega), if_neg (by omega), ixI_ok (by omega), cmpI_ok (by omega), if_pos (by omega), bdI_s, ixI_ok (by omega), Int.toNat_natCast, hx, show (x * 64 + kd) % 64 = kd by omega, ior_64 (by omega) hk]
theorem FRh.pc {p b : Nat} {x : Int} (h : b ≤ p) : FRh t (pI t 363 p x) b := ⟨fun y z _ _ h3 => by
  by_cases hy : y = 363
  · subst hy; rw [pI_nf (by omega)]
  · rw [pI_ne hy], rfl, by rw [pI_ne (by decide)]; omega, by rw [pI_ne (by decide)]; omega⟩
theorem PXw.pc {p : Nat} {x : Int} (h : PXw M B e mm kp i a c t m) : PXw M B e mm kp i a c (pI t 363 p x) m := by
  have e3 : (pI t 363 p x).1 303 = t.1 303 := pI_ne (by decide)
  have e2 : (pI t 363 p x).1 302 = t.1 302 := pI_ne (by decide)
  obtain ⟨⟨p1, p2, p3, p4, p5, p6, p7, p8, p9, p10⟩, h2, h3, h4, h5, h6, h7⟩ := h
  obtain ⟨k1, k2, k3, k4, k5, k6⟩ := p1
  refine ⟨⟨⟨fun i hi => ?_, k2, k3, by rw [pI_ne (by decide)]; exact k4, by rw [pI_ne (by decide)]; exact k5, k6⟩, p2, p3, by rw [e3]; exact p4, by rw [e3]; exact p5, by rw [e3]; exact p6, by rw [e3]; exact p7, by rw [e3]; exact p8, by rw [e2]; exact p9, p10⟩, h2.fr (FRh.pc (b := 0) (by omega)) (FRm.rf (c := 0)), by rw [e2]; exact h3, h4, h5, h6.fr (FRh.pc (b := 0) (by omega)) (FRm.rf (c := 0)), h7⟩
  have h := k1 i hi
  exact ⟨by rw [pI_ne (by decide)]; exact h.1, by rw [pI_ne (by decide)]; exact h.2.1, by rw [pI_ne (by decide)]; exact h.2.2.1, h.2.2.2⟩
theorem sim_kp {k : Int} (h : PR t m B e mm kp i) (hkp : kp = 0 ∨ kp = 1 ∨ kp = 2) (hk : cKd B e (ch B e i) = k) (hk2 : 0 ≤ k ∧ k ≤ 37) (hc : c ≤ tpm m kp) (hN : 5000 ≤ N) : SIM B e mm t m a c (TKN (B := B) (e := e) (mm := mm) kp i k t m) (f_X7_pass N t) (f_X12_key N k m) := by
  have hq := tq_of h
  rw [hk] at hq
  have : f_X12_key N k m = bdI (f_X12_takes N k m) fun x y => boI x (some (x, y)) := by
    unfold f_X12_key
    rw [k_isKey hq hk2, bdI_s, if_pos rfl, cmpI_ok (by omega), if_neg (by decide)]
  rw [this]
  exact SIM.bg (sim_pass h hkp (tq_lt h (by omega)) hc hN)
theorem SIM.k1 {Q : St → St → Prop} {F G : Option (Int × St)} (h : SIM B e mm t m a c Q F G) : SIM B e mm t m a c Q F (bdI G fun x y => cmpI x 0 (if x = 0 then boI 0 (some (0, y)) else boI 1 (some (1, y)))) := by
  rcases h with ⟨u, v, h1, h2, h3⟩ | ⟨u, v, h1, h2, h3⟩
  · left; exact ⟨u, v, h1, by rw [h2, bdI_s, cmpI_ok (by omega), if_pos rfl, boI_0], h3⟩
  · right; exact ⟨u, v, h1, by rw [h2, bdI_s, cmpI_ok (by omega), if_neg (by decide), boI_1], h3⟩
theorem SIM.k1h {Q : St → St → Prop} {F G : Option (Int × St)} (h : SIM B e mm t m a c Q F G) : SIM B e mm t m a c Q (bdI F fun x y => cmpI x 0 (if x = 0 then boI 0 (some (0, y)) else boI 1 (some (1, y)))) G := by
  rcases h with ⟨u, v, h1, h2, h3⟩ | ⟨u, v, h1, h2, h3⟩
  · left; exact ⟨u, v, by rw [h1, bdI_s, cmpI_ok (by omega), if_pos rfl, boI_0], h2, h3⟩
  · right; exact ⟨u, v, by rw [h1, bdI_s, cmpI_ok (by omega), if_neg (by decide), boI_1], h2, h3⟩
/-- do -/
theorem stm_do (hN : 5000 ≤ N) (h : PXw M B e mm 1 i a c t m) (hV : a + (mm - i) ≤ 10093) (hk : cKd B e (ch B e i) = 7) :
    SIM B e mm t m a c (RSs M B e mm i a c t m) (f_X7_readDo N t) (bdI (f_X12_key N 7 m) fun v50 t49 => cmpI v50 0 (if v50 = 0 then (boI 0 (some (0, t49))) else (bdI (f_X12_knownName N 2 t49) fun v52 t51 => cmpI v52 0 (if v52 = 0 then (boI 0 (some (0, t51))) else (bdI (f_X12_sign N 59 t51) fun v54 t53 => cmpI v54 0 (if v54 = 0 then (boI 0 (some (0, t53))) else (boI 1 (some (1, t53))))))))) := by
  unfold f_X7_readDo
  simp only [lt1_k]
  refine SIM.bind (sim_kp (N := N) (a := a) (c := c) h.1 h.kpp hk (by omega) (by rw [h.2.2.2.1]; exact Nat.le_refl _) hN) (fun u v f3 => ?_)
  obtain ⟨g1, g2, g3, g4, g5, g6, g7, g8, g9⟩ := h.nx f3.at1
  refine SIM.bind (SIM.weak (sim_known (N := N) (a := a) (c := c + 1) (o := 2) g1.1 g1.2.1 (by omega) h.kpp (by rw [g1.2.2.2.1]; exact Nat.le_refl _) hN) g2 g3 (Nat.le_refl a) (show c ≤ c + 1 by omega)) (fun u2 v2 f4 => ?_)
  obtain ⟨p, q3, q4, q5, q6⟩ := f4
  have hb := g1.2.2.2.2.2.1
  have hp16 : (p : Int) < M.1 200 16 := by
    have : u.1 314 2 = M.1 200 16 := hb.2.1.2.2
    have e9 : (312 + 2 : Nat) = 314 := rfl
    rw [e9] at q3
    omega
  have h60 := hb.2.2.1
  obtain ⟨k1, k2, k3, k4, k5, k6, k7, k8, k9⟩ := g1.nx q6
  rw [q4, h_putK k1.2.2.1 (by omega) (by omega) (by omega), bdI_s]
  have P1 := k1.U (w := (p : Int) * 64 + 19) (by omega)
  have x1 := (g2.tr k2 (Nat.le_refl a)).tr (FRh.U (w := (p : Int) * 64 + 19) k1.2.2.1 (by omega) (Nat.le_refl a)) (Nat.le_refl a)
  have x2 := g3.tr k3 (show c ≤ c + 1 by omega)
  have hs := SIM.weak (sim_sign (N := N) (a := a + 1) (c := c + 2) (k := 59) P1.1 h.kpp (by unfold isSg; omega) (by rw [P1.2.2.2.1]; exact Nat.le_refl _) hN) x1 x2 (show a ≤ a + 1 by omega) (show c ≤ c + 2 by omega)
  rw [show (40 : Int) + sgi 59 = 45 from rfl] at hs
  refine (SIM.bh (SIM.k1 hs)).mono (fun u3 v3 f5 => ?_)
  obtain ⟨l1, l2, l3, l4, l5, l6, l7, l8, l9⟩ := P1.nx f5.at1
  refine ⟨0, i + 3, a + 1, c + 3, by omega, l1, x1.tr l2 (by omega), x2.tr l3 (by omega), by omega, by omega, ?_, Or.inr (Or.inl ⟨p, hp16, rfl, rfl, ?_, ?_, ?_, ?_⟩)⟩
  · rw [l5, PU_ne (by decide) (by decide), k5, g5]
  · show u3.1 363 a = _
    rw [l8, PU_at]
  · show v3.1 31 c = 7
    rw [l9 c (by omega), k9 c (by omega)]; exact g4
  · show v3.1 31 (c + 1) = _
    rw [l9 (c + 1) (by omega), k4]; omega
  · show v3.1 31 (c + 2) = 5059
    rw [l4]; omega
/-- a step and its end -/
theorem stm_st {H : Nat} (hN : 5000 ≤ N) (hH : H ≤ 30) (hM15 : M.1 200 15 ≤ 100) (h : PXw M B e mm 1 i a c t m) (hV : a + (mm - i) ≤ 10093) (h6 : t.1 303 6 + (H : Int) = 30) :
    SIM B e mm t m a c (RSs M B e mm i a c t m) (bdI (f_X7_readStep N t) fun v9 t8 => cmpI v9 0 (if v9 = 0 then (boI 0 (some (0, t8))) else (bdI (f_X7_take N 45 t8) fun v11 t10 => cmpI v11 0 (if v11 = 0 then (boI 0 (some (0, t10))) else (boI 1 (some (1, t10)))))))
      (bdI (f_X12_stepText N m) fun v24 t23 => cmpI v24 0 (if v24 = 0 then (boI 0 (some (0, t23))) else (bdI (f_X12_sign N 59 t23) fun v26 t25 => cmpI v26 0 (if v26 = 0 then (boI 0 (some (0, t25))) else (boI 1 (some (1, t25))))))) := by
  refine SIM.bind (step_both hN hH hM15 h h6 (by omega)) (fun u v hR => ?_)
  obtain ⟨i2, b, d, r1, r2, r3, r4, r5, r6, r7, r8, r9, r10, r11⟩ := hR
  have hl : a < b ∧ c < d := by
    obtain ⟨H2, p, q1, q2, e2, q3, q4, q5⟩ := r8
    have := STq.lt q4; omega
  have hs := SIM.weak (sim_sign (N := N) (a := b) (c := d) (k := 59) r2.1 h.kpp (by unfold isSg; omega) (by rw [r2.2.2.2.1]; exact Nat.le_refl _) hN) r3 r4 (show a ≤ b by omega) (show c ≤ d by omega)
  rw [show (40 : Int) + sgi 59 = 45 from rfl] at hs
  refine (SIM.k1h (SIM.k1 hs)).mono (fun u3 v3 f5 => ?_)
  obtain ⟨l1, l2, l3, l4, l5, l6, l7, l8, l9⟩ := r2.nx f5.at1
  refine ⟨0, i2 + 1, b, d + 1, by omega, l1, r3.tr l2 (by omega), r4.tr l3 (by omega), by omega, by omega, by omega, Or.inl ⟨d, rfl, ?_, ?_, ?_, ?_⟩⟩
  · show STp M (u3.1 363) (v3.1 31) a b c d
    rw [l8]
    exact STp.cg r8 (fun _ _ _ => rfl) (fun x h1 h2 => l9 x (by omega))
  · show LFc (u3.1 363) a
    rw [l8]; exact r9.1
  · show WTk (v3.1 31 c)
    rw [l9 c (by omega)]; exact r9.2
  · show v3.1 31 d = 5059
    rw [l4]; omega
/-- repeat -/
theorem stm_re {H : Nat} {fB gB : St → Option (Int × St)} (hN : 5000 ≤ N) (hI : PBk M B e mm H fB gB) (h : PXw M B e mm 1 i a c t m) (hV : a + (mm - i) ≤ 10093) (h6 : t.1 303 6 + (H : Int) = 30) (hk : cKd B e (ch B e i) = 8) :
    SIM B e mm t m a c (RSs M B e mm i a c t m) (o_X7_readRepeat N fB t) (bdI (f_X12_key N 8 m) fun v44 t43 => cmpI v44 0 (if v44 = 0 then (boI 0 (some (0, t43))) else (bdI (f_X12_number N 1 64 t43) fun v46 t45 => cmpI v46 0 (if v46 = 0 then (boI 0 (some (0, t45))) else (bdI (gB t45) fun v48 t47 => cmpI v48 0 (if v48 = 0 then (boI 0 (some (0, t47))) else (boI 1 (some (1, t47))))))))) := by
  unfold o_X7_readRepeat
  simp only [lt1_k]
  refine SIM.bind (sim_kp (N := N) (a := a) (c := c) h.1 h.kpp hk (by omega) (by rw [h.2.2.2.1]; exact Nat.le_refl _) hN) (fun u v f3 => ?_)
  obtain ⟨g1, g2, g3, g4, g5, g6, g7, g8, g9⟩ := h.nx f3.at1
  refine SIM.bind (SIM.weak (sim_num (N := N) (a := a) (c := c + 1) (lo := 1) (hi := 64) g1.1 h.kpp (by omega) (by omega) (by rw [g1.2.2.2.1]; exact Nat.le_refl _) hN) g2 g3 (Nat.le_refl a) (show c ≤ c + 1 by omega)) (fun u2 v2 f4 => ?_)
  obtain ⟨n, q3, q4, q5, q6⟩ := f4
  obtain ⟨k1, k2, k3, k4, k5, k6, k7, k8, k9⟩ := g1.nx q6
  have hi2 := k1.1.2.1
  rw [q4, h_putK k1.2.2.1 (by omega) (by omega) (by omega), bdI_s]
  have P1 := k1.U (w := n * 64 + 20) (by omega)
  rw [h_putK P1.2.2.1 (by omega) (by omega) (by omega), bdI_s]
  have P2 := P1.U (w := 0 * 64 + 21) (by omega)
  have x1 := ((g2.tr k2 (Nat.le_refl a)).tr (FRh.U (w := n * 64 + 20) k1.2.2.1 (by omega) (Nat.le_refl a)) (Nat.le_refl a)).tr (FRh.U (b := a) (w := 0 * 64 + 21) P1.2.2.1 (by omega) (by omega)) (Nat.le_refl a)
  have x2 := g3.tr k3 (show c ≤ c + 1 by omega)
  generalize hu3 : PU (PU u2 a (n * 64 + 20)) (a + 1) (0 * 64 + 21) = u3 at *
  have c0 : u3.1 363 a = n * 64 + 20 := by rw [← hu3, PU_nf (by omega), PU_at]
  have c1 : u3.1 363 (a + 1) = 0 * 64 + 21 := by rw [← hu3, PU_at]
  have e6 : u3.1 303 6 = t.1 303 6 := by rw [← hu3, PU_ne (by decide) (by decide), PU_ne (by decide) (by decide), k5, g5]
  refine SIM.bind (SIM.weak (hI (i + 2) (a + 2) (c + 2) u3 v2 P2 (by omega) (by omega)) x1 x2 (show a ≤ a + 2 by omega) (show c ≤ c + 2 by omega)) (fun u4 v4 hR => ?_)
  obtain ⟨nn, i3, b, d, r1, r2, r3, r4, r5, r6, r7, r8, r9⟩ := hR
  have hl := SB.le _ _ _ _ _ r8
  have hi3 := r2.1.2.1
  rw [h_putK r2.2.2.1 (by omega) (by omega) (by omega), bdI_s]
  have P3 := r2.U (w := ((a + 1 : Nat) : Int) * 64 + 26) (by omega)
  rw [P3.2.2.1, h_patch (x := 0) (kd := 21) P3.2.2.1 (by omega) (by omega) (by rw [PU_nf (by omega), r3.1 363 (a + 1) (by omega) (by omega) (by omega)]; exact c1) (by omega) (by omega), bdV_s, boI_1]
  right
  have P4 := P3.pc (p := a + 1) (x := ((b + 1 : Nat) : Int) * 64 + 21)
  refine ⟨_, v4, rfl, by rw [boI_1], nn, i3, b + 1, d + 1, by omega, P4, ((x1.tr r3 (by omega)).tr (FRh.U r2.2.2.1 (by omega) (show a ≤ b by omega)) (Nat.le_refl a)).tr (FRh.pc (by omega)) (Nat.le_refl a), x2.tr r4 (by omega), by omega, by omega, ?_, Or.inr (Or.inr (Or.inl ⟨n, b, d, by omega, by omega, rfl, rfl, ?_, ?_, ?_, ?_, ?_, ?_, ?_⟩))⟩
  · rw [pI_ne (by decide), PU_ne (by decide) (by decide), r7, e6]
  · show (pI (PU u4 b (((a + 1 : Nat) : Int) * 64 + 26)) 363 (a + 1) (((b + 1 : Nat) : Int) * 64 + 21)).1 363 a = n * 64 + 20
    rw [pI_nf (by omega), PU_nf (by omega), r3.1 363 a (by omega) (by omega) (by omega)]; exact c0
  · show (pI (PU u4 b (((a + 1 : Nat) : Int) * 64 + 26)) 363 (a + 1) (((b + 1 : Nat) : Int) * 64 + 21)).1 363 (a + 1) = _
    rw [pI_at]
  · refine SB.cg _ _ _ _ _ r8 ⟨fun y h1 h2 => ?_, fun y h1 h2 => rfl, fun y h1 h2 => rfl⟩
    show (pI (PU u4 b (((a + 1 : Nat) : Int) * 64 + 26)) 363 (a + 1) (((b + 1 : Nat) : Int) * 64 + 21)).1 363 y = u4.1 363 y
    rw [pI_nf (by omega), PU_nf (by omega)]
  · show (pI (PU u4 b (((a + 1 : Nat) : Int) * 64 + 26)) 363 (a + 1) (((b + 1 : Nat) : Int) * 64 + 21)).1 363 b = _
    rw [pI_nf (by omega), PU_at]
  · show v4.1 31 c = 8
    rw [r4.1 31 c (by omega) (by omega) (by omega), k9 c (by omega)]; exact g4
  · show v4.1 31 (c + 1) = 1000 + n
    rw [r4.1 31 (c + 1) (by omega) (by omega) (by omega)]; exact k4
  · exact r9
end
