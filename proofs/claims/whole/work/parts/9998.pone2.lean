/-! reading in lock step: words with more behind them -/
section
variable {N : Nat} {M : St} {B : Nat → Int} {e mm i a c H : Nat} {kp : Int} {t m : St}
theorem TQk.rng {hk : Int} (h : TQk t m hk) : 0 ≤ hk ∧ hk ≤ 49 := by
  have hs := sgi_rng (m.1 200 5)
  have hs2 := (sgi_neg (c := m.1 200 5))
  rcases h.2 with h8 | h8 | h8 | h8 | h8 | h8
  · omega
  · omega
  · omega
  · have := h8.2.2; have := h8.2.1; omega
  · omega
  · omega
theorem TQk.wd {hk : Int} (h : TQk t m hk) (h1 : hk ≤ 37) : m.1 200 3 = 1 ∧ m.1 200 5 = hk := by
  have hs := sgi_rng (m.1 200 5)
  have hs2 := (sgi_neg (c := m.1 200 5))
  rcases h.2 with h8 | h8 | h8 | h8 | h8 | h8
  · exact ⟨h8.1, h8.2.1⟩
  · omega
  · omega
  · have := h8.2.2; have := h8.2.1; omega
  · omega
  · omega
theorem TQk.nw {hk : Int} (h : TQk t m hk) (h1 : 37 < hk) : m.1 200 3 ≠ 1 ∧ inR (m.1 200 3) := by
  rcases h.2 with h8 | h8 | h8 | h8 | h8 | h8 <;> omega
theorem PXw.pt {f : Nat} {x : Int} (h : PXw M B e mm kp i a c t m) (hf : f = 10 ∨ f = 11) : PXw M B e mm kp i a c (pI t 303 f x) m :=
  ⟨h.1.pt (by omega), h.2.1.fr (FRh.p (a := a)) (FRm.rf (c := c)), by rw [pI_ne (by decide)]; exact h.2.2.1, h.2.2.2.1, h.2.2.2.2.1, h.2.2.2.2.2.1.fr (FRh.p (a := a)) (FRm.rf (c := c)), h.2.2.2.2.2.2⟩
theorem PXw.kpp (h : PXw M B e mm kp i a c t m) : kp = 0 ∨ kp = 1 ∨ kp = 2 := by have := h.2.2.2.2.1; omega
/-- a word is put, and the answer is kept -/
def HPt (N : Nat) (kd vl j : Int) (u : St) : Option (Int × St) := bdI (f_X0_put N kd vl u) fun _ u2 => boI j (some (j, u2))
theorem HPt_flt {F G : Option (Int × St)} {kd : Int} {vl : St → Int} (h : PXw M B e mm kp i a c t m) (hf : FLT B e mm t m a c F G) : FLT B e mm t m a c (bdI F fun j u => cmpI j 0 (if j = 0 then HPt N kd (vl u) j u else HPt N kd (vl u) j u)) G := by
  have h18 := h.2.2.1
  have hV := h.2.2.2.2.2.2
  have hp := FLT.put (N := N) (kd := kd) (vl := vl) hf (by omega) (by omega)
  obtain ⟨u2, v2, q1, q2, q3⟩ := hf
  rw [q1] at hp ⊢
  rw [bdI_s] at hp ⊢
  rw [cmpI_ok (by omega), if_pos rfl]
  exact hp
theorem FLT.kg {F G : Option (Int × St)} {K : St → Option (Int × St)} (h : FLT B e mm t m a c F G) : FLT B e mm t m a c F (bdI G fun x y => cmpI x 0 (if x = 0 then boI 0 (some (0, y)) else K y)) := by
  obtain ⟨u2, v2, q1, q2, q3⟩ := h
  exact ⟨u2, v2, q1, by rw [q2, bdI_s, cmpI_ok (by omega), if_pos rfl, boI_0], q3⟩
theorem FLT.weak {F G : Option (Int × St)} {t1 m1 : St} {a1 c1 : Nat} (h : FLT B e mm t1 m1 a1 c1 F G) (g1 : FRh t t1 a) (g2 : FRm m m1 c) (ha : a ≤ a1) (hc : c ≤ c1) : FLT B e mm t m a c F G := by
  obtain ⟨u, v, h1, h2, h3, h4, h5⟩ := h
  exact ⟨u, v, h1, h2, h3, g1.tr h4 ha, g2.tr h5 hc⟩
/-- a way -/
theorem one_fa {fN fG : Int → St → Option (Int × St)} {fT fO : St → Option (Int × St)} (h : PXw M B e mm kp i a c t m) (hk : cKd B e (ch B e i) = 21) (hN : 5000 ≤ N) :
    SIM B e mm t m a c (RWw (WO M H) M B e mm kp i a c t m) (o_X7_readOne N fN fG t) (o_X12_whoOne N fT fO m) := by
  have hq := h.kd
  rw [hk] at hq
  have hlt := tq_lt h.1 (by omega)
  have hmk := hq.wd (by omega)
  have hV := h.2.2.2.2.2.2
  have hmo : o_X12_whoOne N fT fO m = bdI (f_X12_takes N 21 m) fun x y => cmpI x 0 (if x = 0 then boI 0 (some (0, y)) else cmpI (y.1 200 3) 1 (if y.1 200 3 = 1 then bdI (f_X12_in N (y.1 200 5) 31 34 y) fun x2 y2 => cmpI x2 0 (if x2 = 0 then (bdI (f_X12_wrong N 1 y2) fun x3 y3 => boI x3 (some (x3, y3))) else bdI (f_X12_takes N (y2.1 200 5) y2) fun x3 y3 => boI x3 (some (x3, y3))) else bdI (f_X12_wrong N 1 y) fun x3 y3 => boI x3 (some (x3, y3)))) := by
    unfold o_X12_whoOne
    rw [k_isSign hq (by unfold isSg; omega), bdI_s, if_neg (by rw [show sgi 40 = 2 from rfl]; omega), cmpI_ok (by omega), if_pos rfl]
    simp only [lt1_k, jn1_k]
    rw [hmk.1, cmpI_ok (by omega), if_pos rfl, hmk.2, rnI_ok (by omega)]
    rfl
  have hha : o_X7_readOne N fN fG t = bdI (f_X7_pass N t) fun v7 t6 => cmpI v7 0 (if v7 = 0 then boI 0 (some (0, t6)) else cmpI (t6.1 303 3) 31 (if t6.1 303 3 < 31 then (bdI (f_X7_wrong N 1 t6) fun j u => cmpI j 0 (if j = 0 then HPt N 7 (t6.1 303 3 - 31) j u else HPt N 7 (t6.1 303 3 - 31) j u)) else cmpI (t6.1 303 3) 34 (if 34 < t6.1 303 3 then (bdI (f_X7_wrong N 1 t6) fun j u => cmpI j 0 (if j = 0 then HPt N 7 (t6.1 303 3 - 31) j u else HPt N 7 (t6.1 303 3 - 31) j u)) else bdI (f_X7_pass N t6) fun j u => cmpI j 0 (if j = 0 then HPt N 7 (t6.1 303 3 - 31) j u else HPt N 7 (t6.1 303 3 - 31) j u)))) := by
    unfold o_X7_readOne
    simp only [lt1_k, jn1_k]
    rw [hq.1, cmpI_ok (by omega), if_neg (by omega), cmpI_ok (by omega), if_neg (by omega), cmpI_ok (by omega), if_neg (by omega), cmpI_ok (by omega), if_neg (by omega)]
    rfl
  rw [hha, hmo]
  refine SIM.bind (sim_pass (N := N) (a := a) (c := c) (as := 21) h.1 h.kpp hlt (by rw [h.2.2.2.1]; exact Nat.le_refl _) hN) (fun u v f3 => ?_)
  obtain ⟨g1, g2, g3, g4, g5, g6, g7, g8, g9⟩ := h.nx f3.at1
  have hq1 := g1.kd
  generalize hk1 : cKd B e (ch B e (i + 1)) = k1 at hq1
  have hr1 := hq1.rng
  have hwr : ∀ x : Int, SIM B e mm t m a c (RWw (WO M H) M B e mm kp i a c t m) (bdI (f_X7_wrong N 1 u) fun j u2 => cmpI j 0 (if j = 0 then HPt N 7 x j u2 else HPt N 7 x j u2)) (bdI (f_X12_wrong N 1 v) fun x3 y3 => boI x3 (some (x3, y3))) := by
    intro x
    left
    have h0 := (flt_w (a := a) (c := c + 1) N g1.1 (f := 1) (by omega)).weak g2 g3 (Nat.le_refl a) (by omega)
    have h1 := HPt_flt (N := N) (kd := 7) (vl := fun _ => x) h h0
    obtain ⟨u2, v2, q1, q2, q3⟩ := h1
    exact ⟨u2, v2, q1, by rw [q2, bdI_s, boI_0], q3⟩
  rw [hq1.1, cmpI_ok (show inR k1 ∧ inR 31 by omega), cmpI_ok (show inR k1 ∧ inR 34 by omega)]
  by_cases hw1 : k1 ≤ 37
  · have hm1 := hq1.wd hw1
    rw [hm1.1, cmpI_ok (show inR 1 ∧ inR 1 by omega), if_pos (show (1 : Int) = 1 from rfl), hm1.2]
    unfold f_X12_in
    rw [cmpI_ok (show inR k1 ∧ inR 31 by omega), cmpI_ok (show inR k1 ∧ inR 34 by omega), boI_0, boI_1]
    by_cases ha1 : k1 < 31
    · rw [if_pos ha1, if_pos ha1, bdI_s, cmpI_ok (by omega), if_pos rfl]
      exact hwr _
    · rw [if_neg ha1, if_neg ha1]
      by_cases ha2 : 34 < k1
      · rw [if_pos ha2, if_pos ha2, bdI_s, cmpI_ok (by omega), if_pos rfl]
        exact hwr _
      · rw [if_neg ha2, if_neg ha2, bdI_s, cmpI_ok (by omega), if_neg (by decide), hm1.2]
        have hlt1 := tq_lt g1.1 (by omega)
        have hp := SIM.weak (sim_pass (N := N) (a := a) (c := c + 1) (as := k1) g1.1 h.kpp hlt1 (by rw [g1.2.2.2.1]; exact Nat.le_refl _) hN) g2 g3 (Nat.le_refl a) (by omega)
        rcases hp with hf | ⟨u2, v2, q1, q2, q6⟩
        · left
          have h1 := HPt_flt (N := N) (kd := 7) (vl := fun _ => k1 - 31) h hf
          obtain ⟨u2, v2, q1, q2, q3⟩ := h1
          exact ⟨u2, v2, q1, by rw [q2, bdI_s, boI_0], q3⟩
        · right
          obtain ⟨k1', k2, k3, k4, k5, k6, k7, k8, k9⟩ := g1.nx q6.at1
          have hx31 : v2.1 31 c = 21 := by rw [k9 c (by omega)]; exact g4
          refine ⟨PU u2 a ((k1 - 31) * 64 + 7), v2, ?_, ?_, i + 2, a + 1, c + 2, by omega, k1'.U (by omega), (g2.tr k2 (Nat.le_refl a)).tr (FRh.U k1'.2.2.1 (by omega) (Nat.le_refl a)) (Nat.le_refl a), g3.tr k3 (by omega), by omega, by omega, by rw [PU_ne (by decide) (by decide), k5, g5], by rw [PU_ne (by decide) (by decide), k7, g7], ?_, ?_, ?_, ?_⟩
          · rw [q1, bdI_s, cmpI_ok (by omega), if_neg (by decide)]
            unfold HPt
            rw [h_putK k1'.2.2.1 (by omega) (by omega) (by omega), bdI_s, boI_1]
          · rw [q2, bdI_s, boI_1]
          · exact wo_fa (v := k1 - 31) (by omega) PU_at hx31 (by rw [k4]; omega)
          · exact ⟨7, k1 - 31, by omega, by omega, by omega, by omega, PU_at⟩
          · intro y hy1 hy2
            by_cases hyc : y = c
            · rw [hyc, hx31]; left; omega
            · rw [show y = c + 1 by omega, k4]; left; omega
          · rw [PU_ne (by decide) (by decide), k6, g6, show c + 2 - c = 0 + 1 + 1 by omega, cnL_s, cnL_s, Nat.add_zero, hx31, if_neg (by omega), show c + (0 + 1) = c + 1 by omega, k4, if_neg (by omega)]
            show _ = t.1 303 10 + (0 + 0 + 0); omega
  · have hm1 := hq1.nw (by omega)
    rw [cmpI_ok (show inR (v.1 200 3) ∧ inR 1 by omega), if_neg hm1.1, if_neg (show ¬ k1 < 31 by omega), if_pos (show 34 < k1 by omega)]
    exact hwr _
/-- of a form -/
theorem one_in {fN fG : Int → St → Option (Int × St)} {fT fO : St → Option (Int × St)} (h : PXw M B e mm kp i a c t m) (hk : cKd B e (ch B e i) = 22) (hN : 5000 ≤ N) :
    SIM B e mm t m a c (RWw (WO M H) M B e mm kp i a c t m) (o_X7_readOne N fN fG t) (o_X12_whoOne N fT fO m) := by
  have hq := h.kd
  rw [hk] at hq
  have hlt := tq_lt h.1 (by omega)
  have hmk := hq.wd (by omega)
  have hV := h.2.2.2.2.2.2
  have hmo : o_X12_whoOne N fT fO m = bdI (f_X12_takes N 22 m) fun x y => cmpI x 0 (if x = 0 then boI 0 (some (0, y)) else bdI (f_X12_knownName N 0 y) fun x2 y2 => cmpI x2 0 (if x2 = 0 then boI 0 (some (0, y2)) else boI 1 (some (1, y2)))) := by
    unfold o_X12_whoOne
    rw [k_isSign hq (by unfold isSg; omega), bdI_s, if_neg (by rw [show sgi 40 = 2 from rfl]; omega), cmpI_ok (by omega), if_pos rfl]
    simp only [lt1_k, jn1_k]
    rw [hmk.1, cmpI_ok (by omega), if_pos rfl, hmk.2, rnI_ok (by omega)]
    rfl
  have hha : o_X7_readOne N fN fG t = bdI (f_X7_pass N t) fun v7 t6 => cmpI v7 0 (if v7 = 0 then boI 0 (some (0, t6)) else bdI (f_X7_takeKnown N 0 (pI t6 303 10 (t6.1 303 10 + 1))) fun j u => cmpI j 0 (if j = 0 then HPt N 8 (u.1 303 9) j u else HPt N 8 (u.1 303 9) j u)) := by
    unfold o_X7_readOne
    simp only [lt1_k, jn1_k]
    rw [hq.1, cmpI_ok (by omega), if_neg (by omega), cmpI_ok (by omega), if_neg (by omega), cmpI_ok (by omega), if_neg (by omega), cmpI_ok (by omega), if_neg (by omega)]
    rfl
  rw [hha, hmo]
  refine SIM.bind (sim_pass (N := N) (a := a) (c := c) (as := 22) h.1 h.kpp hlt (by rw [h.2.2.2.1]; exact Nat.le_refl _) hN) (fun u v f3 => ?_)
  obtain ⟨g1, g2, g3, g4, g5, g6, g7, g8, g9⟩ := h.nx f3.at1
  have g1' := g1.pt (f := 10) (x := u.1 303 10 + 1) (by omega)
  have g2' : FRh t (pI u 303 10 (u.1 303 10 + 1)) a := g2.tr FRh.p (Nat.le_refl a)
  have hkn := SIM.weak (sim_known (N := N) (a := a) (c := c + 1) (o := 0) g1'.1 g1'.2.1 (by omega) h.kpp (by rw [g1'.2.2.2.1]; exact Nat.le_refl _) hN) g2' g3 (Nat.le_refl a) (by omega)
  rcases hkn with hf | ⟨u2, v2, q1, q2, x, q3, q4, q5, q6⟩
  · left
    exact (HPt_flt (N := N) (kd := 8) (vl := fun u => u.1 303 9) h hf).kg
  · right
    have q2 : f_X12_knownName N 0 v = some (1, v2) := q2
    have hb := g1'.2.2.2.2.2.1
    have hx14 : (x : Int) < M.1 200 14 := by
      have : (pI u 303 10 (u.1 303 10 + 1)).1 312 2 = M.1 200 14 := hb.2.1.1
      have e : (312 + 0 : Nat) = 312 := rfl
      rw [e] at q3
      omega
    have h40 := hb.2.2.1
    obtain ⟨k1', k2, k3, k4, k5, k6, k7, k8, k9⟩ := g1'.nx q6
    have hx31 : v2.1 31 c = 22 := by rw [k9 c (by omega)]; exact g4
    refine ⟨PU u2 a ((x : Int) * 64 + 8), v2, ?_, ?_, i + 2, a + 1, c + 2, by omega, k1'.U (by omega), (g2'.tr k2 (Nat.le_refl a)).tr (FRh.U k1'.2.2.1 (by omega) (Nat.le_refl a)) (Nat.le_refl a), g3.tr k3 (by omega), by omega, by omega, by rw [PU_ne (by decide) (by decide), k5, pI_nf (by decide), g5], by rw [PU_ne (by decide) (by decide), k7, pI_nf (by decide), g7], ?_, ?_, ?_, ?_⟩
    · rw [q1, bdI_s, cmpI_ok (by omega), if_neg (by decide), q4]
      unfold HPt
      rw [h_putK k1'.2.2.1 (by omega) (by omega) (by omega), bdI_s, boI_1]
    · rw [q2, bdI_s, cmpI_ok (by omega), if_neg (by decide), boI_1]
    · exact wo_in hx14 PU_at hx31 (by rw [k4]; omega)
    · exact ⟨8, x, by omega, by omega, by omega, by omega, PU_at⟩
    · intro y hy1 hy2
      by_cases hyc : y = c
      · rw [hyc, hx31]; left; omega
      · rw [show y = c + 1 by omega, k4]; left; omega
    · rw [PU_ne (by decide) (by decide), k6, pI_at, g6, show c + 2 - c = 0 + 1 + 1 by omega, cnL_s, cnL_s, Nat.add_zero, hx31, if_pos (by omega), show c + (0 + 1) = c + 1 by omega, k4, if_neg (by omega)]
      show _ = t.1 303 10 + (0 + 1 + 0); omega
/-- at a place of a form -/
theorem one_at {fN fG : Int → St → Option (Int × St)} {fT fO : St → Option (Int × St)} (h : PXw M B e mm kp i a c t m) (hk : cKd B e (ch B e i) = 23) (hN : 5000 ≤ N) :
    SIM B e mm t m a c (RWw (WO M H) M B e mm kp i a c t m) (o_X7_readOne N fN fG t) (o_X12_whoOne N fT fO m) := by
  have hq := h.kd
  rw [hk] at hq
  have hlt := tq_lt h.1 (by omega)
  have hmk := hq.wd (by omega)
  have hV := h.2.2.2.2.2.2
  have hmo : o_X12_whoOne N fT fO m = bdI (f_X12_takes N 23 m) fun x y => cmpI x 0 (if x = 0 then boI 0 (some (0, y)) else bdI (f_X12_knownName N 0 y) fun x2 y2 => cmpI x2 0 (if x2 = 0 then boI 0 (some (0, y2)) else ixI (y2.1 200 113) 40 (bdI (f_X12_number N 0 (y2.1 18 (y2.1 200 113).toNat - 1) y2) fun x3 y3 => cmpI x3 0 (if x3 = 0 then boI 0 (some (0, y3)) else boI 1 (some (1, y3)))))) := by
    unfold o_X12_whoOne
    rw [k_isSign hq (by unfold isSg; omega), bdI_s, if_neg (by rw [show sgi 40 = 2 from rfl]; omega), cmpI_ok (by omega), if_pos rfl]
    simp only [lt1_k, jn1_k]
    rw [hmk.1, cmpI_ok (by omega), if_pos rfl, hmk.2, rnI_ok (by omega)]
    rfl
  have hha : o_X7_readOne N fN fG t = bdI (f_X7_pass N t) fun v7 t6 => cmpI v7 0 (if v7 = 0 then boI 0 (some (0, t6)) else bdI (f_X7_takeKnown N 0 (pI t6 303 10 (t6.1 303 10 + 1))) fun j u => cmpI j 0 (if j = 0 then HPt N 9 (u.1 303 9) j u else ixI (u.1 303 9) 40 (bdI (f_X7_takeNumber N 0 (u.1 350 (u.1 303 9).toNat - 1) u) fun j2 u2 => HPt N 9 (u.1 303 9 * 8 + u2.1 303 8) j2 u2))) := by
    unfold o_X7_readOne
    simp only [lt1_k, jn1_k]
    rw [hq.1, cmpI_ok (by omega), if_neg (by omega), cmpI_ok (by omega), if_neg (by omega), cmpI_ok (by omega), if_neg (by omega), cmpI_ok (by omega), if_neg (by omega)]
    rfl
  rw [hha, hmo]
  refine SIM.bind (sim_pass (N := N) (a := a) (c := c) (as := 23) h.1 h.kpp hlt (by rw [h.2.2.2.1]; exact Nat.le_refl _) hN) (fun u v f3 => ?_)
  obtain ⟨g1, g2, g3, g4, g5, g6, g7, g8, g9⟩ := h.nx f3.at1
  have g1' := g1.pt (f := 10) (x := u.1 303 10 + 1) (by omega)
  have g2' : FRh t (pI u 303 10 (u.1 303 10 + 1)) a := g2.tr FRh.p (Nat.le_refl a)
  have hkn := SIM.weak (sim_known (N := N) (a := a) (c := c + 1) (o := 0) g1'.1 g1'.2.1 (by omega) h.kpp (by rw [g1'.2.2.2.1]; exact Nat.le_refl _) hN) g2' g3 (Nat.le_refl a) (by omega)
  have h18 := h.2.2.1
  rcases hkn with hf | ⟨u2, v2, q1, q2, x, q3, q4, q5, q6⟩
  · left
    have hp := FLT.put (N := N) (kd := 9) (vl := fun u => u.1 303 9) hf (by omega) (by omega)
    have hp := hp.kg (K := fun y2 => ixI (y2.1 200 113) 40 (bdI (f_X12_number N 0 (y2.1 18 (y2.1 200 113).toNat - 1) y2) fun x3 y3 => cmpI x3 0 (if x3 = 0 then boI 0 (some (0, y3)) else boI 1 (some (1, y3)))))
    obtain ⟨u2, v2, q1, q2, q3⟩ := hf
    rw [q1] at hp ⊢
    rw [bdI_s] at hp ⊢
    rw [cmpI_ok (by omega), if_pos rfl]
    exact hp
  · have q2 : f_X12_knownName N 0 v = some (1, v2) := q2
    have hb := g1'.2.2.2.2.2.1
    have hx14 : (x : Int) < M.1 200 14 := by
      have : (pI u 303 10 (u.1 303 10 + 1)).1 312 2 = M.1 200 14 := hb.2.1.1
      have e : (312 + 0 : Nat) = 312 := rfl
      rw [e] at q3
      omega
    have h40 := hb.2.2.1
    obtain ⟨k1', k2, k3, k4, k5, k6, k7, k8, k9⟩ := g1'.nx q6
    have hb2 := k1'.2.2.2.2.2.1
    have hx31 : v2.1 31 c = 23 := by rw [k9 c (by omega)]; exact g4
    have hsl := hb2.2.2.2.1 x hx14
    rw [q1, bdI_s, cmpI_ok (by omega), if_neg (by decide), q2, bdI_s, cmpI_ok (by omega), if_neg (by decide), q4, q5, ixI_ok (by omega), ixI_ok (by omega), Int.toNat_natCast, hsl.1, hb2.1.2.2.2 x]
    have hnum := SIM.weak (sim_num (N := N) (a := a) (c := c + 2) (lo := 0) (hi := M.1 18 x - 1) k1'.1 h.kpp (by omega) (by omega) (by rw [k1'.2.2.2.1]; omega) hN) (g2'.tr k2 (Nat.le_refl a)) (g3.tr k3 (by omega)) (Nat.le_refl a) (by omega : c ≤ c + 2)
    rcases hnum with hf | ⟨u3, v3, p1, p2, y, p3, p4, p5, p6⟩
    · left
      exact (FLT.put (N := N) (kd := 9) (vl := fun u => (x : Int) * 8 + u.1 303 8) hf (by omega) (by omega)).kg
    · right
      obtain ⟨r1, r2, r3, r4, r5, r6, r7, r8, r9⟩ := k1'.nx p6
      have hc0 : v3.1 31 c = 23 := by rw [r9 c (by omega)]; exact hx31
      have hc1 : v3.1 31 (c + 1) = 2000 + (x : Int) := by rw [r9 (c + 1) (by omega), k4]; omega
      have hc2 : v3.1 31 (c + 2) = 1000 + y := r4
      refine ⟨PU u3 a (((x : Int) * 8 + y) * 64 + 9), v3, ?_, ?_, i + 3, a + 1, c + 3, by omega, r1.U (by omega), ((g2'.tr k2 (Nat.le_refl a)).tr r2 (Nat.le_refl a)).tr (FRh.U r1.2.2.1 (by omega) (Nat.le_refl a)) (Nat.le_refl a), (g3.tr k3 (by omega)).tr r3 (by omega), by omega, by omega, by rw [PU_ne (by decide) (by decide), r5, k5, pI_nf (by decide), g5], by rw [PU_ne (by decide) (by decide), r7, k7, pI_nf (by decide), g7], ?_, ?_, ?_, ?_⟩
      · rw [p1, bdI_s, p4]
        unfold HPt
        rw [h_putK r1.2.2.1 (by omega) (by omega) (by omega), bdI_s, boI_1]
      · rw [p2, bdI_s, cmpI_ok (by omega), if_neg (by decide), boI_1]
      · exact wo_at hx14 (by omega) PU_at hc0 hc1 hc2
      · exact ⟨9, (x : Int) * 8 + y, by omega, by omega, by omega, by omega, PU_at⟩
      · intro z hz1 hz2
        have : z = c ∨ z = c + 1 ∨ z = c + 2 := by omega
        rcases this with rfl | rfl | rfl
        · rw [hc0]; left; omega
        · rw [hc1]; left; omega
        · rw [hc2]; left; omega
      · rw [PU_ne (by decide) (by decide), r6, k6, pI_at, g6, show c + 3 - c = 0 + 1 + 1 + 1 by omega, cnL_s, cnL_s, cnL_s, Nat.add_zero, hc0, if_pos (by omega), show c + (0 + 1) = c + 1 by omega, hc1, if_neg (by omega), show c + (0 + 1 + 1) = c + 2 by omega, hc2, if_neg (by omega)]
        show _ = t.1 303 10 + (0 + 1 + 0 + 0); omega
/-- none of the words -/
theorem one_wr {fN fG : Int → St → Option (Int × St)} {fT fO : St → Option (Int × St)} (h : PXw M B e mm kp i a c t m) (hk : ¬ (14 ≤ cKd B e (ch B e i) ∧ cKd B e (ch B e i) ≤ 23) ∧ cKd B e (ch B e i) ≠ 26 ∧ cKd B e (ch B e i) ≠ 42) (hN : 5000 ≤ N) :
    SIM B e mm t m a c (RWw (WO M H) M B e mm kp i a c t m) (o_X7_readOne N fN fG t) (o_X12_whoOne N fT fO m) := by
  have hq := h.kd
  generalize hk9 : cKd B e (ch B e i) = w at *
  have hr := hq.rng
  left
  have h0 := flt_bo (flt_w (a := a) (c := c) N h.1 (f := 1) (by omega))
  have hha : o_X7_readOne N fN fG t = bdI (f_X7_wrong N 1 t) fun x y => boI x (some (x, y)) := by
    unfold o_X7_readOne
    simp only [lt1_k, jn1_k]
    rw [hq.1, cmpI_ok (by omega), if_neg (by omega), cmpI_ok (by omega), if_neg (by omega), cmpI_ok (by omega)]
    by_cases h1 : w < 14
    · rw [if_pos h1]
    · rw [if_neg h1, cmpI_ok (by omega), if_pos (by omega)]
  have hmo : o_X12_whoOne N fT fO m = bdI (f_X12_wrong N 1 m) fun x y => boI x (some (x, y)) := by
    unfold o_X12_whoOne
    rw [k_isSign hq (by unfold isSg; omega), bdI_s, if_neg (by rw [show sgi 40 = 2 from rfl]; omega), cmpI_ok (by omega), if_pos rfl]
    simp only [lt1_k, jn1_k]
    by_cases hw : w ≤ 37
    · have hm := hq.wd hw
      rw [hm.1, cmpI_ok (by omega), if_pos rfl, hm.2, rnI_ok (by omega)]
      rw [if_neg (show ¬ w = 14 by omega), if_neg (show ¬ w = 15 by omega), if_neg (show ¬ w = 16 by omega), if_neg (show ¬ w = 17 by omega), if_neg (show ¬ w = 18 by omega), if_neg (show ¬ w = 19 by omega), if_neg (show ¬ w = 20 by omega), if_neg (show ¬ w = 21 by omega), if_neg (show ¬ w = 22 by omega), if_neg (show ¬ w = 23 by omega)]
      by_cases h24 : w = 24
      · rw [if_pos h24]
      · rw [if_neg h24]
        by_cases h25 : w = 25
        · rw [if_pos h25]
        · rw [if_neg h25, if_neg (show ¬ w = 26 by omega)]
    · have hm := hq.nw (by omega)
      rw [cmpI_ok ⟨hm.2, by omega⟩, if_neg hm.1]
  rw [hha, hmo]
  exact h0
end
