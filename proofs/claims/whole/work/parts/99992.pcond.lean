/-! reading in lock step: a condition -/
section
variable {N : Nat} {M : St} {B : Nat → Int} {e mm i a c H : Nat} {kp : Int} {t m : St}
theorem PXw.nxU {as w : Int} {u v : St} (h : PXw M B e mm kp i a c t m) (hlt : i < mm) (g : AT1 B e mm kp i as (PU t a w) m u v) : PXw M B e mm kp (i + 1) (a + 1) (c + 1) u v ∧ FRh t u a ∧ FRm m v c ∧ v.1 31 c = as ∧ u.1 303 6 = t.1 303 6 ∧ u.1 303 10 = t.1 303 10 ∧ u.1 303 11 = t.1 303 11 ∧ u.1 363 = (PU t a w).1 363 ∧ (∀ x, x ≠ c → v.1 31 x = m.1 31 x) := by
  obtain ⟨h1, h2, h3, h4, h5, h6, h7⟩ := h
  obtain ⟨g1, g2, g3, g4⟩ := g
  have hk : kp ≠ 0 := by omega
  have f0 : FRh t (PU t a w) a := FRh.U h3 (by omega) (Nat.le_refl a)
  have f1 : FRh (PU t a w) u a := FRh.h g2
  have f2 : FRm m v c := FRm.h g3 (by omega)
  have g4 := g4 hk
  have f3 := f0.tr f1 (Nat.le_refl a)
  exact ⟨⟨g1, h2.fr f3 f2, by rw [g2.1 302 18 (by omega) (by omega), PU_18], by rw [g4.2, h4], h5, h6.fr f3 f2, by omega⟩, f3, f2, by rw [← h4]; exact g4.1, by rw [g2.1 303 6 (by omega) (by omega), PU_ne (by decide) (by decide)], by rw [g2.1 303 10 (by omega) (by omega), PU_ne (by decide) (by decide)], by rw [g2.1 303 11 (by omega) (by omega), PU_ne (by decide) (by decide)], funext fun x => g2.1 363 x (by omega) (by omega), fun x hx => g3.1 31 x (by omega) (by omega)⟩
/-- home -/
theorem co_27 (h : PXw M B e mm kp i a c t m) (hk : cKd B e (ch B e i) = 27) (hN : 5000 ≤ N) :
    SIM B e mm t m a c (RWy (fun fl => CO fl M H) (fun _ => True) M B e mm kp i a c t m) (bdI (f_X0_put N 13 0 t) fun _ t4 => bdI (f_X7_pass N t4) fun v7 t6 => boI v7 (some (v7, t6))) (bdI (f_X12_takes N 27 m) fun v28 t27 => boI v28 (some (v28, t27))) := by
  have hlt := tq_lt h.1 (by omega)
  have hV := h.2.2.2.2.2.2
  rw [h_putK h.2.2.1 (by omega) (by omega) (by omega), bdI_s]
  refine sim_bo ((SIM.weak (sim_pass (N := N) (a := a) (c := c) (as := 27) (h.1.U (a := a) (w := 0 * 64 + 13)) h.kpp hlt (by rw [h.2.2.2.1]; exact Nat.le_refl _) hN) (FRh.U h.2.2.1 (by omega) (Nat.le_refl a)) FRm.rf (Nat.le_refl a) (Nat.le_refl c)).mono (fun u v f3 => ?_))
  obtain ⟨g1, g2, g3, g4, g5, g6, g7, g8, g9⟩ := h.nxU hlt f3.at1
  refine ⟨true, ⟨i + 1, a + 1, c + 1, by omega, g1, g2, g3, by omega, by omega, g5, g7, ?_, ?_, wt_one (by rw [g4]; left; omega), ?_⟩, Or.inl rfl, trivial⟩
  · exact co_home (by rw [g8, PU_at]; omega) g4
  · exact ⟨13, 0, by omega, by omega, by omega, by omega, by rw [g8, PU_at]⟩
  · rw [g6, cnL_1, g4, if_neg (by omega)]; omega
/-- so many of them -/
theorem co_28 {fE : St → Option (Int × St)} {fT : St → Option (Int × St)} {Y : Int → Prop} (h : PXw M B e mm kp i a c t m) (h6 : t.1 303 6 + (H : Int) = 30) (hk : cKd B e (ch B e i) = 28) (hN : 5000 ≤ N) (hI : PRd (fun _ => WW M H) Y M B e mm kp H fE fT) :
    SIM B e mm t m a c (RWy (fun fl => CO fl M H) (fun _ => True) M B e mm kp i a c t m)
      (bdI (f_X7_pass N t) fun v9 t8 => cmpI v9 0 (if v9 = 0 then (boI 0 (some (0, t8))) else (bdI (fE t8) fun v11 t10 => cmpI v11 0 (if v11 = 0 then (boI 0 (some (0, t10))) else (bdI (f_X7_take N 29 t10) fun v13 t12 => cmpI v13 0 (if v13 = 0 then (boI 0 (some (0, t12))) else (bdI (f_X7_takeNumber N 0 64 t12) fun v15 t14 => cmpI v15 0 (if v15 = 0 then (boI 0 (some (0, t14))) else (bdI (f_X0_put N 14 (t14.1 303 8) t14) fun _ t17 => boI 1 (some (1, t17)))))))))))
      (bdI (f_X12_takes N 28 m) fun v20 t19 => cmpI v20 0 (if v20 = 0 then (boI 0 (some (0, t19))) else (bdI (fT t19) fun v22 t21 => cmpI v22 0 (if v22 = 0 then (boI 0 (some (0, t21))) else (bdI (f_X12_key N 29 t21) fun v24 t23 => cmpI v24 0 (if v24 = 0 then (boI 0 (some (0, t23))) else (bdI (f_X12_number N 0 64 t23) fun v26 t25 => cmpI v26 0 (if v26 = 0 then (boI 0 (some (0, t25))) else (boI 1 (some (1, t25))))))))))) := by
  have hlt := tq_lt h.1 (by omega)
  have hV := h.2.2.2.2.2.2
  refine SIM.bind (sim_pass (N := N) (a := a) (c := c) (as := 28) h.1 h.kpp hlt (by rw [h.2.2.2.1]; exact Nat.le_refl _) hN) (fun u v f3 => ?_)
  obtain ⟨g1, g2, g3, g4, g5, g6, g7, g8, g9⟩ := h.nx f3.at1
  refine SIM.bind (SIM.weak (hI (i + 1) a (c + 1) u v g1 (by omega)) g2 g3 (Nat.le_refl a) (by omega)) (fun u2 v2 hR => ?_)
  obtain ⟨fl, ⟨i2, b, d, r1, r2, r3, r4, r5, r6, r7, r8, r9, r10, r11, r12⟩, r13, r14⟩ := hR
  have hab := WW_l _ _ _ _ _ _ r9
  have x1 := g2.tr r3 (Nat.le_refl a)
  have x2 := g3.tr r4 (show c ≤ c + 1 by omega)
  refine SIM.bind (SIM.weak (sim_key (N := N) (a := b) (c := d) (k := 29) r2.1 h.kpp (by omega) (by rw [r2.2.2.2.1]; exact Nat.le_refl _) hN) x1 x2 (show a ≤ b by omega) (show c ≤ d by omega)) (fun u3 v3 f4 => ?_)
  obtain ⟨k1, k2, k3, k4, k5, k6, k7, k8, k9⟩ := r2.nx f4.at1
  have x3 := x1.tr k2 (show a ≤ b by omega)
  have x4 := x2.tr k3 (show c ≤ d by omega)
  refine SIM.bind (SIM.weak (sim_num (N := N) (a := b) (c := d + 1) (lo := 0) (hi := 64) k1.1 h.kpp (by omega) (by omega) (by rw [k1.2.2.2.1]; exact Nat.le_refl _) hN) x3 x4 (show a ≤ b by omega) (show c ≤ d + 1 by omega)) (fun u4 v4 f5 => ?_)
  obtain ⟨x, q3, q4, q5, q6⟩ := f5
  obtain ⟨l1, l2, l3, l4, l5, l6, l7, l8, l9⟩ := k1.nx q6
  have hi4 := l1.1.2.1
  right
  have w0 : v4.1 31 c = 28 := by rw [l9 c (by omega), k9 c (by omega), r4.1 31 c (by omega) (by omega) (by omega)]; exact g4
  have w1 : v4.1 31 d = 29 := by rw [l9 d (by omega)]; exact k4
  have w2 : ∀ y, y < d → v4.1 31 y = v2.1 31 y := fun y hy => by rw [l9 y (by omega), k9 y (by omega)]
  have w3 : ∀ y, u4.1 363 y = u2.1 363 y := fun y => by rw [l8, k8]
  refine ⟨PU u4 b (x * 64 + 14), v4, by rw [q4, h_putK l1.2.2.1 (by omega) (by omega) (by omega), bdI_s, boI_1], by rw [boI_1], true, ⟨i2 + 2, b + 1, d + 2, by omega, l1.U (by omega), (x3.tr l2 (by omega)).tr (FRh.U l1.2.2.1 (by omega) (by omega)) (Nat.le_refl a), x4.tr l3 (by omega), by omega, by omega, by rw [PU_ne (by decide) (by decide), l5, k5, r7, g5], by rw [PU_ne (by decide) (by decide), l7, k7, r8, g7], ?_, ?_, ?_, ?_⟩, Or.inl rfl, trivial⟩
  · exact co_count (v := x) (by omega) (WW_c _ _ _ _ _ _ _ _ r9 (fun y h1 h2 => by rw [PU_nf (by omega), w3]) (fun y h1 h2 => w2 y h2)) PU_at w0 w1 l4
  · obtain ⟨kd, vl, p1, p2, p3, p4, p5⟩ := r10
    exact ⟨kd, vl, p1, p2, p3, p4, by rw [PU_nf (by omega), w3]; exact p5⟩
  · intro y h1 h2
    by_cases hyc : y = c
    · rw [hyc, w0]; left; omega
    · by_cases hyd : y < d
      · rw [w2 y hyd]; exact r11 y (by omega) hyd
      · by_cases hyd2 : y = d
        · rw [hyd2, w1]; left; omega
        · rw [show y = d + 1 by omega, l4]; left; omega
  · rw [PU_ne (by decide) (by decide), l6, k6, r12, g6, cnL_sp (show c ≤ c + 1 by omega) (show c + 1 ≤ d + 2 by omega), cnL_sp (show c + 1 ≤ d by omega) (show d ≤ d + 2 by omega), cnL_sp (show d ≤ d + 1 by omega) (show d + 1 ≤ d + 2 by omega), cnL_1, cnL_1, show d + 2 = d + 1 + 1 by omega, cnL_1, w0, w1, l4, if_neg (by omega), if_neg (by omega), if_neg (by omega), cnL_cong (tk := v4.1 31) (tk2 := v2.1 31) (c := c + 1) (d - (c + 1)) (fun x h1 h2 => w2 x (by omega))]
    omega
/-- a form -/
theorem co_30 {fE : St → Option (Int × St)} {fT : St → Option (Int × St)} (h : PXw M B e mm kp i a c t m) (h6 : t.1 303 6 + (H : Int) = 30) (hk : cKd B e (ch B e i) = 30) (hN : 5000 ≤ N) (hI : PRd (fun _ => WW M H) (fun k => (True ∧ k ≠ 25) ∧ k ≠ 24) M B e mm kp H fE fT) :
    SIM B e mm t m a c (RWy (fun fl => CO fl M H) (fun _ => True) M B e mm kp i a c t m)
      (bdI (f_X7_pass N (pI t 303 10 (t.1 303 10 + 1))) fun v4 t3 => cmpI v4 0 (if v4 = 0 then (boI 0 (some (0, t3))) else (bdI (f_X7_takeKnown N 0 t3) fun v6 t5 => cmpI v6 0 (if v6 = 0 then (boI 0 (some (0, t5))) else (bdI (fE t5) fun v9 t8 => cmpI v9 0 (if v9 = 0 then (boI 0 (some (0, t8))) else (bdI (f_X0_put N 15 (t5.1 303 9) t8) fun _ t10 => boI 1 (some (1, t10)))))))))
      (bdI (f_X12_takes N 30 m) fun v14 t13 => cmpI v14 0 (if v14 = 0 then (boI 0 (some (0, t13))) else (bdI (f_X12_knownName N 0 t13) fun v16 t15 => cmpI v16 0 (if v16 = 0 then (boI 0 (some (0, t15))) else (bdI (fT t15) fun v18 t17 => cmpI v18 0 (if v18 = 0 then (boI 0 (some (0, t17))) else (boI 1 (some (1, t17))))))))) := by
  have hlt := tq_lt h.1 (by omega)
  have hV := h.2.2.2.2.2.2
  have h' := h.pt (f := 10) (x := t.1 303 10 + 1) (by omega)
  refine SIM.bind (SIM.weak (sim_pass (N := N) (a := a) (c := c) (as := 30) h'.1 h.kpp hlt (by rw [h.2.2.2.1]; exact Nat.le_refl _) hN) FRh.p FRm.rf (Nat.le_refl a) (Nat.le_refl c)) (fun u v f3 => ?_)
  obtain ⟨g1, g2, g3, g4, g5, g6, g7, g8, g9⟩ := h'.nx f3.at1
  have g2 := FRh.p.tr g2 (Nat.le_refl a)
  rw [pI_nf (by decide)] at g5 g7
  rw [pI_at] at g6
  refine SIM.bind (SIM.weak (sim_known (N := N) (a := a) (c := c + 1) (o := 0) g1.1 g1.2.1 (by omega) h.kpp (by rw [g1.2.2.2.1]; exact Nat.le_refl _) hN) g2 g3 (Nat.le_refl a) (show c ≤ c + 1 by omega)) (fun u2 v2 f4 => ?_)
  obtain ⟨x, q3, q4, q5, q6⟩ := f4
  have hb := g1.2.2.2.2.2.1
  have hx14 : (x : Int) < M.1 200 14 := by
    have : u.1 312 2 = M.1 200 14 := hb.2.1.1
    have e9 : (312 + 0 : Nat) = 312 := rfl
    rw [e9] at q3
    omega
  have h40 := hb.2.2.1
  obtain ⟨k1, k2, k3, k4, k5, k6, k7, k8, k9⟩ := g1.nx q6
  have x1 := g2.tr k2 (Nat.le_refl a)
  have x2 := g3.tr k3 (show c ≤ c + 1 by omega)
  refine SIM.bind (SIM.weak (hI (i + 2) a (c + 2) u2 v2 k1 (by omega)) x1 x2 (Nat.le_refl a) (show c ≤ c + 2 by omega)) (fun u3 v3 hR => ?_)
  obtain ⟨fl, ⟨i2, b, d, r1, r2, r3, r4, r5, r6, r7, r8, r9, r10, r11, r12⟩, r13, r14⟩ := hR
  have hab := WW_l _ _ _ _ _ _ r9
  have hi2 := r2.1.2.1
  right
  have w0 : v3.1 31 c = 30 := by rw [r4.1 31 c (by omega) (by omega) (by omega), k9 c (by omega)]; exact g4
  have w1 : v3.1 31 (c + 1) = 2000 + (x : Int) := by rw [r4.1 31 (c + 1) (by omega) (by omega) (by omega), k4]; omega
  refine ⟨PU u3 b ((x : Int) * 64 + 15), v3, by rw [q4, h_putK r2.2.2.1 (by omega) (by omega) (by omega), bdI_s, boI_1], by rw [boI_1], false, ⟨i2, b + 1, d, by omega, r2.U (by omega), (x1.tr r3 (Nat.le_refl a)).tr (FRh.U r2.2.2.1 (by omega) (by omega)) (Nat.le_refl a), x2.tr r4 (by omega), by omega, by omega, by rw [PU_ne (by decide) (by decide), r7, k5, g5], by rw [PU_ne (by decide) (by decide), r8, k7, g7], ?_, ?_, ?_, ?_⟩, ?_, trivial⟩
  · exact co_forms hx14 (WW_c _ _ _ _ _ _ _ _ r9 (fun y h1 h2 => by rw [PU_nf (by omega)]) (fun y h1 h2 => rfl)) PU_at w0 w1
  · obtain ⟨kd, vl, p1, p2, p3, p4, p5⟩ := r10
    exact ⟨kd, vl, p1, p2, p3, p4, by rw [PU_nf (by omega)]; exact p5⟩
  · intro y h1 h2
    by_cases hyc : y = c
    · rw [hyc, w0]; left; omega
    · by_cases hyd : y = c + 1
      · rw [hyd, w1]; left; omega
      · exact r11 y (by omega) h2
  · rw [PU_ne (by decide) (by decide), r12, k6, g6, cnL_sp (show c ≤ c + 1 by omega) (show c + 1 ≤ d by omega), cnL_sp (show c + 1 ≤ c + 1 + 1 by omega) (show c + 1 + 1 ≤ d by omega), cnL_1, cnL_1, w0, w1, if_pos (by omega), if_neg (by omega), show c + 1 + 1 = c + 2 from rfl]
    omega
  · right
    rw [PU_ne (by decide) (by decide)]
    exact ⟨r14.2, r14.1.2⟩
theorem cond_one {H D DM : Nat} {Y : Int → Prop} (hN : 5000 ≤ N) (hH : H ≤ 30)
    (h1 : ∀ H2, H = H2 + 1 → PRd (fun fl => CO fl M H2) (fun _ => True) M B e mm kp H2 ((rec_readEither N D).2.2.1 1) (rec_condition N DM).2.2)
    (h2 : ∀ H2, H = H2 + 1 → PRd (fun fl => CW fl M H2) Y M B e mm kp H2 ((rec_readEither N D).1 1) (rec_condition N DM).1)
    (hW1 : PRd (fun _ => WW M H) (fun k => (True ∧ k ≠ 25) ∧ k ≠ 24) M B e mm kp H ((rec_readEither N (D + 1)).1 0) (f_X12_whoText N)) (hW2 : PRd (fun _ => WW M H) (fun k => (True ∧ k ≠ 25) ∧ k ≠ 24) M B e mm kp H ((rec_readEither N D).1 0) (f_X12_whoText N)) :
    PRd (fun fl => CO fl M H) (fun _ => True) M B e mm kp H (rec_readEither N (D + 2)).2.2.2.2.1 (rec_condition N (DM + 1)).2.2 := by
  intro i a c t m h h6
  have hq := h.kd
  have e1 : (rec_readEither N (D + 2)).2.2.2.2.1 t = o_X7_readTest N (o_X7_readNot N (rec_readEither N D).2.2.1) (o_X7_readGroup N (rec_readEither N D).1) (rec_readEither N (D + 1)).1 (o_X7_readForms N (rec_readEither N D).1) t := rfl
  have e2 : (rec_condition N (DM + 1)).2.2 m = o_X12_conditionOne N (rec_condition N DM).1 (rec_condition N DM).2.2 m := rfl
  rw [e1, e2]
  have hr := hq.rng
  generalize hk9 : cKd B e (ch B e i) = w at *
  have hH1 : o_X7_readTest N (o_X7_readNot N (rec_readEither N D).2.2.1) (o_X7_readGroup N (rec_readEither N D).1) (rec_readEither N (D + 1)).1 (o_X7_readForms N (rec_readEither N D).1) t =
      (if w = 26 then (bdI (o_X7_readNot N (rec_readEither N D).2.2.1 1 t) fun x y => boI x (some (x, y)))
      else if w = 27 then (bdI (f_X0_put N 13 0 t) fun _ t4 => bdI (f_X7_pass N t4) fun v7 t6 => boI v7 (some (v7, t6)))
      else if w = 28 then (bdI (f_X7_pass N t) fun v9 t8 => cmpI v9 0 (if v9 = 0 then (boI 0 (some (0, t8))) else (bdI ((rec_readEither N (D + 1)).1 0 t8) fun v11 t10 => cmpI v11 0 (if v11 = 0 then (boI 0 (some (0, t10))) else (bdI (f_X7_take N 29 t10) fun v13 t12 => cmpI v13 0 (if v13 = 0 then (boI 0 (some (0, t12))) else (bdI (f_X7_takeNumber N 0 64 t12) fun v15 t14 => cmpI v15 0 (if v15 = 0 then (boI 0 (some (0, t14))) else (bdI (f_X0_put N 14 (t14.1 303 8) t14) fun _ t17 => boI 1 (some (1, t17)))))))))))
      else if w = 30 then (bdI (o_X7_readForms N (rec_readEither N D).1 t) fun x y => boI x (some (x, y)))
      else if w = 42 then (bdI (o_X7_readGroup N (rec_readEither N D).1 1 t) fun x y => boI x (some (x, y)))
      else (bdI (f_X7_wrong N 1 t) fun x y => boI x (some (x, y)))) := by
    unfold o_X7_readTest
    rw [lt1_k, hq.1, rnI_ok (by omega)]
    rfl
  have hM1 : o_X12_conditionOne N (rec_condition N DM).1 (rec_condition N DM).2.2 m =
      (if w = 42 then (bdI (f_X12_opensBy N 40 m) fun v68 t67 => cmpI v68 0 (if v68 = 0 then (boI 0 (some (0, t67))) else (bdI ((rec_condition N DM).1 t67) fun v70 t69 => cmpI v70 0 (if v70 = 0 then (boI 0 (some (0, t69))) else (bdI (f_X12_closesBy N 41 t69) fun v72 t71 => cmpI v72 0 (if v72 = 0 then (boI 0 (some (0, t71))) else (boI 1 (some (1, t71)))))))))
      else if w = 26 then (bdI (f_X12_opens N 26 m) fun v58 t57 => cmpI v58 0 (if v58 = 0 then (boI 0 (some (0, t57))) else (bdI ((rec_condition N DM).2.2 t57) fun v60 t59 => cmpI v60 0 (if v60 = 0 then (boI 0 (some (0, t59))) else boI 1 (some (1, pI t59 200 35 (t59.1 200 35 - 1)))))))
      else if w = 27 then (bdI (f_X12_takes N 27 m) fun v28 t27 => boI v28 (some (v28, t27)))
      else if w = 28 then (bdI (f_X12_takes N 28 m) fun v20 t19 => cmpI v20 0 (if v20 = 0 then (boI 0 (some (0, t19))) else (bdI (f_X12_whoText N t19) fun v22 t21 => cmpI v22 0 (if v22 = 0 then (boI 0 (some (0, t21))) else (bdI (f_X12_key N 29 t21) fun v24 t23 => cmpI v24 0 (if v24 = 0 then (boI 0 (some (0, t23))) else (bdI (f_X12_number N 0 64 t23) fun v26 t25 => cmpI v26 0 (if v26 = 0 then (boI 0 (some (0, t25))) else (boI 1 (some (1, t25)))))))))))
      else if w = 30 then (bdI (f_X12_takes N 30 m) fun v14 t13 => cmpI v14 0 (if v14 = 0 then (boI 0 (some (0, t13))) else (bdI (f_X12_knownName N 0 t13) fun v16 t15 => cmpI v16 0 (if v16 = 0 then (boI 0 (some (0, t15))) else (bdI (f_X12_whoText N t15) fun v18 t17 => cmpI v18 0 (if v18 = 0 then (boI 0 (some (0, t17))) else (boI 1 (some (1, t17)))))))))
      else (bdI (f_X12_wrong N 1 m) fun x y => boI x (some (x, y)))) := by
    unfold o_X12_conditionOne
    rw [k_isSign hq (by unfold isSg; omega), bdI_s, show (40 : Int) + sgi 40 = 42 from rfl]
    by_cases w42 : w = 42
    · rw [if_pos w42, if_pos w42, cmpI_ok (by omega), if_neg (by decide)]
    rw [if_neg w42, if_neg w42, cmpI_ok (by omega), if_pos rfl, k_isKey hq (by omega), bdI_s]
    by_cases w26 : w = 26
    · rw [if_pos w26, if_pos w26, cmpI_ok (by omega), if_neg (by decide)]
      rfl
    rw [if_neg w26, if_neg w26, cmpI_ok (by omega), if_pos rfl, k_isKey hq (by omega), bdI_s]
    by_cases w27 : w = 27
    · rw [if_pos w27, if_pos w27, cmpI_ok (by omega), if_neg (by decide)]
    rw [if_neg w27, if_neg w27, cmpI_ok (by omega), if_pos rfl, k_isKey hq (by omega), bdI_s]
    by_cases w28 : w = 28
    · rw [if_pos w28, if_pos w28, cmpI_ok (by omega), if_neg (by decide)]
    rw [if_neg w28, if_neg w28, cmpI_ok (by omega), if_pos rfl, k_isKey hq (by omega), bdI_s]
    by_cases w30 : w = 30
    · rw [if_pos w30, if_pos w30, cmpI_ok (by omega), if_neg (by decide)]
    rw [if_neg w30, if_neg w30, cmpI_ok (by omega), if_pos rfl]
  rw [hH1, hM1]
  by_cases w42 : w = 42
  · rw [if_neg (show ¬ w = 26 by omega), if_neg (show ¬ w = 27 by omega), if_neg (show ¬ w = 28 by omega), if_neg (show ¬ w = 30 by omega), if_pos w42, if_pos w42]
    have hnt := pd_gr (X := fun fl => match H with | 0 => CW fl M 0 | H2 + 1 => CW fl M H2) (X2 := CO true M H) (Y := Y) (fE := (rec_readEither N D).1) (fT := (rec_condition N DM).1) (a0 := 1) h h6 (by omega) hN (fun H2 hH => by subst hH; exact h2 H2 rfl) (fun _ => by cases H <;> exact CW_l) (fun _ => by cases H <;> exact CW_c) (fun _ cd tk a b c d h0 hX q1 q2 => by
      cases H with
      | zero => omega
      | succ H2 => exact co_gr hX q1 q2)
    exact hnt.bh.mono (fun u v q => ⟨true, q, Or.inl rfl, trivial⟩)
  by_cases w26 : w = 26
  · rw [if_pos w26, if_neg w42, if_pos w26]
    have hnt := pd_not (X := fun fl => match H with | 0 => CO fl M 0 | H2 + 1 => CO fl M H2) (X2 := fun fl => CO fl M H) (fS := (rec_readEither N D).2.2.1) (fO := (rec_condition N DM).2.2) (a0 := 1) (pc := 16) h h6 (by omega) (by omega) hN (fun H2 hH => by subst hH; exact h1 H2 rfl) (fun _ => by cases H <;> exact CO_l) (fun _ => by cases H <;> exact CO_c) (fun _ cd tk a b c d h0 hX q1 q2 => by
      cases H with
      | zero => omega
      | succ H2 => exact co_not hX q1 q2)
    exact hnt.bh
  by_cases w27 : w = 27
  · rw [if_neg w26, if_pos w27, if_neg w42, if_neg w26, if_pos w27]
    exact co_27 h (by omega) hN
  by_cases w28 : w = 28
  · rw [if_neg w26, if_neg w27, if_pos w28, if_neg w42, if_neg w26, if_neg w27, if_pos w28]
    exact co_28 h h6 (by omega) hN hW1
  by_cases w30 : w = 30
  · rw [if_neg w26, if_neg w27, if_neg w28, if_pos w30, if_neg w42, if_neg w26, if_neg w27, if_neg w28, if_pos w30]
    exact (co_30 h h6 (by omega) hN hW2).bh
  · rw [if_neg w26, if_neg w27, if_neg w28, if_neg w30, if_neg w42, if_neg w42, if_neg w26, if_neg w27, if_neg w28, if_neg w30]
    exact Or.inl (flt_bo (flt_w N h.1 (by omega)))
theorem cond_all (hN : 5000 ≤ N) : ∀ H D DM : Nat, H ≤ 30 → 5 * H + 7 ≤ D → 3 * H + 1 ≤ DM →
    PRd (fun fl => CO fl M H) (fun _ => True) M B e mm kp H ((rec_readEither N (D + 1)).2.2.1 1) (rec_condition N DM).2.2 ∧
    PRd (fun fl => CW fl M H) (fun k => (True ∧ k ≠ 25) ∧ k ≠ 24) M B e mm kp H ((rec_readEither N (D + 3)).1 1) (rec_condition N (DM + 2)).1 := by
  intro H
  induction H with
  | zero =>
    intro D DM hH hD hM
    obtain ⟨D, rfl⟩ : ∃ k, D = k + 2 := ⟨D - 2, by omega⟩
    obtain ⟨DM, rfl⟩ : ∃ k, DM = k + 1 := ⟨DM - 1, by omega⟩
    have a1 : PRd (fun fl => CO fl M 0) (fun _ => True) M B e mm kp 0 (rec_readEither N (D + 2)).2.2.2.2.1 (rec_condition N (DM + 1)).2.2 := cond_one (Y := fun _ => True) hN hH (fun H2 q => by omega) (fun H2 q => by omega) (who_both (DM := 100) hN (by omega) (by omega)) (who_both (DM := 100) hN (by omega) (by omega))
    have a2 : PRd (fun fl => CO fl M 0) (fun _ => True) M B e mm kp 0 ((rec_readEither N (D + 2 + 1)).2.2.1 1) (rec_condition N (DM + 1)).2.2 := a1.si1 (N := N) (fO := (rec_readEither N (D + 2)).2.2.2.1)
    have a3 : PRd (fun fl => CA fl M 0) (fun k => True ∧ k ≠ 25) M B e mm kp 0 ((rec_readEither N (D + 2 + 2)).2.1 1) (rec_condition N (DM + 1 + 1)).2.1 := pd_ch (LH := fun n x t => o_X7_readBoth_L12 N (rec_readEither N (D + 2 + 1)).2.2.1 (fun (t14 : St) => boI 1 (some (1, t14))) 1 n x t) (LM := fun n t => o_X12_conditionAnd_L9 N (rec_condition N (DM + 1)).2.2 (fun (t11 : St) => boI 1 (some (1, t11))) n t) (w := 25) (pc := 10) (by omega) hN (fun n x t => rfl) (fun n t => rfl) a2 (fun _ => CO_l) (fun _ => CA_l) (fun _ => CO_c) (fun _ => CA_c) (fun _ cd tk a b c d b2 d2 q1 q2 q3 q4 => ca_and q1 q2 q3 q4) (fun _ cd tk a b c d q => ca_one q)
    exact ⟨a2, pd_ch (LH := fun n x t => o_X7_readEither_L12 N (rec_readEither N (D + 2 + 2)).2.1 (fun (t14 : St) => boI 1 (some (1, t14))) 1 n x t) (LM := fun n t => o_X12_condition_L9 N (rec_condition N (DM + 1 + 1)).2.1 (fun (t11 : St) => boI 1 (some (1, t11))) n t) (w := 24) (pc := 11) (by omega) hN (fun n x t => rfl) (fun n t => rfl) a3 (fun _ => CA_l) (fun _ => CW_l) (fun _ => CA_c) (fun _ => CW_c) (fun _ cd tk a b c d b2 d2 q1 q2 q3 q4 => cw_or q1 q2 q3 q4) (fun _ cd tk a b c d q => cw_one q)⟩
  | succ H ih =>
    intro D DM hH hD hM
    obtain ⟨D, rfl⟩ : ∃ k, D = k + 2 := ⟨D - 2, by omega⟩
    obtain ⟨DM, rfl⟩ : ∃ k, DM = k + 1 := ⟨DM - 1, by omega⟩
    have i1 := (ih (D - 1) DM (by omega) (by omega) (by omega)).1
    have i2 := (ih (D - 3) (DM - 2) (by omega) (by omega) (by omega)).2
    rw [show D - 1 + 1 = D by omega] at i1
    rw [show D - 3 + 3 = D by omega, show DM - 2 + 2 = DM by omega] at i2
    have a1 : PRd (fun fl => CO fl M (H + 1)) (fun _ => True) M B e mm kp (H + 1) (rec_readEither N (D + 2)).2.2.2.2.1 (rec_condition N (DM + 1)).2.2 := cond_one hN hH (fun H2 q => by cases q; exact i1) (fun H2 q => by cases q; exact i2) (who_both (DM := 100) hN (by omega) (by omega)) (who_both (DM := 100) hN (by omega) (by omega))
    have a2 : PRd (fun fl => CO fl M (H + 1)) (fun _ => True) M B e mm kp (H + 1) ((rec_readEither N (D + 2 + 1)).2.2.1 1) (rec_condition N (DM + 1)).2.2 := a1.si1 (N := N) (fO := (rec_readEither N (D + 2)).2.2.2.1)
    have a3 : PRd (fun fl => CA fl M (H + 1)) (fun k => True ∧ k ≠ 25) M B e mm kp (H + 1) ((rec_readEither N (D + 2 + 2)).2.1 1) (rec_condition N (DM + 1 + 1)).2.1 := pd_ch (LH := fun n x t => o_X7_readBoth_L12 N (rec_readEither N (D + 2 + 1)).2.2.1 (fun (t14 : St) => boI 1 (some (1, t14))) 1 n x t) (LM := fun n t => o_X12_conditionAnd_L9 N (rec_condition N (DM + 1)).2.2 (fun (t11 : St) => boI 1 (some (1, t11))) n t) (w := 25) (pc := 10) (by omega) hN (fun n x t => rfl) (fun n t => rfl) a2 (fun _ => CO_l) (fun _ => CA_l) (fun _ => CO_c) (fun _ => CA_c) (fun _ cd tk a b c d b2 d2 q1 q2 q3 q4 => ca_and q1 q2 q3 q4) (fun _ cd tk a b c d q => ca_one q)
    exact ⟨a2, pd_ch (LH := fun n x t => o_X7_readEither_L12 N (rec_readEither N (D + 2 + 2)).2.1 (fun (t14 : St) => boI 1 (some (1, t14))) 1 n x t) (LM := fun n t => o_X12_condition_L9 N (rec_condition N (DM + 1 + 1)).2.1 (fun (t11 : St) => boI 1 (some (1, t11))) n t) (w := 24) (pc := 11) (by omega) hN (fun n x t => rfl) (fun n t => rfl) a3 (fun _ => CA_l) (fun _ => CW_l) (fun _ => CA_c) (fun _ => CW_c) (fun _ cd tk a b c d b2 d2 q1 q2 q3 q4 => cw_or q1 q2 q3 q4) (fun _ cd tk a b c d q => cw_one q)⟩
/-- a condition; a WHO -/
theorem cond_both {H : Nat} (hN : 5000 ≤ N) (hH : H ≤ 30) : PRd (fun fl => CW fl M H) (fun k => (True ∧ k ≠ 25) ∧ k ≠ 24) M B e mm kp H (f_X7_readEither N 1) (f_X12_condition N) :=
  (cond_all (M := M) (B := B) (e := e) (mm := mm) (kp := kp) hN H 197 98 hH (by omega) (by omega)).2
theorem whom_both {H : Nat} (hN : 5000 ≤ N) (hH : H ≤ 30) : PRd (fun _ => WW M H) (fun k => (True ∧ k ≠ 25) ∧ k ≠ 24) M B e mm kp H (f_X7_readEither N 0) (f_X12_whoText N) := who_both (D := 200) (DM := 100) hN (by omega) (by omega)
end
