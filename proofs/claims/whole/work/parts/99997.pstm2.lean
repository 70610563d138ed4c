/-! reading in lock step: statements that look -/
/-- behind a look -/
def LKq (fo : Bool) (M : St) (B : Nat → Int) (e mm H i a c : Nat) (w : Int) (t m u v : St) (i2 b d : Nat) : Prop := i < i2 ∧ PXw M B e mm 1 i2 b d u v ∧ FRh t u a ∧ FRm m v c ∧ b + i ≤ a + i2 ∧ d + i = c + i2 ∧ u.1 303 6 = t.1 303 6 ∧ (if fo = true then WW M H (u.1 363) (v.1 31) (a + 1) b (c + 1) d else ∃ fl, CW fl M H (u.1 363) (v.1 31) (a + 1) b (c + 1) d) ∧ u.1 363 a = 23 ∧ u.1 303 10 = cnL (v.1 31) (c + 1) (d - (c + 1)) ∧ (∀ x, c + 1 ≤ x → x < d → WTk (v.1 31 x)) ∧ v.1 31 c = w ∧ (a + 1 < b ∧ c + 1 < d)
theorem LKq.lk {fo : Bool} {M : St} {B : Nat → Int} {e mm H i a c : Nat} {w : Int} {t m u v : St} {i2 b d : Nat} {X : CTE} (h : LKq fo M B e mm H i a c w t m u v i2 b d) (hH : H ≤ 30) (h0 : X.cd a = (1 + cnL (v.1 31) (c + 1) (d - (c + 1))) * 64 + 23) (h1 : ∀ x, a + 1 ≤ x → x < b → X.cd x = u.1 363 x) (h2 : ∀ x, c + 1 ≤ x → x < d → X.tk x = v.1 31 x) : LKc fo M X a b (c + 1) d := by
  obtain ⟨q1, q2, q3, q4, q5, q6, q7, q8, q9, q10, q11, q12, q13⟩ := h
  refine ⟨H, hH, ?_, ?_, fun x z1 z2 => by rw [h2 x z1 z2]; exact q11 x z1 z2⟩
  · cases fo with
    | true =>
      rw [if_pos rfl] at q8 ⊢
      exact WW_c _ _ _ _ _ _ _ _ q8 h1 h2
    | false =>
      rw [if_neg (by decide)] at q8 ⊢
      obtain ⟨fl, q8⟩ := q8
      exact ⟨fl, CW_c _ _ _ _ _ _ _ _ q8 h1 h2⟩
  · rw [h0, cnL_cong (tk := X.tk) (tk2 := v.1 31) (c := c + 1) (d - (c + 1)) (fun x z1 z2 => h2 x z1 (by omega))]
section
variable {N : Nat} {M : St} {B : Nat → Int} {e mm i a c : Nat} {kp : Int} {t m : St}
theorem look_w {H : Nat} {w : Int} {fo : Bool} {fE gE KG : St → Option (Int × St)} {KF : Int → St → Option (Int × St)} {R : St → St → Prop} {t0 m0 : St} {a0 c0 : Nat} (X0 : FRh t0 t a0) (Y0 : FRm m0 m c0) (ha0 : a0 ≤ a) (hc0 : c0 ≤ c) (hN : 5000 ≤ N) (hH : H ≤ 30) (h : PXw M B e mm 1 i a c t m) (hV : a + (mm - i) ≤ 10095) (h6 : t.1 303 6 + (H : Int) = 30) (hk : cKd B e (ch B e i) = w) (hw : 0 ≤ w ∧ w ≤ 37)
    (hI : (fo = true ∧ PRd (fun _ => WW M H) (fun k => (True ∧ k ≠ 25) ∧ k ≠ 24) M B e mm 1 H fE gE) ∨ (fo = false ∧ PRd (fun fl => CW fl M H) (fun k => (True ∧ k ≠ 25) ∧ k ≠ 24) M B e mm 1 H fE gE))
    (hK : ∀ (u v : St) (i2 b d : Nat), LKq fo M B e mm H i a c w t m u v i2 b d → SIM B e mm t0 m0 a0 c0 R (KF (a : Int) u) (KG v)) :
    SIM B e mm t0 m0 a0 c0 R (bdI (f_X7_putLook N t) fun v2 t1 => bdI (f_X7_pass N t1) fun v4 t3 => cmpI v4 0 (if v4 = 0 then (boI 0 (some (0, t3))) else (bdI (fE t3) fun v6 t5 => cmpI v6 0 (if v6 = 0 then (boI 0 (some (0, t5))) else KF v2 t5))))
      (bdI (f_X12_key N w m) fun v28 t27 => cmpI v28 0 (if v28 = 0 then (boI 0 (some (0, t27))) else (bdI (gE t27) fun v30 t29 => cmpI v30 0 (if v30 = 0 then (boI 0 (some (0, t29))) else KG t29)))) := by
  have h' := h.pt (f := 10) (x := 0) (by omega)
  unfold f_X7_putLook
  simp only [lt1_k]
  rw [h_putK h'.2.2.1 (by omega) (by omega) (by omega), bdI_s, bdI_s]
  have P1 := h'.U (w := 0 * 64 + 23) (by omega)
  have x0 : FRh t (PU (pI t 303 10 0) a (0 * 64 + 23)) a := FRh.p.tr (FRh.U h'.2.2.1 (by omega) (Nat.le_refl a)) (Nat.le_refl a)
  refine SIM.bind (SIM.weak (sim_kp (N := N) (a := a + 1) (c := c) P1.1 h.kpp hk hw (by rw [P1.2.2.2.1]; exact Nat.le_refl _) hN) (X0.tr x0 ha0) Y0 (show a0 ≤ a + 1 by omega) hc0) (fun u v f3 => ?_)
  obtain ⟨g1, g2, g3, g4, g5, g6, g7, g8, g9⟩ := P1.nx f3.at1
  rw [PU_ne (by decide) (by decide), pI_nf (by decide)] at g5
  rw [PU_ne (by decide) (by decide), pI_at] at g6
  have x1 := x0.tr g2 (show a ≤ a + 1 by omega)
  have cx0 : u.1 363 a = 23 := by rw [g8, PU_at]; omega
  rcases hI with ⟨rfl, hI⟩ | ⟨rfl, hI⟩
  · refine SIM.bind (SIM.weak (hI (i + 1) (a + 1) (c + 1) u v g1 (by omega)) (X0.tr x1 ha0) (Y0.tr g3 hc0) (show a0 ≤ a + 1 by omega) (show c0 ≤ c + 1 by omega)) (fun u2 v2 hR => ?_)
    obtain ⟨fl, ⟨i2, b, d, r1, r2, r3, r4, r5, r6, r7, r8, r9, r10, r11, r12⟩, r13, r14⟩ := hR
    have hl := WW_l _ _ _ _ _ _ r9
    exact hK u2 v2 i2 b d ⟨by omega, r2, x1.tr r3 (by omega), g3.tr r4 (by omega), by omega, by omega, by omega, by rw [if_pos rfl]; exact r9, by rw [r3.1 363 a (by omega) (by omega) (by omega)]; exact cx0, by rw [r12, g6]; omega, r11, by rw [r4.1 31 c (by omega) (by omega) (by omega)]; exact g4, hl⟩
  · refine SIM.bind (SIM.weak (hI (i + 1) (a + 1) (c + 1) u v g1 (by omega)) (X0.tr x1 ha0) (Y0.tr g3 hc0) (show a0 ≤ a + 1 by omega) (show c0 ≤ c + 1 by omega)) (fun u2 v2 hR => ?_)
    obtain ⟨fl, ⟨i2, b, d, r1, r2, r3, r4, r5, r6, r7, r8, r9, r10, r11, r12⟩, r13, r14⟩ := hR
    have hl := CW_l _ _ _ _ _ _ r9
    exact hK u2 v2 i2 b d ⟨by omega, r2, x1.tr r3 (by omega), g3.tr r4 (by omega), by omega, by omega, by omega, by rw [if_neg (by decide)]; exact ⟨fl, r9⟩, by rw [r3.1 363 a (by omega) (by omega) (by omega)]; exact cx0, by rw [r12, g6]; omega, r11, by rw [r4.1 31 c (by omega) (by omega) (by omega)]; exact g4, hl⟩
/-- for -/
theorem stm_fo {H : Nat} {fB gB : St → Option (Int × St)} (hN : 5000 ≤ N) (hH : H ≤ 30) (hI : PBk M B e mm H fB gB) (h : PXw M B e mm 1 i a c t m) (hV : a + (mm - i) ≤ 10093) (h6 : t.1 303 6 + (H : Int) = 30) (hk : cKd B e (ch B e i) = 13) :
    SIM B e mm t m a c (RSs M B e mm i a c t m) (o_X7_readFor N fB t) (bdI (f_X12_key N 13 m) fun v28 t27 => cmpI v28 0 (if v28 = 0 then (boI 0 (some (0, t27))) else (bdI (f_X12_whoText N t27) fun v30 t29 => cmpI v30 0 (if v30 = 0 then (boI 0 (some (0, t29))) else (bdI (gB t29) fun v32 t31 => cmpI v32 0 (if v32 = 0 then (boI 0 (some (0, t31))) else (boI 1 (some (1, t31))))))))) := by
  unfold o_X7_readFor
  simp only [lt1_k]
  refine look_w (KF := fun v2 t5 => bdV (f_X0_patch N v2 (1 + t5.1 303 10) t5) fun t8 => bdI (f_X0_put N 27 0 t8) fun _ t9 => bdI (fB t9) fun v12 t11 => cmpI v12 0 (if v12 = 0 then (boI 0 (some (0, t11))) else (bdI (f_X0_put N 28 0 t11) fun _ t13 => boI 1 (some (1, t13))))) FRh.rf FRm.rf (Nat.le_refl a) (Nat.le_refl c) hN hH h (by omega) h6 hk (by omega) (Or.inl ⟨rfl, whom_both hN hH⟩) (fun u v i2 b d hL => ?_)
  obtain ⟨q1, q2, q3, q4, q5, q6, q7, q8, q9, q10, q11, q12, q13⟩ := hL
  have hL : LKq true M B e mm H i a c 13 t m u v i2 b d := ⟨q1, q2, q3, q4, q5, q6, q7, q8, q9, q10, q11, q12, q13⟩
  have hcn := cnL_rng (tk := v.1 31) (c := c + 1) (d - (c + 1))
  have hi2 := q2.1.2.1
  have hmm := h.1.1.2.2.2.2.2
  rw [q10, h_patch (x := 0) (kd := 23) q2.2.2.1 (by omega) (by omega) (by rw [q9]; rfl) (by omega) (by omega), bdV_s]
  generalize hcn9 : cnL (v.1 31) (c + 1) (d - (c + 1)) = cn at *
  have P1 := q2.pc (p := a) (x := (1 + cn) * 64 + 23)
  rw [h_putK P1.2.2.1 (by omega) (by omega) (by omega), bdI_s]
  have P2 := P1.U (w := 0 * 64 + 27) (by omega)
  have x1 := (q3.tr (FRh.pc (p := a) (x := (1 + cn) * 64 + 23) (Nat.le_refl a)) (Nat.le_refl a)).tr (FRh.U (b := a) (w := 0 * 64 + 27) P1.2.2.1 (by omega) (by omega)) (Nat.le_refl a)
  generalize hu3 : PU (pI u 363 a ((1 + cn) * 64 + 23)) b (0 * 64 + 27) = u3 at *
  have c0 : u3.1 363 a = (1 + cn) * 64 + 23 := by rw [← hu3, PU_nf (by omega), pI_at]
  have c1 : u3.1 363 b = 27 := by rw [← hu3, PU_at]; omega
  have c2 : ∀ x, a + 1 ≤ x → x < b → u3.1 363 x = u.1 363 x := fun x z1 z2 => by rw [← hu3, PU_nf (by omega), pI_nf (by omega)]
  have e6 : u3.1 303 6 = t.1 303 6 := by rw [← hu3, PU_ne (by decide) (by decide), pI_ne (by decide), q7]
  refine SIM.bind (SIM.weak (hI i2 (b + 1) d u3 v P2 (by omega) (by omega)) x1 q4 (show a ≤ b + 1 by omega) (show c ≤ d by omega)) (fun u4 v4 hR => ?_)
  obtain ⟨nn, i3, b3, d3, r1, r2, r3, r4, r5, r6, r7, r8, r9⟩ := hR
  have hl := SB.le _ _ _ _ _ r8
  have hi3 := r2.1.2.1
  rw [h_putK r2.2.2.1 (by omega) (by omega) (by omega), bdI_s]
  right
  have cc : ∀ x, x < b + 1 → (PU u4 b3 (0 * 64 + 28)).1 363 x = u3.1 363 x := fun x z => by rw [PU_nf (by omega), r3.1 363 x (by omega) (by omega) (by omega)]
  have tt : ∀ x, x < d → v4.1 31 x = v.1 31 x := fun x z => r4.1 31 x (by omega) (by omega) (by omega)
  refine ⟨PU u4 b3 (0 * 64 + 28), v4, by rw [boI_1], by rw [boI_1], nn, i3, b3 + 1, d3 + 1, by omega, r2.U (by omega), (x1.tr r3 (by omega)).tr (FRh.U r2.2.2.1 (by omega) (by omega)) (Nat.le_refl a), q4.tr r4 (by omega), by omega, by omega, ?_, Or.inr (Or.inr (Or.inr (Or.inr (Or.inr (Or.inr ⟨b, d, b3, d3, rfl, rfl, ?_, ?_, ?_, ?_, ?_, r9⟩)))))⟩
  · rw [PU_ne (by decide) (by decide), r7, e6]
  · refine hL.lk (X := XC (PU u4 b3 (0 * 64 + 28)) v4) hH ?_ (fun x z1 z2 => ?_) (fun x z1 z2 => tt x z2)
    · show (PU u4 b3 (0 * 64 + 28)).1 363 a = _
      rw [cc a (by omega), c0, hcn9]
    · show (PU u4 b3 (0 * 64 + 28)).1 363 x = _
      rw [cc x (by omega), c2 x z1 z2]
  · show (PU u4 b3 (0 * 64 + 28)).1 363 b = 27
    rw [cc b (by omega), c1]
  · refine SB.cg _ _ _ _ _ r8 ⟨fun y h1 h2 => ?_, fun y h1 h2 => rfl, fun y h1 h2 => rfl⟩
    show (PU u4 b3 (0 * 64 + 28)).1 363 y = u4.1 363 y
    rw [PU_nf (by omega)]
  · show (PU u4 b3 (0 * 64 + 28)).1 363 b3 = 28
    rw [PU_at]; omega
  · show v4.1 31 c = 13
    rw [tt c (by omega)]; exact q12
/-- if -/
theorem stm_if {H : Nat} {fB gB : St → Option (Int × St)} (hN : 5000 ≤ N) (hH : H ≤ 30) (hI : PBk M B e mm H fB gB) (h : PXw M B e mm 1 i a c t m) (hV : a + (mm - i) ≤ 10093) (h6 : t.1 303 6 + (H : Int) = 30) (hk : cKd B e (ch B e i) = 11) :
    SIM B e mm t m a c (RSs M B e mm i a c t m) (o_X7_readIf N fB t) (bdI (f_X12_key N 11 m) fun v12 t11 => cmpI v12 0 (if v12 = 0 then (boI 0 (some (0, t11))) else (bdI (f_X12_condition N t11) fun v14 t13 => cmpI v14 0 (if v14 = 0 then (boI 0 (some (0, t13))) else (bdI (gB t13) fun v16 t15 => cmpI v16 0 (if v16 = 0 then (boI 0 (some (0, t15))) else (bdI (f_X12_isKey N 12 t15) fun v18 t17 => cmpI v18 0 (if v18 = 0 then (boI 1 (some (1, t17))) else (bdI (f_X12_key N 12 t17) fun v20 t19 => cmpI v20 0 (if v20 = 0 then (boI 0 (some (0, t19))) else (bdI (gB t19) fun v22 t21 => cmpI v22 0 (if v22 = 0 then (boI 0 (some (0, t21))) else (boI 1 (some (1, t21))))))))))))))) := by
  unfold o_X7_readIf
  simp only [lt1_k]
  refine look_w (KF := fun v2 t5 => bdV (f_X0_patch N v2 (1 + t5.1 303 10) t5) fun t8 => bdI (f_X0_put N 25 0 t8) fun v10 t9 => bdI (fB t9) fun v12 t11 => cmpI v12 0 (if v12 = 0 then (boI 0 (some (0, t11))) else cmpI (t11.1 303 3) 12 (if t11.1 303 3 = 12 then (bdI (f_X0_put N 26 0 t11) fun v15 t14 => bdV (f_X0_patch N v10 (t14.1 302 18) t14) fun t17 => bdI (f_X7_pass N t17) fun v19 t18 => cmpI v19 0 (if v19 = 0 then (boI 0 (some (0, t18))) else (bdI (fB t18) fun v21 t20 => cmpI v21 0 (if v21 = 0 then (boI 0 (some (0, t20))) else bdV (f_X0_patch N v15 (t20.1 302 18) t20) fun t23 => boI 1 (some (1, t23)))))) else bdV (f_X0_patch N v10 (t11.1 302 18) t11) fun t25 => boI 1 (some (1, t25))))) FRh.rf FRm.rf (Nat.le_refl a) (Nat.le_refl c) hN hH h (by omega) h6 hk (by omega) (Or.inr ⟨rfl, cond_both hN hH⟩) (fun u v i2 b d hL => ?_)
  obtain ⟨q1, q2, q3, q4, q5, q6, q7, q8, q9, q10, q11, q12, q13⟩ := hL
  have hL : LKq false M B e mm H i a c 11 t m u v i2 b d := ⟨q1, q2, q3, q4, q5, q6, q7, q8, q9, q10, q11, q12, q13⟩
  have hcn := cnL_rng (tk := v.1 31) (c := c + 1) (d - (c + 1))
  have hi2 := q2.1.2.1
  have hmm := h.1.1.2.2.2.2.2
  rw [q10, h_patch (x := 0) (kd := 23) q2.2.2.1 (by omega) (by omega) (by rw [q9]; rfl) (by omega) (by omega), bdV_s]
  generalize hcn9 : cnL (v.1 31) (c + 1) (d - (c + 1)) = cn at *
  have P1 := q2.pc (p := a) (x := (1 + cn) * 64 + 23)
  rw [h_putK P1.2.2.1 (by omega) (by omega) (by omega), bdI_s]
  have P2 := P1.U (w := 0 * 64 + 25) (by omega)
  have x1 := (q3.tr (FRh.pc (p := a) (x := (1 + cn) * 64 + 23) (Nat.le_refl a)) (Nat.le_refl a)).tr (FRh.U (b := a) (w := 0 * 64 + 25) P1.2.2.1 (by omega) (by omega)) (Nat.le_refl a)
  generalize hu3 : PU (pI u 363 a ((1 + cn) * 64 + 23)) b (0 * 64 + 25) = u3 at *
  have c0 : u3.1 363 a = (1 + cn) * 64 + 23 := by rw [← hu3, PU_nf (by omega), pI_at]
  have c1 : u3.1 363 b = 0 * 64 + 25 := by rw [← hu3, PU_at]
  have c2 : ∀ x, a + 1 ≤ x → x < b → u3.1 363 x = u.1 363 x := fun x z1 z2 => by rw [← hu3, PU_nf (by omega), pI_nf (by omega)]
  have e6 : u3.1 303 6 = t.1 303 6 := by rw [← hu3, PU_ne (by decide) (by decide), pI_ne (by decide), q7]
  refine SIM.bind (SIM.weak (hI i2 (b + 1) d u3 v P2 (by omega) (by omega)) x1 q4 (show a ≤ b + 1 by omega) (show c ≤ d by omega)) (fun u4 v4 hR => ?_)
  obtain ⟨nn, i3, b3, d3, r1, r2, r3, r4, r5, r6, r7, r8, r9⟩ := hR
  have hl := SB.le _ _ _ _ _ r8
  have hi3 := r2.1.2.1
  have tt : ∀ x, x < d → v4.1 31 x = v.1 31 x := fun x z => r4.1 31 x (by omega) (by omega) (by omega)
  have cc : ∀ x, x < b + 1 → u4.1 363 x = u3.1 363 x := fun x z => r3.1 363 x (by omega) (by omega) (by omega)
  have hq := r2.kd
  generalize hk9 : cKd B e (ch B e i3) = w at *
  have hr := hq.rng
  have y1 := x1.tr r3 (show a ≤ b + 1 by omega)
  have y2 := q4.tr r4 (show c ≤ d by omega)
  rw [hq.1, cmpI_ok (show inR w ∧ inR 12 by omega), k_isKey hq (by omega), bdI_s]
  by_cases h12 : w = 12
  · rw [if_pos h12, if_pos h12, cmpI_ok (a := 1) (b := 0) (by omega), if_neg (show ¬ (1 : Int) = 0 by decide), h_putK r2.2.2.1 (by omega) (by omega) (by omega), bdI_s]
    have P3 := r2.U (w := 0 * 64 + 26) (by omega)
    rw [P3.2.2.1, h_patch (x := 0) (kd := 25) P3.2.2.1 (by omega) (by omega) (by rw [PU_nf (by omega), cc b (by omega)]; exact c1) (by omega) (by omega), bdV_s]
    have P4 := P3.pc (p := b) (x := ((b3 + 1 : Nat) : Int) * 64 + 25)
    have z1 := (y1.tr (FRh.U (b := a) (w := 0 * 64 + 26) r2.2.2.1 (by omega) (by omega)) (Nat.le_refl a)).tr (FRh.pc (b := a) (p := b) (x := ((b3 + 1 : Nat) : Int) * 64 + 25) (by omega)) (Nat.le_refl a)
    generalize hu5 : pI (PU u4 b3 (0 * 64 + 26)) 363 b (((b3 + 1 : Nat) : Int) * 64 + 25) = u5 at *
    have f0 : u5.1 363 b = ((b3 + 1 : Nat) : Int) * 64 + 25 := by rw [← hu5, pI_at]
    have f1 : u5.1 363 b3 = 0 * 64 + 26 := by rw [← hu5, pI_nf (by omega), PU_at]
    have f2 : ∀ x, x ≠ b → x ≠ b3 → u5.1 363 x = u4.1 363 x := fun x z1 z2 => by rw [← hu5, pI_nf (by omega), PU_nf (by omega)]
    have f6 : u5.1 303 6 = t.1 303 6 := by rw [← hu5, pI_ne (by decide), PU_ne (by decide) (by decide), r7, e6]
    refine SIM.bind (SIM.weak (sim_kp (N := N) (a := b3 + 1) (c := d3 + 1) P4.1 h.kpp (hk9.trans h12) (by omega) (by rw [P4.2.2.2.1]; exact Nat.le_refl _) hN) z1 y2 (show a ≤ b3 + 1 by omega) (show c ≤ d3 + 1 by omega)) (fun u6 v6 f3 => ?_)
    obtain ⟨k1, k2, k3, k4, k5, k6, k7, k8, k9⟩ := P4.nx f3.at1
    have z2 := z1.tr k2 (show a ≤ b3 + 1 by omega)
    have z3 := y2.tr k3 (show c ≤ d3 + 1 by omega)
    refine SIM.bind (SIM.weak (hI (i3 + 1) (b3 + 1) (d3 + 2) u6 v6 k1 (by omega) (by omega)) z2 z3 (show a ≤ b3 + 1 by omega) (show c ≤ d3 + 2 by omega)) (fun u7 v7 hR => ?_)
    obtain ⟨n7, i7, b7, d7, s1, s2, s3, s4, s5, s6, s7, s8, s9⟩ := hR
    have hl7 := SB.le _ _ _ _ _ s8
    have hi7 := s2.1.2.1
    have g363 : ∀ x, x < b3 + 1 → u7.1 363 x = u5.1 363 x := fun x z => by rw [s3.1 363 x (by omega) (by omega) (by omega), k8]
    have g31 : ∀ x, x < d3 + 1 → v7.1 31 x = v4.1 31 x := fun x z => by rw [s4.1 31 x (by omega) (by omega) (by omega), k9 x (by omega)]
    have g32 : ∀ x, x < d3 + 1 → v7.1 32 x = v4.1 32 x := fun x z => by rw [s4.1 32 x (by omega) (by omega) (by omega), k3.1 32 x (by omega) (by omega) (by omega)]
    rw [s2.2.2.1, h_patch (x := 0) (kd := 26) s2.2.2.1 (by omega) (by omega) (by rw [g363 b3 (by omega)]; exact f1) (by omega) (by omega), bdV_s]
    right
    have hX : ∀ x, x ≠ b3 → (pI u7 363 b3 ((b7 : Int) * 64 + 26)).1 363 x = u7.1 363 x := fun x z => pI_nf (by omega)
    refine ⟨pI u7 363 b3 ((b7 : Int) * 64 + 26), v7, by rw [boI_1], by rw [boI_1], nn + n7, i7, b7, d7 + 1, by omega, s2.pc, (z2.tr s3 (by omega)).tr (FRh.pc (by omega)) (Nat.le_refl a), z3.tr s4 (by omega), by omega, by omega, ?_, Or.inr (Or.inr (Or.inr (Or.inr (Or.inr (Or.inl ⟨b, d, b3, d3, d7, rfl, ?_, ?_, ?_, ?_, ?_, ?_, ?_, ?_, ?_⟩)))))⟩
    · rw [pI_ne (by decide), s7, k5, f6]
    · refine hL.lk (X := XC (pI u7 363 b3 ((b7 : Int) * 64 + 26)) v7) hH ?_ (fun x w1 w2 => ?_) (fun x w1 w2 => ?_)
      · show (pI u7 363 b3 ((b7 : Int) * 64 + 26)).1 363 a = _
        rw [hX a (by omega), g363 a (by omega), f2 a (by omega) (by omega), cc a (by omega), c0, hcn9]
      · show (pI u7 363 b3 ((b7 : Int) * 64 + 26)).1 363 x = _
        rw [hX x (by omega), g363 x (by omega), f2 x (by omega) (by omega), cc x (by omega), c2 x w1 w2]
      · show v7.1 31 x = _
        rw [g31 x (by omega), tt x w2]
    · show (pI u7 363 b3 ((b7 : Int) * 64 + 26)).1 363 b = _
      rw [hX b (by omega), g363 b (by omega), f0]
    · refine SB.mono (SB.cg _ _ _ _ _ r8 ⟨fun y h1 h2 => ?_, fun y h1 h2 => ?_, fun y h1 h2 => ?_⟩) (by omega)
      · show (pI u7 363 b3 ((b7 : Int) * 64 + 26)).1 363 y = u4.1 363 y
        rw [hX y (by omega), g363 y (by omega), f2 y (by omega) (by omega)]
      · show v7.1 31 y = v4.1 31 y
        exact g31 y (by omega)
      · show v7.1 32 y = v4.1 32 y
        exact g32 y (by omega)
    · show (pI u7 363 b3 ((b7 : Int) * 64 + 26)).1 363 b3 = _
      rw [pI_at]
    · show v7.1 31 c = 11
      rw [g31 c (by omega), tt c (by omega)]; exact q12
    · exact r9.cg (a := 0) (b := 0) ⟨fun x w1 w2 => by omega, fun x w1 w2 => g31 x (by omega), fun x w1 w2 => g32 x (by omega)⟩
    · show v7.1 31 (d3 + 1) = 12
      rw [s4.1 31 (d3 + 1) (by omega) (by omega) (by omega)]; exact k4
    · refine SB.mono (SB.cg _ _ _ _ _ s8 ⟨fun y h1 h2 => ?_, fun y h1 h2 => rfl, fun y h1 h2 => rfl⟩) (by omega)
      show (pI u7 363 b3 ((b7 : Int) * 64 + 26)).1 363 y = u7.1 363 y
      rw [hX y (by omega)]
    · exact s9
  · rw [if_neg h12, if_neg h12, cmpI_ok (a := 0) (b := 0) (by omega), if_pos (show (0 : Int) = 0 from rfl), r2.2.2.1, h_patch (x := 0) (kd := 25) r2.2.2.1 (by omega) (by omega) (by rw [cc b (by omega)]; exact c1) (by omega) (by omega), bdV_s]
    right
    have hX : ∀ x, x ≠ b → (pI u4 363 b ((b3 : Int) * 64 + 25)).1 363 x = u4.1 363 x := fun x z => pI_nf (by omega)
    refine ⟨pI u4 363 b ((b3 : Int) * 64 + 25), v4, by rw [boI_1], by rw [boI_1], nn, i3, b3, d3 + 1, by omega, r2.pc, y1.tr (FRh.pc (by omega)) (Nat.le_refl a), y2, by omega, by omega, ?_, Or.inr (Or.inr (Or.inr (Or.inr (Or.inl ⟨b, d, d3, rfl, ?_, ?_, ?_, ?_, r9⟩))))⟩
    · rw [pI_ne (by decide), r7, e6]
    · refine hL.lk (X := XC (pI u4 363 b ((b3 : Int) * 64 + 25)) v4) hH ?_ (fun x w1 w2 => ?_) (fun x w1 w2 => tt x w2)
      · show (pI u4 363 b ((b3 : Int) * 64 + 25)).1 363 a = _
        rw [hX a (by omega), cc a (by omega), c0, hcn9]
      · show (pI u4 363 b ((b3 : Int) * 64 + 25)).1 363 x = _
        rw [hX x (by omega), cc x (by omega), c2 x w1 w2]
    · show (pI u4 363 b ((b3 : Int) * 64 + 25)).1 363 b = _
      rw [pI_at]
    · refine SB.cg _ _ _ _ _ r8 ⟨fun y h1 h2 => ?_, fun y h1 h2 => rfl, fun y h1 h2 => rfl⟩
      show (pI u4 363 b ((b3 : Int) * 64 + 25)).1 363 y = u4.1 363 y
      rw [hX y (by omega)]
    · show v4.1 31 c = 11
      rw [tt c (by omega)]; exact q12
end
