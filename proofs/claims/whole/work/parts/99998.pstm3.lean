/-! reading in lock step: until; all statements; blocks -/
section
variable {N : Nat} {M : St} {B : Nat → Int} {e mm i a c : Nat} {kp : Int} {t m : St}
/-- until -/
theorem stm_un {H : Nat} {fB gB : St → Option (Int × St)} (hN : 5000 ≤ N) (hH : H ≤ 30) (hI : PBk M B e mm H fB gB) (h : PXw M B e mm 1 i a c t m) (hV : a + (mm - i) ≤ 10093) (h6 : t.1 303 6 + (H : Int) = 30) (hk : cKd B e (ch B e i) = 9) :
    SIM B e mm t m a c (RSs M B e mm i a c t m) (o_X7_readUntil N fB t) (bdI (f_X12_key N 9 m) fun v34 t33 => cmpI v34 0 (if v34 = 0 then (boI 0 (some (0, t33))) else (bdI (f_X12_condition N t33) fun v36 t35 => cmpI v36 0 (if v36 = 0 then (boI 0 (some (0, t35))) else (bdI (f_X12_key N 10 t35) fun v38 t37 => cmpI v38 0 (if v38 = 0 then (boI 0 (some (0, t37))) else (bdI (f_X12_number N 1 64 t37) fun v40 t39 => cmpI v40 0 (if v40 = 0 then (boI 0 (some (0, t39))) else (bdI (gB t39) fun v42 t41 => cmpI v42 0 (if v42 = 0 then (boI 0 (some (0, t41))) else (boI 1 (some (1, t41))))))))))))) := by
  unfold o_X7_readUntil
  simp only [lt1_k]
  rw [h_putK h.2.2.1 (by omega) (by omega) (by omega), bdI_s]
  have A1 := h.U (w := 0 * 64 + 20) (by omega)
  rw [h_putK A1.2.2.1 (by omega) (by omega) (by omega), bdI_s]
  have A2 := A1.U (w := 0 * 64 + 22) (by omega)
  have x0 : FRh t (PU (PU t a (0 * 64 + 20)) (a + 1) (0 * 64 + 22)) a := (FRh.U h.2.2.1 (by omega) (Nat.le_refl a)).tr (FRh.U (b := a) A1.2.2.1 (by omega) (by omega)) (Nat.le_refl a)
  generalize ht2 : PU (PU t a (0 * 64 + 20)) (a + 1) (0 * 64 + 22) = t2 at *
  have b0 : t2.1 363 a = 0 * 64 + 20 := by rw [← ht2, PU_nf (by omega), PU_at]
  have b1 : t2.1 363 (a + 1) = 0 * 64 + 22 := by rw [← ht2, PU_at]
  have b6 : t2.1 303 6 = t.1 303 6 := by rw [← ht2, PU_ne (by decide) (by decide), PU_ne (by decide) (by decide)]
  refine look_w (KF := fun v6 t9 => bdI (f_X7_take N 10 t9) fun v12 t11 => cmpI v12 0 (if v12 = 0 then (boI 0 (some (0, t11))) else (bdI (f_X7_takeNumber N 1 64 t11) fun v14 t13 => cmpI v14 0 (if v14 = 0 then (boI 0 (some (0, t13))) else (bdV (f_X0_patch N (a : Int) (t13.1 303 8) t13) fun t16 => bdV (f_X0_patch N v6 (1 + t16.1 303 10) t16) fun t18 => bdI (f_X0_put N 24 0 t18) fun v20 t19 => bdI (fB t19) fun v22 t21 => cmpI v22 0 (if v22 = 0 then (boI 0 (some (0, t21))) else (bdI (f_X0_put N 26 ((a + 1 : Nat) : Int) t21) fun _ t23 => bdV (f_X0_patch N ((a + 1 : Nat) : Int) (t23.1 302 18) t23) fun t26 => bdV (f_X0_patch N v20 (t26.1 302 18) t26) fun t28 => boI 1 (some (1, t28))))))))) x0 FRm.rf (show a ≤ a + 2 by omega) (Nat.le_refl c) hN hH A2 (by omega) (by omega) hk (by omega) (Or.inr ⟨rfl, cond_both hN hH⟩) (fun u v i2 b d hL => ?_)
  obtain ⟨q1, q2, q3, q4, q5, q6, q7, q8, q9, q10, q11, q12, q13⟩ := hL
  have hL : LKq false M B e mm H i (a + 2) c 9 t2 m u v i2 b d := ⟨q1, q2, q3, q4, q5, q6, q7, q8, q9, q10, q11, q12, q13⟩
  have hcn := cnL_rng (tk := v.1 31) (c := c + 1) (d - (c + 1))
  have hi2 := q2.1.2.1
  have hmm := h.1.1.2.2.2.2.2
  refine SIM.bind (SIM.weak (sim_key (N := N) (a := b) (c := d) (k := 10) q2.1 h.kpp (by omega) (by rw [q2.2.2.2.1]; exact Nat.le_refl _) hN) (x0.tr q3 (by omega)) q4 (show a ≤ b by omega) (show c ≤ d by omega)) (fun u3 v3 f4 => ?_)
  obtain ⟨k1, k2, k3, k4, k5, k6, k7, k8, k9⟩ := q2.nx f4.at1
  refine SIM.bind (SIM.weak (sim_num (N := N) (a := b) (c := d + 1) (lo := 1) (hi := 64) k1.1 h.kpp (by omega) (by omega) (by rw [k1.2.2.2.1]; exact Nat.le_refl _) hN) ((x0.tr q3 (by omega)).tr k2 (by omega)) (q4.tr k3 (by omega)) (show a ≤ b by omega) (show c ≤ d + 1 by omega)) (fun u4 v4 f5 => ?_)
  obtain ⟨n, p3, p4, p5, p6⟩ := f5
  obtain ⟨l1, l2, l3, l4, l5, l6, l7, l8, l9⟩ := k1.nx p6
  have hi4 := l1.1.2.1
  have o0 : ∀ x, u4.1 363 x = u.1 363 x := fun x => by rw [l8, k8]
  have o1 : u4.1 363 a = 0 * 64 + 20 := by rw [o0, q3.1 363 a (by omega) (by omega) (by omega)]; exact b0
  have o2 : u4.1 363 (a + 1) = 0 * 64 + 22 := by rw [o0, q3.1 363 (a + 1) (by omega) (by omega) (by omega)]; exact b1
  have o3 : u4.1 363 (a + 2) = 0 * 64 + 23 := by rw [o0, q9]; rfl
  rw [p4, h_patch (x := 0) (kd := 20) l1.2.2.1 (by omega) (by omega) o1 (by omega) (by omega), bdV_s, pI_ne (show (303 : Nat) ≠ 363 by decide), l6, k6, q10]
  generalize hcn9 : cnL (v.1 31) (c + 1) (d - (c + 1)) = cn at *
  have P1 := l1.pc (p := a) (x := n * 64 + 20)
  rw [h_patch (x := 0) (kd := 23) P1.2.2.1 (by omega) (by omega) (by rw [pI_nf (by omega)]; exact o3) (by omega) (by omega), bdV_s]
  have P2 := P1.pc (p := a + 2) (x := (1 + cn) * 64 + 23)
  rw [h_putK P2.2.2.1 (by omega) (by omega) (by omega), bdI_s]
  have P3 := P2.U (w := 0 * 64 + 24) (by omega)
  have xl : FRh t u4 a := ((x0.tr q3 (by omega)).tr k2 (by omega)).tr l2 (by omega)
  have x1 := ((xl.tr (FRh.pc (b := a) (p := a) (x := n * 64 + 20) (Nat.le_refl a)) (Nat.le_refl a)).tr (FRh.pc (b := a) (p := a + 2) (x := (1 + cn) * 64 + 23) (by omega)) (Nat.le_refl a)).tr (FRh.U (b := a) (w := 0 * 64 + 24) P2.2.2.1 (by omega) (by omega)) (Nat.le_refl a)
  have x2 := (q4.tr k3 (show c ≤ d by omega)).tr l3 (show c ≤ d + 1 by omega)
  generalize hu5 : PU (pI (pI u4 363 a (n * 64 + 20)) 363 (a + 2) ((1 + cn) * 64 + 23)) b (0 * 64 + 24) = u5 at *
  have c0 : u5.1 363 a = n * 64 + 20 := by rw [← hu5, PU_nf (by omega), pI_nf (by omega), pI_at]
  have c1 : u5.1 363 (a + 1) = 0 * 64 + 22 := by rw [← hu5, PU_nf (by omega), pI_nf (by omega), pI_nf (by omega)]; exact o2
  have c2 : u5.1 363 (a + 2) = (1 + cn) * 64 + 23 := by rw [← hu5, PU_nf (by omega), pI_at]
  have c3 : ∀ x, a + 3 ≤ x → x < b → u5.1 363 x = u.1 363 x := fun x z1 z2 => by rw [← hu5, PU_nf (by omega), pI_nf (by omega), pI_nf (by omega), o0]
  have c4 : u5.1 363 b = 0 * 64 + 24 := by rw [← hu5, PU_at]
  have e6 : u5.1 303 6 = t.1 303 6 := by rw [← hu5, PU_ne (by decide) (by decide), pI_ne (by decide), pI_ne (by decide), l5, k5, q7, b6]
  refine SIM.bind (SIM.weak (hI (i2 + 2) (b + 1) (d + 2) u5 v4 P3 (by omega) (by omega)) x1 x2 (show a ≤ b + 1 by omega) (show c ≤ d + 2 by omega)) (fun u7 v7 hR => ?_)
  obtain ⟨nn, i3, b3, d3, r1, r2, r3, r4, r5, r6, r7, r8, r9⟩ := hR
  have hl := SB.le _ _ _ _ _ r8
  have hi3 := r2.1.2.1
  rw [h_putK r2.2.2.1 (by omega) (by omega) (by omega), bdI_s]
  have P4 := r2.U (w := ((a + 1 : Nat) : Int) * 64 + 26) (by omega)
  have cc : ∀ x, x < b + 1 → (PU u7 b3 (((a + 1 : Nat) : Int) * 64 + 26)).1 363 x = u5.1 363 x := fun x z => by rw [PU_nf (by omega), r3.1 363 x (by omega) (by omega) (by omega)]
  rw [P4.2.2.1, h_patch (x := 0) (kd := 22) P4.2.2.1 (by omega) (by omega) (by rw [cc (a + 1) (by omega)]; exact c1) (by omega) (by omega), bdV_s]
  have P5 := P4.pc (p := a + 1) (x := ((b3 + 1 : Nat) : Int) * 64 + 22)
  rw [P5.2.2.1, h_patch (x := 0) (kd := 24) P5.2.2.1 (by omega) (by omega) (by rw [pI_nf (by omega), cc b (by omega)]; exact c4) (by omega) (by omega), bdV_s, boI_1]
  have P6 := P5.pc (p := b) (x := ((b3 + 1 : Nat) : Int) * 64 + 24)
  have x6 := (((x1.tr r3 (by omega)).tr (FRh.U (b := a) (w := ((a + 1 : Nat) : Int) * 64 + 26) r2.2.2.1 (by omega) (by omega)) (Nat.le_refl a)).tr (FRh.pc (b := a) (p := a + 1) (x := ((b3 + 1 : Nat) : Int) * 64 + 22) (by omega)) (Nat.le_refl a)).tr (FRh.pc (b := a) (p := b) (x := ((b3 + 1 : Nat) : Int) * 64 + 24) (by omega)) (Nat.le_refl a)
  generalize hu8 : pI (pI (PU u7 b3 (((a + 1 : Nat) : Int) * 64 + 26)) 363 (a + 1) (((b3 + 1 : Nat) : Int) * 64 + 22)) 363 b (((b3 + 1 : Nat) : Int) * 64 + 24) = u8 at *
  have d0 : u8.1 363 a = n * 64 + 20 := by rw [← hu8, pI_nf (by omega), pI_nf (by omega), cc a (by omega)]; exact c0
  have d1 : u8.1 363 (a + 1) = ((b3 + 1 : Nat) : Int) * 64 + 22 := by rw [← hu8, pI_nf (by omega), pI_at]
  have d2 : u8.1 363 (a + 2) = (1 + cn) * 64 + 23 := by rw [← hu8, pI_nf (by omega), pI_nf (by omega), cc (a + 2) (by omega)]; exact c2
  have d3' : ∀ x, a + 3 ≤ x → x < b → u8.1 363 x = u.1 363 x := fun x z1 z2 => by rw [← hu8, pI_nf (by omega), pI_nf (by omega), cc x (by omega)]; exact c3 x z1 z2
  have d4 : u8.1 363 b = ((b3 + 1 : Nat) : Int) * 64 + 24 := by rw [← hu8, pI_at]
  have d5 : u8.1 363 b3 = ((a + 1 : Nat) : Int) * 64 + 26 := by rw [← hu8, pI_nf (by omega), pI_nf (by omega), PU_at]
  have d6 : ∀ x, b + 1 ≤ x → x < b3 → u8.1 363 x = u7.1 363 x := fun x z1 z2 => by rw [← hu8, pI_nf (by omega), pI_nf (by omega), PU_nf (by omega)]
  have d7 : u8.1 303 6 = t.1 303 6 := by rw [← hu8, pI_ne (by decide), pI_ne (by decide), PU_ne (by decide) (by decide), r7, e6]
  have tt : ∀ x, x < d → v7.1 31 x = v.1 31 x := fun x z => by rw [r4.1 31 x (by omega) (by omega) (by omega), l9 x (by omega), k9 x (by omega)]
  right
  refine ⟨u8, v7, rfl, by rw [boI_1], nn, i3, b3 + 1, d3 + 1, by omega, P6, x6, x2.tr r4 (by omega), by omega, by omega, d7, Or.inr (Or.inr (Or.inr (Or.inl ⟨n, b, d, b3, d3, by omega, by omega, rfl, rfl, d0, d1, ?_, d4, ?_, d5, ?_, ?_, ?_, r9⟩)))⟩
  · exact hL.lk (X := XC u8 v7) hH (by rw [hcn9]; exact d2) (fun x z1 z2 => d3' x z1 z2) (fun x z1 z2 => tt x z2)
  · exact SB.cg _ _ _ _ _ r8 ⟨fun y h1 h2 => d6 y h1 h2, fun y h1 h2 => rfl, fun y h1 h2 => rfl⟩
  · show v7.1 31 c = 9
    rw [tt c (by omega)]; exact q12
  · show v7.1 31 d = 10
    rw [r4.1 31 d (by omega) (by omega) (by omega), l9 d (by omega)]; exact k4
  · show v7.1 31 (d + 1) = 1000 + n
    rw [r4.1 31 (d + 1) (by omega) (by omega) (by omega)]; exact l4
/-- a statement -/
theorem stm_both {H : Nat} {fB gB : St → Option (Int × St)} (hN : 5000 ≤ N) (hH : H ≤ 30) (hM15 : M.1 200 15 ≤ 100) (hI : PBk M B e mm H fB gB) : PSs M B e mm H (o_X7_readStatement N (o_X7_readRepeat N fB) (o_X7_readUntil N fB) (o_X7_readIf N fB) (o_X7_readFor N fB)) (o_X12_statement N gB) := by
  intro i a c t m h hV h6
  have hq := h.kd
  generalize hk9 : cKd B e (ch B e i) = w at *
  have hr := hq.rng
  have hst := stm_st hN hH hM15 h hV h6
  unfold o_X7_readStatement o_X12_statement
  rw [lt1_k, hq.1, rnI_ok (by omega), k_isKey hq (by omega), bdI_s]
  by_cases w7 : w = 7
  · rw [if_pos w7, if_pos w7, cmpI_ok (by omega), if_neg (by decide)]
    exact (stm_do hN h hV (by omega)).bh
  rw [if_neg w7, if_neg w7, cmpI_ok (by omega), if_pos rfl, k_isKey hq (by omega), bdI_s]
  by_cases w8 : w = 8
  · rw [if_pos w8, if_pos w8, cmpI_ok (by omega), if_neg (by decide)]
    exact (stm_re hN hI h hV h6 (by omega)).bh
  rw [if_neg w8, if_neg w8, cmpI_ok (by omega), if_pos rfl, k_isKey hq (by omega), bdI_s]
  by_cases w9 : w = 9
  · rw [if_pos w9, if_pos w9, cmpI_ok (by omega), if_neg (by decide)]
    exact (stm_un hN hH hI h hV h6 (by omega)).bh
  rw [if_neg w9, if_neg w9, cmpI_ok (by omega), if_pos rfl, k_isKey hq (by omega), bdI_s]
  by_cases w13 : w = 13
  · rw [if_neg (show ¬ w = 10 by omega), if_neg (show ¬ w = 11 by omega), if_neg (show ¬ w = 12 by omega), if_pos w13, if_pos w13, cmpI_ok (by omega), if_neg (by decide)]
    exact (stm_fo hN hH hI h hV h6 (by omega)).bh
  rw [if_neg w13, if_neg w13, cmpI_ok (by omega), if_pos rfl, k_isKey hq (by omega), bdI_s]
  by_cases w11 : w = 11
  · rw [if_neg (show ¬ w = 10 by omega), if_pos w11, if_pos w11, cmpI_ok (by omega), if_neg (by decide)]
    exact (stm_if hN hH hI h hV h6 (by omega)).bh
  rw [if_neg w11, if_neg w11, cmpI_ok (by omega), if_pos rfl]
  by_cases w10 : w = 10
  · rw [if_pos w10]; exact hst
  rw [if_neg w10]
  by_cases w12 : w = 12
  · rw [if_pos w12]; exact hst
  rw [if_neg w12]
  exact hst
theorem blk_all (hN : 5000 ≤ N) (hM15 : M.1 200 15 ≤ 100) : ∀ H D DM : Nat, H ≤ 30 → 3 * H + 1 ≤ D → 2 * H + 1 ≤ DM → PBk M B e mm H (rec_readBlock N D).1 (rec_block N DM).1 := by
  intro H
  induction H with
  | zero =>
    intro D DM hH hD hM
    obtain ⟨D, rfl⟩ : ∃ k, D = k + 1 := ⟨D - 1, by omega⟩
    obtain ⟨DM, rfl⟩ : ∃ k, DM = k + 1 := ⟨DM - 1, by omega⟩
    exact blk_both (fS := (rec_readBlock N D).2.1) (fM := (rec_block N DM).2) hN (fun H2 q => by omega)
  | succ H ih =>
    intro D DM hH hD hM
    obtain ⟨D, rfl⟩ : ∃ k, D = k + 3 := ⟨D - 3, by omega⟩
    obtain ⟨DM, rfl⟩ : ∃ k, DM = k + 2 := ⟨DM - 2, by omega⟩
    have i1 := ih D DM (by omega) (by omega) (by omega)
    have i2 := stm_both hN (by omega) hM15 i1
    exact blk_both (fS := (rec_readBlock N (D + 2)).2.1) (fM := (rec_block N (DM + 1)).2) hN (fun H2 q => by cases q; exact i2)
/-- a block, as a part has it -/
theorem part_block (hN : 5000 ≤ N) (hM15 : M.1 200 15 ≤ 100) : PBk M B e mm 30 (f_X7_readBlock N) (f_X12_block N) := blk_all hN hM15 30 200 100 (by omega) (by omega) (by omega)
theorem call_stm (hN : 5000 ≤ N) (hM15 : M.1 200 15 ≤ 100) : PSs M B e mm 30 (f_X7_readStatement N) (f_X12_statement N) :=
  stm_both hN (by omega) hM15 (blk_all hN hM15 30 198 99 (by omega) (by omega) (by omega))
end
