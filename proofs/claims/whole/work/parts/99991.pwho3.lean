/-! reading in lock step: a WHO -/
theorem agC.cg {t : St} {cd cd2 : Nat → Int} {a b : Nat} (h : agC t cd2 a b) (g : ∀ x, a ≤ x → x < b → cd2 x = cd x) : agC t cd a b := ⟨fun x h1 h2 => (h.1 x h1 h2).trans (g x h1 h2), h.2⟩
theorem agT.cg {t : St} {cd cd2 : Nat → Int} {a b : Nat} (h : agT t cd2 a b) (g : ∀ x, a ≤ x → x < b → cd2 x = cd x) : agT t cd a b := ⟨fun x h1 h2 => (h.1 x h1 h2).trans (g x h1 h2), h.2⟩
theorem WO_c {M : St} {H : Nat} : CTc (WO M H) := fun cd tk cd2 tk2 a b c d h g1 g2 => ⟨h.1, h.2.1, fun N o n D t m s top hX hC hT hr hD ht ht2 => h.2.2 N o n D t m s top hX (hC.cg g1) (hT.cg g2) hr hD ht ht2⟩
theorem WA_c {M : St} {H : Nat} : CTc (WA M H) := fun cd tk cd2 tk2 a b c d h g1 g2 => ⟨h.1, h.2.1, fun N o n D t m s top hX hC hT hr hD ht ht2 => h.2.2 N o n D t m s top hX (hC.cg g1) (hT.cg g2) hr hD ht ht2⟩
theorem WW_c {M : St} {H : Nat} : CTc (WW M H) := fun cd tk cd2 tk2 a b c d h g1 g2 => ⟨h.1, h.2.1, fun N o n D t m s top hX hC hT hr q1 q2 hD ht ht2 => h.2.2 N o n D t m s top hX (hC.cg g1) (hT.cg g2) hr q1 q2 hD ht ht2⟩
theorem CO_c {fl : Bool} {M : St} {H : Nat} : CTc (CO fl M H) := fun cd tk cd2 tk2 a b c d h g1 g2 => ⟨h.1, h.2.1, fun N o n D t m s top hX hC hT hr q1 hD ht ht2 q2 => h.2.2 N o n D t m s top hX (hC.cg g1) (hT.cg g2) hr q1 hD ht ht2 q2⟩
theorem CA_c {fl : Bool} {M : St} {H : Nat} : CTc (CA fl M H) := fun cd tk cd2 tk2 a b c d h g1 g2 => ⟨h.1, h.2.1, fun N o n D t m s top hX hC hT hr q1 hD ht ht2 q2 => h.2.2 N o n D t m s top hX (hC.cg g1) (hT.cg g2) hr q1 hD ht ht2 q2⟩
theorem CW_c {fl : Bool} {M : St} {H : Nat} : CTc (CW fl M H) := fun cd tk cd2 tk2 a b c d h g1 g2 => ⟨h.1, h.2.1, fun N o n D t m s top hX hC hT hr q1 q3 q4 hD ht ht2 q2 => h.2.2 N o n D t m s top hX (hC.cg g1) (hT.cg g2) hr q1 q3 q4 hD ht ht2 q2⟩
theorem WO_l {M : St} {H : Nat} : CTl (WO M H) := fun _ _ _ _ _ _ h => ⟨h.1, h.2.1⟩
theorem WA_l {M : St} {H : Nat} : CTl (WA M H) := fun _ _ _ _ _ _ h => ⟨h.1, h.2.1⟩
theorem WW_l {M : St} {H : Nat} : CTl (WW M H) := fun _ _ _ _ _ _ h => ⟨h.1, h.2.1⟩
theorem CO_l {fl : Bool} {M : St} {H : Nat} : CTl (CO fl M H) := fun _ _ _ _ _ _ h => ⟨h.1, h.2.1⟩
theorem CA_l {fl : Bool} {M : St} {H : Nat} : CTl (CA fl M H) := fun _ _ _ _ _ _ h => ⟨h.1, h.2.1⟩
theorem CW_l {fl : Bool} {M : St} {H : Nat} : CTl (CW fl M H) := fun _ _ _ _ _ _ h => ⟨h.1, h.2.1⟩
section
variable {N : Nat} {M : St} {B : Nat → Int} {e mm : Nat} {kp : Int}
/-- one, and a chain behind it -/
theorem pd_ch {X1 X2 : Bool → CTR} {Y : Int → Prop} {H : Nat} {LH : Nat → Int → St → Option (Int × St)} {LM : Nat → St → Option (Int × St)} {fH fM : St → Option (Int × St)} {w pc : Int} (hw : (w = 24 ∧ pc = 11) ∨ (w = 25 ∧ pc = 10)) (hN : 5000 ≤ N)
    (hLH : ∀ n x t, LH (n + 1) x t = cmpI x 4096 (if x < 4096 then (lt1 (t.1 303 3) fun v7 => cmpI v7 w (if v7 = w then (bdI (f_X7_pass N t) fun v9 t8 => cmpI v9 0 (if v9 = 0 then (boI 0 (some (0, t8))) else (bdI (fH t8) fun v11 t10 => cmpI v11 0 (if v11 = 0 then (boI 0 (some (0, t10))) else (bdI (f_X0_put N pc 0 t10) fun _ t12 => LH n (x + 1) t12))))) else boI 1 (some (1, t)))) else boI 1 (some (1, t))))
    (hLM : ∀ n t, LM (n + 1) t = bdI (f_X12_isKey N w t) fun v6 t5 => cmpI v6 0 (if v6 = 0 then boI 1 (some (1, t5)) else (bdI (f_X12_key N w t5) fun v8 t7 => cmpI v8 0 (if v8 = 0 then (boI 0 (some (0, t7))) else (bdI (fM t7) fun v10 t9 => cmpI v10 0 (if v10 = 0 then (boI 0 (some (0, t9))) else LM n t9))))))
    (hI : PRd X1 Y M B e mm kp H fH fM) (hl1 : ∀ fl, CTl (X1 fl)) (hl2 : ∀ fl, CTl (X2 fl)) (hc1 : ∀ fl, CTc (X1 fl)) (hc2 : ∀ fl, CTc (X2 fl))
    (hj : ∀ (fl : Bool) (cd tk : Nat → Int) (a b c d b2 d2 : Nat), X2 true cd tk a b c d → X1 fl cd tk b b2 (d + 1) d2 → cd b2 = pc → tk d = w → X2 fl cd tk a (b2 + 1) c d2)
    (hb : ∀ (fl : Bool) (cd tk : Nat → Int) (a b c d : Nat), X1 fl cd tk a b c d → X2 fl cd tk a b c d) :
    PRd X2 (fun k => Y k ∧ k ≠ w) M B e mm kp H (fun t => bdI (fH t) fun v2 t1 => cmpI v2 0 (if v2 = 0 then (boI 0 (some (0, t1))) else LH N 0 t1)) (fun m => bdI (fM m) fun v2 t1 => cmpI v2 0 (if v2 = 0 then (boI 0 (some (0, t1))) else LM N t1)) := by
  intro i a c t m h h6
  refine SIM.bind (hI i a c t m h h6) (fun u v hR => ?_)
  obtain ⟨fl, ⟨i2, b, d, r1, r2, r3, r4, r5, r6, r7, r8, r9, r10, r11, r12⟩, r13, r14⟩ := hR
  have hmm := h.1.1.2.2.2.2.2
  exact pd_lp (i := i) (a := a) (c := c) (t := t) (m := m) hw hN hLH hLM hI hl1 hl2 hc1 hc2 hj h h6 (mm - i2) N N 0 i2 b d fl u v (Nat.le_refl _) (by omega) (by omega) (by omega) r1 r2 r3 r4 r5 r6 r7 r8 (hb fl _ _ _ _ _ _ r9) r10 r11 r12 r13 r14
theorem RWw.y {X : CTR} {i a c : Nat} {t m u v : St} (h : RWw X M B e mm kp i a c t m u v) : RWy (fun _ => X) (fun _ => True) M B e mm kp i a c t m u v := ⟨true, h, Or.inl rfl, trivial⟩
theorem who_one {H D DM : Nat} {Y : Int → Prop} (hN : 5000 ≤ N)
    (h1 : ∀ H2, H = H2 + 1 → PRd (fun _ => WO M H2) (fun _ => True) M B e mm kp H2 ((rec_readEither N D).2.2.1 0) (rec_whoText N DM).2.2)
    (h2 : ∀ H2, H = H2 + 1 → PRd (fun _ => WW M H2) Y M B e mm kp H2 ((rec_readEither N D).1 0) (rec_whoText N DM).1) :
    PRd (fun _ => WO M H) (fun _ => True) M B e mm kp H (rec_readEither N (D + 2)).2.2.2.1 (rec_whoText N (DM + 1)).2.2 := by
  intro i a c t m h h6
  have hq := h.kd
  have e1 : (rec_readEither N (D + 2)).2.2.2.1 t = o_X7_readOne N (o_X7_readNot N (rec_readEither N D).2.2.1) (o_X7_readGroup N (rec_readEither N D).1) t := rfl
  have e2 : (rec_whoText N (DM + 1)).2.2 m = o_X12_whoOne N (rec_whoText N DM).1 (rec_whoText N DM).2.2 m := rfl
  rw [e1, e2]
  by_cases k1 : 14 ≤ cKd B e (ch B e i) ∧ cKd B e (ch B e i) ≤ 18
  · exact (one_pl h k1 rfl hN).mono (fun u v q => q.y)
  by_cases k2 : cKd B e (ch B e i) = 19
  · exact (one_2 (w := 19) (hi := 31) h (by omega) k2 hN).mono (fun u v q => q.y)
  by_cases k3 : cKd B e (ch B e i) = 20
  · exact (one_2 (w := 20) (hi := 63) h (by omega) k3 hN).mono (fun u v q => q.y)
  by_cases k4 : cKd B e (ch B e i) = 21
  · exact (one_fa h k4 hN).mono (fun u v q => q.y)
  by_cases k5 : cKd B e (ch B e i) = 22
  · exact (one_in h k5 hN).mono (fun u v q => q.y)
  by_cases k6 : cKd B e (ch B e i) = 23
  · exact (one_at h k6 hN).mono (fun u v q => q.y)
  by_cases k7 : cKd B e (ch B e i) = 26
  · have hnt := pd_not (X := fun _ => match H with | 0 => WO M 0 | H2 + 1 => WO M H2) (X2 := fun _ => WO M H) (fS := (rec_readEither N D).2.2.1) (fO := (rec_whoText N DM).2.2) (a0 := 0) (pc := 12) h h6 k7 (by omega) hN (fun H2 hH => by subst hH; exact h1 H2 rfl) (fun _ => by cases H <;> exact WO_l) (fun _ => by cases H <;> exact WO_c) (fun _ cd tk a b c d h0 hX q1 q2 => by
      cases H with
      | zero => omega
      | succ H2 => exact wo_not hX q1 q2)
    rw [k7] at hq
    have hha : o_X7_readOne N (o_X7_readNot N (rec_readEither N D).2.2.1) (o_X7_readGroup N (rec_readEither N D).1) t = bdI (o_X7_readNot N (rec_readEither N D).2.2.1 0 t) fun x y => boI x (some (x, y)) := by
      unfold o_X7_readOne
      rw [lt1_k, hq.1, cmpI_ok (by omega), if_pos rfl]
    have hmo : o_X12_whoOne N (rec_whoText N DM).1 (rec_whoText N DM).2.2 m = (bdI (f_X12_opens N 26 m) fun v58 t57 => cmpI v58 0 (if v58 = 0 then (boI 0 (some (0, t57))) else (bdI ((rec_whoText N DM).2.2 t57) fun v60 t59 => cmpI v60 0 (if v60 = 0 then (boI 0 (some (0, t59))) else boI 1 (some (1, pI t59 200 35 (t59.1 200 35 - 1))))))) := by
      have hmk := hq.wd (by omega)
      unfold o_X12_whoOne
      rw [k_isSign hq (by unfold isSg; omega), bdI_s, if_neg (by rw [show sgi 40 = 2 from rfl]; omega), cmpI_ok (by omega), if_pos rfl]
      simp only [lt1_k, jn1_k]
      rw [hmk.1, cmpI_ok (by omega), if_pos rfl, hmk.2, rnI_ok (by omega)]
      rfl
    rw [hha, hmo]
    exact hnt.bh
  by_cases k8 : cKd B e (ch B e i) = 42
  · have hnt := pd_gr (X := fun _ => match H with | 0 => WW M 0 | H2 + 1 => WW M H2) (X2 := WO M H) (Y := Y) (fE := (rec_readEither N D).1) (fT := (rec_whoText N DM).1) (a0 := 0) h h6 k8 hN (fun H2 hH => by subst hH; exact h2 H2 rfl) (fun _ => by cases H <;> exact WW_l) (fun _ => by cases H <;> exact WW_c) (fun _ cd tk a b c d h0 hX q1 q2 => by
      cases H with
      | zero => omega
      | succ H2 => exact wo_gr hX q1 q2)
    rw [k8] at hq
    have hha : o_X7_readOne N (o_X7_readNot N (rec_readEither N D).2.2.1) (o_X7_readGroup N (rec_readEither N D).1) t = bdI (o_X7_readGroup N (rec_readEither N D).1 0 t) fun x y => boI x (some (x, y)) := by
      unfold o_X7_readOne
      rw [lt1_k, hq.1, cmpI_ok (by omega), if_neg (by decide), cmpI_ok (by omega), if_pos rfl]
    have hmo : o_X12_whoOne N (rec_whoText N DM).1 (rec_whoText N DM).2.2 m = (bdI (f_X12_opensBy N 40 m) fun v68 t67 => cmpI v68 0 (if v68 = 0 then (boI 0 (some (0, t67))) else (bdI ((rec_whoText N DM).1 t67) fun v70 t69 => cmpI v70 0 (if v70 = 0 then (boI 0 (some (0, t69))) else (bdI (f_X12_closesBy N 41 t69) fun v72 t71 => cmpI v72 0 (if v72 = 0 then (boI 0 (some (0, t71))) else (boI 1 (some (1, t71))))))))) := by
      unfold o_X12_whoOne
      rw [k_isSign hq (by unfold isSg; omega), bdI_s, if_pos (by rw [show sgi 40 = 2 from rfl]; omega), cmpI_ok (by omega), if_neg (by decide)]
    rw [hha, hmo]
    exact hnt.bh.mono (fun u v q => q.y)
  · exact (one_wr h (by omega) hN).mono (fun u v q => q.y)
theorem PRd.si {X : Bool → CTR} {Y : Int → Prop} {H : Nat} {fT fO fM : St → Option (Int × St)} (h : PRd X Y M B e mm kp H fO fM) : PRd X Y M B e mm kp H (o_X7_readSingle N fT fO 0) fM := by
  intro i a c t m h1 h2
  unfold o_X7_readSingle
  rw [cmpI_ok (by omega), if_pos rfl]
  exact (h i a c t m h1 h2).bh
theorem PRd.si1 {X : Bool → CTR} {Y : Int → Prop} {H : Nat} {fT fO fM : St → Option (Int × St)} (h : PRd X Y M B e mm kp H fT fM) : PRd X Y M B e mm kp H (o_X7_readSingle N fT fO 1) fM := by
  intro i a c t m h1 h2
  unfold o_X7_readSingle
  rw [cmpI_ok (by omega), if_neg (by decide)]
  exact (h i a c t m h1 h2).bh
theorem who_all (hN : 5000 ≤ N) : ∀ H D DM : Nat, 5 * H + 2 ≤ D → 3 * H + 1 ≤ DM →
    PRd (fun _ => WO M H) (fun _ => True) M B e mm kp H (rec_readEither N D).2.2.2.1 (rec_whoText N DM).2.2 ∧
    PRd (fun _ => WO M H) (fun _ => True) M B e mm kp H ((rec_readEither N (D + 1)).2.2.1 0) (rec_whoText N DM).2.2 ∧
    PRd (fun _ => WA M H) (fun k => True ∧ k ≠ 25) M B e mm kp H ((rec_readEither N (D + 2)).2.1 0) (rec_whoText N (DM + 1)).2.1 ∧
    PRd (fun _ => WW M H) (fun k => (True ∧ k ≠ 25) ∧ k ≠ 24) M B e mm kp H ((rec_readEither N (D + 3)).1 0) (rec_whoText N (DM + 2)).1 := by
  intro H
  induction H with
  | zero =>
    intro D DM hD hM
    obtain ⟨D, rfl⟩ : ∃ k, D = k + 2 := ⟨D - 2, by omega⟩
    obtain ⟨DM, rfl⟩ : ∃ k, DM = k + 1 := ⟨DM - 1, by omega⟩
    have a1 : PRd (fun _ => WO M 0) (fun _ => True) M B e mm kp 0 (rec_readEither N (D + 2)).2.2.2.1 (rec_whoText N (DM + 1)).2.2 := who_one (Y := fun _ => True) hN (fun H2 q => by omega) (fun H2 q => by omega)
    have a2 : PRd (fun _ => WO M 0) (fun _ => True) M B e mm kp 0 ((rec_readEither N (D + 2 + 1)).2.2.1 0) (rec_whoText N (DM + 1)).2.2 := a1.si (N := N) (fT := (rec_readEither N (D + 2)).2.2.2.2.1)
    have a3 : PRd (fun _ => WA M 0) (fun k => True ∧ k ≠ 25) M B e mm kp 0 ((rec_readEither N (D + 2 + 2)).2.1 0) (rec_whoText N (DM + 1 + 1)).2.1 := pd_ch (LH := fun n x t => o_X7_readBoth_L12 N (rec_readEither N (D + 2 + 1)).2.2.1 (fun (t14 : St) => boI 1 (some (1, t14))) 0 n x t) (LM := fun n t => o_X12_whoAnd_L9 N (rec_whoText N (DM + 1)).2.2 (fun (t11 : St) => boI 1 (some (1, t11))) n t) (w := 25) (pc := 10) (by omega) hN (fun n x t => rfl) (fun n t => rfl) a2 (fun _ => WO_l) (fun _ => WA_l) (fun _ => WO_c) (fun _ => WA_c) (fun _ cd tk a b c d b2 d2 q1 q2 q3 q4 => wa_and q1 q2 q3 q4) (fun _ cd tk a b c d q => wa_one q)
    exact ⟨a1, a2, a3, pd_ch (LH := fun n x t => o_X7_readEither_L12 N (rec_readEither N (D + 2 + 2)).2.1 (fun (t14 : St) => boI 1 (some (1, t14))) 0 n x t) (LM := fun n t => o_X12_whoText_L9 N (rec_whoText N (DM + 1 + 1)).2.1 (fun (t11 : St) => boI 1 (some (1, t11))) n t) (w := 24) (pc := 11) (by omega) hN (fun n x t => rfl) (fun n t => rfl) a3 (fun _ => WA_l) (fun _ => WW_l) (fun _ => WA_c) (fun _ => WW_c) (fun _ cd tk a b c d b2 d2 q1 q2 q3 q4 => ww_or q1 q2 q3 q4) (fun _ cd tk a b c d q => ww_one q)⟩
  | succ H ih =>
    intro D DM hD hM
    obtain ⟨D, rfl⟩ : ∃ k, D = k + 2 := ⟨D - 2, by omega⟩
    obtain ⟨DM, rfl⟩ : ∃ k, DM = k + 1 := ⟨DM - 1, by omega⟩
    have i1 := (ih (D - 1) DM (by omega) (by omega)).2.1
    have i2 := (ih (D - 3) (DM - 2) (by omega) (by omega)).2.2.2
    rw [show D - 1 + 1 = D by omega] at i1
    rw [show D - 3 + 3 = D by omega, show DM - 2 + 2 = DM by omega] at i2
    have a1 : PRd (fun _ => WO M (H + 1)) (fun _ => True) M B e mm kp (H + 1) (rec_readEither N (D + 2)).2.2.2.1 (rec_whoText N (DM + 1)).2.2 := who_one hN (fun H2 q => by cases q; exact i1) (fun H2 q => by cases q; exact i2)
    have a2 : PRd (fun _ => WO M (H + 1)) (fun _ => True) M B e mm kp (H + 1) ((rec_readEither N (D + 2 + 1)).2.2.1 0) (rec_whoText N (DM + 1)).2.2 := a1.si (N := N) (fT := (rec_readEither N (D + 2)).2.2.2.2.1)
    have a3 : PRd (fun _ => WA M (H + 1)) (fun k => True ∧ k ≠ 25) M B e mm kp (H + 1) ((rec_readEither N (D + 2 + 2)).2.1 0) (rec_whoText N (DM + 1 + 1)).2.1 := pd_ch (LH := fun n x t => o_X7_readBoth_L12 N (rec_readEither N (D + 2 + 1)).2.2.1 (fun (t14 : St) => boI 1 (some (1, t14))) 0 n x t) (LM := fun n t => o_X12_whoAnd_L9 N (rec_whoText N (DM + 1)).2.2 (fun (t11 : St) => boI 1 (some (1, t11))) n t) (w := 25) (pc := 10) (by omega) hN (fun n x t => rfl) (fun n t => rfl) a2 (fun _ => WO_l) (fun _ => WA_l) (fun _ => WO_c) (fun _ => WA_c) (fun _ cd tk a b c d b2 d2 q1 q2 q3 q4 => wa_and q1 q2 q3 q4) (fun _ cd tk a b c d q => wa_one q)
    exact ⟨a1, a2, a3, pd_ch (LH := fun n x t => o_X7_readEither_L12 N (rec_readEither N (D + 2 + 2)).2.1 (fun (t14 : St) => boI 1 (some (1, t14))) 0 n x t) (LM := fun n t => o_X12_whoText_L9 N (rec_whoText N (DM + 1 + 1)).2.1 (fun (t11 : St) => boI 1 (some (1, t11))) n t) (w := 24) (pc := 11) (by omega) hN (fun n x t => rfl) (fun n t => rfl) a3 (fun _ => WA_l) (fun _ => WW_l) (fun _ => WA_c) (fun _ => WW_c) (fun _ cd tk a b c d b2 d2 q1 q2 q3 q4 => ww_or q1 q2 q3 q4) (fun _ cd tk a b c d q => ww_one q)⟩
/-- a WHO -/
theorem who_both {H D DM : Nat} (hN : 5000 ≤ N) (hD : 5 * H + 5 ≤ D) (hM : 3 * H + 3 ≤ DM) : PRd (fun _ => WW M H) (fun k => (True ∧ k ≠ 25) ∧ k ≠ 24) M B e mm kp H ((rec_readEither N D).1 0) (rec_whoText N DM).1 := by
  have := (who_all (M := M) (B := B) (e := e) (mm := mm) (kp := kp) hN H (D - 3) (DM - 2) (by omega) (by omega)).2.2.2
  rw [show D - 3 + 3 = D by omega, show DM - 2 + 2 = DM by omega] at this
  exact this
end
