/-! reading in lock step: a step that is allowed -/
section
variable {N : Nat} {B : Nat → Int} {e mm i a c : Nat} {kp k2 : Int} {t m t2 m2 : St}
def RAl (B : Nat → Int) (e mm i a c : Nat) (t m u v : St) : Prop := ∃ i2 b d w : Nat, m.1 200 17 = w ∧ w < 32 ∧ i < i2 ∧ PR u v B e mm 0 i2 ∧ NmR u v ∧ (u.1 302 18 = (b : Int) ∧ v.1 200 33 = ((d + 1 : Nat) : Int) ∧ a ≤ b ∧ b ≤ d ∧ c + 1 ≤ d) ∧ (STp m (u.1 363) (v.1 31) a b (c + 1) d ∧ LFc (u.1 363) a ∧ WTk (v.1 31 (c + 1)) ∧ v.1 31 d = 5059) ∧ (u.1 361 w = a ∧ v.1 30 w = ((c + 1 : Nat) : Int) ∧ u.1 362 w = fsL (t.1 356) (v.1 31) (c + 1) (d - (c + 1))) ∧ u.1 303 6 = 0 ∧ (v.1 200 17 = w + 1 ∧ u.1 302 16 = w + 1) ∧
  ((∀ x y : Nat, x ≠ 303 → (x ≠ 302 ∨ (y ≠ 16 ∧ y ≠ 18 ∧ y ≠ 19)) → (x ≠ 363 ∨ y < a) → (x ≠ 361 ∨ y ≠ w) → (x ≠ 362 ∨ y ≠ w) → u.1 x y = t.1 x y) ∧ u.2 = t.2) ∧
  ((∀ x y : Nat, (x ≠ 31 ∨ y < c) → (x ≠ 32 ∨ y < c) → (x ≠ 200 ∨ (¬ PFd y ∧ y ≠ 17)) → (x ≠ 30 ∨ y ≠ w) → v.1 x y = m.1 x y) ∧ v.2 = m.2)
theorem allow_both (hN : 5000 ≤ N) (h : BKh B e mm i a c t m) (h17 : t.1 302 16 = m.1 200 17 ∧ 0 ≤ m.1 200 17 ∧ m.1 200 17 ≤ 32) (hk : cKd B e (ch B e i) = 3) : SIMf B e mm (FPt 30 a c (m.1 200 17).toNat t m) (RAl B e mm i a c t m) (f_X7_readAllow N t) (f_X12_allow N m) := by
  have hP := h.px
  obtain ⟨h1, h2, h3, h4, h5, h6, h7, h8, h9⟩ := h
  have hr16 := h6.2.2.1
  obtain ⟨w, hw⟩ := Int.eq_ofNat_of_zero_le h17.2.1
  rw [hw, Int.toNat_natCast]
  have hwt : (pI t 303 7 1).1 302 16 = w := by rw [pI_ne (by decide), h17.1]; exact hw
  unfold f_X7_readAllow f_X12_allow
  simp only [lt1_k]
  rw [boI_1, hwt, hw, cmpI_ok (show inR (w : Int) ∧ inR 32 by omega), cmpI_ok (show inR (w : Int) ∧ inR 32 by omega)]
  by_cases h32 : w < 32
  · rw [if_pos (by omega), if_neg (by omega)]
    have hlt := tq_lt h1 (by omega)
    have x0 : FRh t (pI t 303 7 1) a := FRh.p
    have y0 : FRm m (pI m 200 36 1) c := FRm.p (by unfold PFd; omega)
    refine SIMf.bind (SIM.f (sim_pass (N := N) (a := a) (c := c) (as := 3) hP.1 hP.kpp hlt (by rw [hP.2.2.2.1]; exact Nat.le_refl _) hN) (fun u v f1 f2 => ⟨x0.tr f1 (Nat.le_refl a), m.1 30 w, by rw [pI_self]; exact y0.tr f2 (Nat.le_refl c)⟩)) (fun u2 v2 f3 => ?_)
    obtain ⟨k1, k2', k3, k4, k5, k6, k7, k8, k9⟩ := hP.nx f3.at1
    have x2 := x0.tr k2' (Nat.le_refl a)
    have y2 := y0.tr k3 (Nat.le_refl c)
    have e17 : v2.1 200 17 = w := by rw [y2.1 200 17 (by omega) (by omega) (Or.inr (by unfold PFd; omega))]; exact hw
    have hi2 := k1.1.2.1
    have hmm := h1.1.2.2.2.2.2
    have hp9 := h1.2.2.2.2.2.2.2.2.1
    rw [e17, ixI_ok (by omega), Int.toNat_natCast, k1.c33]
    have P3 := k1.m29 (k := 30) (p := w) (x := ((c + 1 : Nat) : Int)) (by omega)
    have y3 : FRm (pI m 30 w ((c + 1 : Nat) : Int)) (pI v2 30 w ((c + 1 : Nat) : Int)) c := ⟨fun x y z1 z2 z3 => by
      by_cases hx : x = 30
      · subst hx
        by_cases hy : y = w
        · subst hy; rw [pI_at, pI_at]
        · rw [pI_nf hy, pI_nf hy]; exact y2.1 30 y z1 z2 z3
      · rw [pI_ne hx, pI_ne hx]; exact y2.1 x y z1 z2 z3, y2.2⟩
    have e6 : u2.1 303 6 = 0 := by rw [k5, pI_nf (by decide)]; exact h9
    have hFr : ∀ u v, FRh u2 u a → FRm (pI v2 30 w ((c + 1 : Nat) : Int)) v (c + 1) → FPt 30 a c w t m u v := fun u v f1 f2 => ⟨x2.tr f1 (Nat.le_refl a), _, y3.tr f2 (by omega)⟩
    refine SIMf.bind (SIM.f (step_both (H := 30) hN (by omega) hr16.2.2.2.1 P3 (by omega) (by omega)) hFr) (fun u4 v4 hR => ?_)
    obtain ⟨i3, b, d, r1, r2, r3, r4, r5, r6, r7, r8, r9, r10, r11⟩ := hR
    have hl : a < b ∧ c + 1 < d := by
      obtain ⟨H2, p, q1, q2, e2, q3, q4, q5⟩ := r8
      have := STq.lt q4; omega
    have hs := SIM.weak (sim_sign (N := N) (a := b) (c := d) (k := 59) r2.1 hP.kpp (by unfold isSg; omega) (by rw [r2.2.2.2.1]; exact Nat.le_refl _) hN) r3 r4 (show a ≤ b by omega) (show c + 1 ≤ d by omega)
    rw [show (40 : Int) + sgi 59 = 45 from rfl] at hs
    refine SIMf.bind (SIM.f hs hFr) (fun u5 v5 f5 => ?_)
    obtain ⟨l1, l2, l3, l4, l5, l6, l7, l8, l9⟩ := r2.nx f5.at1
    have hi4 := l1.1.2.1
    have x5 := (x2.tr r3 (Nat.le_refl a)).tr l2 (show a ≤ b by omega)
    have y5 := (y3.tr r4 (show c ≤ c + 1 by omega)).tr l3 (show c ≤ d by omega)
    have e16 : u5.1 302 16 = w := by
      rw [x5.1 302 16 (by omega) (by omega) (by omega), h17.1]; exact hw
    have e302 : (pI t 303 7 1).1 302 18 = a := by rw [pI_ne (by decide)]; exact h3
    have hadd : ∀ x : Int, f_X0_addAllow N (a : Int) x u5 = some (pI (pI (pI u5 361 w (a : Int)) 362 w x) 302 16 ((w + 1 : Nat) : Int)) := fun x => by
      unfold f_X0_addAllow
      simp only [lt1_k]
      rw [e16, cmpI_ok (by omega), if_pos (by omega), ixI_ok (by omega), Int.toNat_natCast]
      rw [show (pI u5 361 w (a : Int)).1 302 16 = w by rw [pI_ne (by decide)]; exact e16, ixI_ok (by omega), Int.toNat_natCast]
      rw [show (pI (pI u5 361 w (a : Int)) 362 w x).1 302 16 = w by rw [pI_ne (by decide), pI_ne (by decide)]; exact e16]
      rfl
    rw [e302, hadd, bdV_s, boI_0, boI_1, boI_1]
    right
    generalize hX : u5.1 303 11 = X9
    have eX : X9 = fsL (t.1 356) (v5.1 31) (c + 1) (d - (c + 1)) := by
      rw [← hX, l7, r11, show u2.1 356 = t.1 356 from funext fun y => x2.1 356 y (by omega) (by omega) (by omega)]
      exact fsL_cong _ (fun x z1 z2 => (l9 x (by omega)).symm)
    generalize hu6 : pI (pI (pI u5 361 w (a : Int)) 362 w X9) 302 16 ((w + 1 : Nat) : Int) = u6
    have q1 : ∀ x, x ≠ 361 → x ≠ 362 → x ≠ 302 → u6.1 x = u5.1 x := fun x z1 z2 z3 => by rw [← hu6, pI_ne z3, pI_ne z2, pI_ne z1]
    have q2 : ∀ y, y ≠ 16 → u6.1 302 y = u5.1 302 y := fun y z => by rw [← hu6, pI_nf z, pI_ne (by decide), pI_ne (by decide)]
    have q3 : u6.2 = u5.2 := by rw [← hu6]; rfl
    generalize hv6 : pI v5 200 36 0 = v6
    have w1 : ∀ x, x ≠ 200 → v6.1 x = v5.1 x := fun x z => by rw [← hv6, pI_ne z]
    have w2 : ∀ y, y ≠ 36 → v6.1 200 y = v5.1 200 y := fun y z => by rw [← hv6, pI_nf z]
    have f17 : v6.1 200 17 = w := by rw [w2 17 (by decide), y5.1 200 17 (by omega) (by omega) (Or.inr (by unfold PFd; omega)), pI_ne (by decide)]; exact hw
    have m9 : ∀ x, x ≠ 200 → (pI v6 200 17 (v6.1 200 17 + 1)).1 x = v5.1 x := fun x z => by rw [pI_ne z, w1 x z]
    refine ⟨pI u6 303 7 0, pI v6 200 17 (v6.1 200 17 + 1), rfl, rfl, i3 + 1, b, d, w, hw, h32, by omega, ?_, ?_, ⟨?_, ?_, by omega, by omega, by omega⟩, ⟨?_, ?_, ?_, ?_⟩, ⟨?_, ?_, ?_⟩, ?_, ⟨?_, ?_⟩, ⟨fun x y z1 z2 z3 z4 z5 => ?_, ?_⟩, ⟨fun x y z1 z2 z3 z4 => ?_, ?_⟩⟩
    · refine l1.1.mv (k2 := 0) ?_ (fun b hb => ?_) ?_ (fun b z1 z2 z3 z4 z5 z6 => ?_) ?_ ?_ ?_
      · refine TKs.mv l1.1.1 ?_ (fun x hx => ?_) ?_
        · rw [pI_ne (by decide), q1 301 (by decide) (by decide) (by decide)]
        · rw [pI_ne (by omega), q1 x (by omega) (by omega) (by omega)]
        · rw [pI_L, q3]
      · rw [pI_nf hb, q1 303 (by decide) (by decide) (by decide)]
      · rw [pI_ne (by decide), q2 19 (by decide)]
      · rw [pI_nf z5, w2 b z6]
      · exact m9 0 (by decide)
      · rw [pI_nf (by decide), ← hv6, pI_at]
      · rw [pI_at]; rfl
    · exact NmR.mv l1.2.1 (fun o ho => by rw [pI_ne (by omega), q1 (312 + o) (by omega) (by omega) (by omega)]) (fun s hs => by rw [pI_L, q3]) (fun x hx => m9 x (by omega)) (by rw [pI_nf (by decide), w2 13 (by decide)])
    · rw [pI_ne (by decide), q2 18 (by decide)]; exact l1.2.2.1
    · rw [pI_nf (by decide), w2 33 (by decide)]; exact l1.c33
    · rw [pI_ne (by decide), q1 363 (by decide) (by decide) (by decide), m9 31 (by decide), l8]
      exact STp.cg r8 (fun _ _ _ => rfl) (fun x z1 z2 => l9 x (by omega))
    · rw [pI_ne (by decide), q1 363 (by decide) (by decide) (by decide), l8]; exact r9.1
    · rw [m9 31 (by decide), l9 (c + 1) (by omega)]; exact r9.2
    · rw [m9 31 (by decide), l4]; omega
    · rw [pI_ne (by decide), ← hu6, pI_ne (by decide), pI_ne (by decide), pI_at]
    · rw [m9 30 (by decide), l3.1 30 w (by omega) (by omega) (by omega), r4.1 30 w (by omega) (by omega) (by omega), pI_at]
    · rw [pI_ne (by decide), ← hu6, pI_ne (by decide), pI_at, m9 31 (by decide)]; exact eX
    · rw [pI_nf (by decide), q1 303 (by decide) (by decide) (by decide), l5, r7]; exact e6
    · rw [pI_at, f17]
    · rw [pI_ne (by decide), ← hu6, pI_at]; rfl
    · rw [pI_ne z1, ← hu6]
      have e5 : u5.1 x y = t.1 x y := x5.1 x y z1 (by omega) z3
      have d1 : ∀ (s : St) (k j : Nat) (v : Int), (x ≠ k ∨ y ≠ j) → (pI s k j v).1 x y = s.1 x y := fun s k j v z => by
        by_cases hx : x = k
        · subst hx; rw [pI_nf (z.elim (fun q => absurd rfl q) id)]
        · rw [pI_ne hx]
      rw [d1 _ 302 16 _ (by omega), d1 _ 362 w _ z5, d1 _ 361 w _ z4]; exact e5
    · rw [pI_L, q3]; exact x5.2.1
    · have y5' : v5.1 x y = m.1 x y := by
        rw [y5.1 x y z1 z2 (by
          rcases z3 with z | z
          · exact Or.inl z
          · exact Or.inr (Or.inl z.1))]
        by_cases hx : x = 30
        · subst hx; rw [pI_nf (by omega)]
        · rw [pI_ne hx]
      by_cases hx : x = 200
      · subst hx
        have z6 : ¬ PFd y ∧ y ≠ 17 := z3.elim (fun q => absurd rfl q) id
        have z7 : y ≠ 36 := fun q => z6.1 (by rw [q]; unfold PFd; omega)
        rw [pI_nf z6.2, w2 y z7]; exact y5'
      · rw [m9 x hx]; exact y5'
    · show v6.2 = m.2
      rw [← hv6]; exact y5.2
  · rw [if_neg (by omega), if_pos (by omega)]
    left
    refine ⟨pI (pI t 303 7 1) 303 5 5, pI m 200 8 5, by rw [c_wrong, bdI_s, boI_0], by rw [s_wrong, bdI_s, boI_0], ?_, FRh.p.tr FRh.p (Nat.le_refl a), m.1 30 w, by rw [pI_self]; exact FRm.p (by unfold PFd; omega)⟩
    refine ⟨(h1.1.eqP eqP.fld).eqP eqP.fld, i, h1.2.1, ?_, ?_, ?_, ?_, ?_, ?_⟩
    · rw [pI_nf (by decide), pI_nf (by decide)]; exact h1.2.2.2.1
    · rw [pI_nf (by decide)]; exact h1.2.2.1.2.2.1
    · rw [pI_at, pI_at]
    · rw [pI_at]; decide
    · rw [pI_at]; decide
    · rw [pI_ne (by decide), pI_ne (by decide), pI_nf (by decide)]; exact h1.2.2.2.2.2.2.2.2.1.1
end
