/-! reading in lock step: a part, whole -/
section
variable {N : Nat} {B : Nat → Int} {e mm i a c : Nat} {kp k2 : Int} {t m t2 m2 : St}
theorem NmR.mv (h : NmR t m) (e1 : ∀ o, o < 3 → t2.1 (312 + o) 2 = t.1 (312 + o) 2) (e2 : ∀ s, s < 3 → t2.2 (340 + s) = t.2 (340 + s)) (e3 : ∀ x, x = 9 ∨ x = 10 ∨ x = 11 ∨ x = 12 → m2.1 x = m.1 x) (e4 : m2.1 200 13 = m.1 200 13) : NmR t2 m2 := by
  have hW : nmW m2 = nmW m := by funext k i; unfold nmW; rw [e3 9 (by omega)]
  have hL : nmLen m2 = nmLen m := by funext k; unfold nmLen; rw [e3 10 (by omega)]
  obtain ⟨n1, n2, n3, n4, n5⟩ := h
  unfold NmR
  rw [e4, e3 10 (by omega), e3 11 (by omega), e3 12 (by omega), hW, hL]
  refine ⟨n1, fun o ho => by rw [e1 o ho]; exact n2 o ho, fun k hk => ?_, fun s n hs hn => ?_, n5⟩
  · obtain ⟨a1, a2, s, n, b1, b2, b3, b4, b5⟩ := n3 k hk
    exact ⟨a1, a2, s, n, b1, b2, b3, by rw [e1 s b1]; exact b4, by rw [e2 s b1]; exact b5⟩
  · rw [e1 s hs] at hn; exact n4 s n hs hn
/-- what a part that was read comes to -/
def RPt (B : Nat → Int) (e mm i a c : Nat) (t m u v : St) : Prop := ∃ n i2 b d p : Nat, m.1 200 16 = p ∧ p < 60 ∧ i < i2 ∧ PR u v B e mm 0 i2 ∧ NmR u v ∧ (u.1 302 18 = ((b + 1 : Nat) : Int) ∧ v.1 200 33 = ((d + 1 : Nat) : Int) ∧ a ≤ b ∧ b < d ∧ c + 3 ≤ d) ∧ (SB m (XC u v) n a b (c + 3) d ∧ BKt (XC u v) (c + 2) d ∧ u.1 363 b = 29) ∧ (u.1 360 p = a ∧ v.1 29 p = ((c + 2 : Nat) : Int)) ∧ u.1 303 6 = 0 ∧ (v.1 200 13 = m.1 200 13 + 1 ∧ v.1 200 16 = p + 1 ∧ u.1 314 2 = p + 1) ∧
  ((∀ x y : Nat, x ≠ 303 → (x ≠ 302 ∨ (y ≠ 18 ∧ y ≠ 19)) → (x ≠ 363 ∨ y < a) → (x ≠ 314 ∨ y ≠ 2) → (x ≠ 360 ∨ y ≠ p) → u.1 x y = t.1 x y) ∧ (∀ x, x ≠ 342 → u.2 x = t.2 x) ∧ (∀ y, y < 3 * p → u.2 342 y = t.2 342 y)) ∧
  ((∀ x y : Nat, (x ≠ 31 ∨ y < c) → (x ≠ 32 ∨ y < c) → (x ≠ 200 ∨ (¬ PFd y ∧ y ≠ 13 ∧ y ≠ 16)) → (x ≠ 29 ∨ y ≠ p) → (x < 9 ∨ 12 < x) → v.1 x y = m.1 x y) ∧ v.2 = m.2 ∧ (∀ b, b < 24 * (m.1 200 13).toNat → v.1 9 b = m.1 9 b) ∧ (∀ k : Nat, (k : Int) ≠ m.1 200 13 → v.1 10 k = m.1 10 k ∧ v.1 11 k = m.1 11 k ∧ v.1 12 k = m.1 12 k))
def FPt (k : Nat) (a c p : Nat) (t m u v : St) : Prop := FRh t u a ∧ ∃ x, FRm (pI m k p x) v c
theorem part_both (hN : 5000 ≤ N) (h : BKh B e mm i a c t m) (hk : cKd B e (ch B e i) = 2) : SIMf B e mm (FPt 29 a c (m.1 200 16).toNat t m) (RPt B e mm i a c t m) (f_X7_readPart N t) (f_X12_part N m) := by
  have hP := h.px
  obtain ⟨h1, h2, h3, h4, h5, h6, h7, h8, h9⟩ := h
  have hr16 := h6.2.2.1
  obtain ⟨p, hp⟩ := Int.eq_ofNat_of_zero_le hr16.2.2.2.2.1
  rw [hp, Int.toNat_natCast]
  have hpt : t.1 314 2 = p := by rw [← hp]; exact h6.2.1.2.2
  have hfull : f_X6_isFull N 2 (pI t 303 7 1) = some (if p < 60 then 0 else 1, pI t 303 7 1) := by
    unfold f_X6_isFull
    rw [lt1_k, lt1_k, pI_ne (show (312 + 2 : Nat) ≠ 303 by decide)]
    rw [show t.1 (312 + 2) 2 = (p : Int) from hpt, show t.1 (312 + 2) 1 = 60 from h7.2.2, cmpI_ok (by omega), boI_0, boI_1]
    by_cases h60 : p < 60
    · rw [if_pos h60, if_pos (by omega)]
    · rw [if_neg h60, if_neg (by omega)]
  unfold f_X7_readPart f_X12_part
  simp only [lt1_k]
  rw [boI_1, hfull, bdI_s, hp, cmpI_ok (show inR (p : Int) ∧ inR 60 by omega)]
  by_cases h60 : p < 60
  · rw [if_pos h60, cmpI_ok (by omega), if_pos rfl, if_neg (by omega)]
    have hlt := tq_lt h1 (by omega)
    have x0 : FRh t (pI t 303 7 1) a := FRh.p
    have y0 : FRm m (pI m 200 36 1) c := FRm.p (by unfold PFd; omega)
    have hFr0 : ∀ u v, FRh (pI t 303 7 1) u a → FRm (pI m 200 36 1) v c → FPt 29 a c p t m u v := fun u v f1 f2 => ⟨x0.tr f1 (Nat.le_refl a), m.1 29 p, by rw [pI_self]; exact y0.tr f2 (Nat.le_refl c)⟩
    refine SIMf.bind (SIM.f (sim_pass (N := N) (a := a) (c := c) (as := 2) hP.1 hP.kpp hlt (by rw [hP.2.2.2.1]; exact Nat.le_refl _) hN) hFr0) (fun u v f3 => ?_)
    obtain ⟨g1, g2, g3, g4, g5, g6, g7, g8, g9⟩ := hP.nx f3.at1
    refine SIMf.bind (SIM.f (SIM.weak (sim_new (N := N) (a := a) (c := c + 1) g1.1 g1.2.1 hP.kpp (by rw [g1.2.2.2.1]; exact Nat.le_refl _) hN) g2 g3 (Nat.le_refl a) (show c ≤ c + 1 by omega)) hFr0) (fun u2 v2 f4 => ?_)
    obtain ⟨n1, n2, n3, n4, n5⟩ := f4
    obtain ⟨k1, k2', k3, k4, k5, k6, k7, k8, k9⟩ := g1.nx n5
    have x2 := (x0.tr g2 (Nat.le_refl a)).tr k2' (Nat.le_refl a)
    have y2 := (y0.tr g3 (Nat.le_refl c)).tr k3 (show c ≤ c + 1 by omega)
    have e16 : v2.1 200 16 = p := by rw [y2.1 200 16 (by omega) (by omega) (Or.inr (by unfold PFd; omega))]; exact hp
    have hi2 := k1.1.2.1
    have hmm := h1.1.2.2.2.2.2
    have hp9 := h1.2.2.2.2.2.2.2.2.1
    rw [e16, ixI_ok (by omega), Int.toNat_natCast, k1.c33]
    have P3 := k1.m29 (k := 29) (p := p) (x := ((c + 1 + 1 : Nat) : Int)) (by omega)
    have y3 : FRm (pI m 29 p ((c + 1 + 1 : Nat) : Int)) (pI v2 29 p ((c + 1 + 1 : Nat) : Int)) c := ⟨fun x y z1 z2 z3 => by
      by_cases hx : x = 29
      · subst hx
        by_cases hy : y = p
        · subst hy; rw [pI_at, pI_at]
        · rw [pI_nf hy, pI_nf hy]; exact y2.1 29 y z1 z2 z3
      · rw [pI_ne hx, pI_ne hx]; exact y2.1 x y z1 z2 z3, y2.2⟩
    have e6 : u2.1 303 6 = 0 := by rw [k5, g5, pI_nf (by decide)]; exact h9
    refine SIMf.bind (SIM.f (part_block hN hr16.2.2.2.1 (i + 1 + 1) a (c + 1 + 1) u2 _ P3 (by omega) (by omega)) (fun u v f1 f2 => ⟨x2.tr f1 (Nat.le_refl a), _, y3.tr f2 (by omega)⟩)) (fun u4 v4 hR => ?_)
    obtain ⟨nn, i3, b, d, r1, r2, r3, r4, r5, r6, r7, r8, r9⟩ := hR
    have hl := SB.le _ _ _ _ _ r8
    have hi3 := r2.1.2.1
    have x4 := x2.tr r3 (Nat.le_refl a)
    have y4 := y3.tr r4 (show c ≤ c + 1 + 1 by omega)
    rw [h_putK r2.2.2.1 (by omega) (by omega) (by omega), bdI_s]
    have e314 : u4.1 314 2 = p := by rw [x4.1 314 2 (by omega) (by omega) (by omega)]; exact hpt
    have e314' : (PU u4 b (0 * 64 + 29)).1 (312 + 2) 2 = p := by rw [PU_ne (by decide) (by decide)]; exact e314
    rw [e314', ixI_ok (by omega), Int.toNat_natCast]
    have e302 : (pI t 303 7 1).1 302 18 = a := by rw [pI_ne (by decide)]; exact h3
    have e303 : (pI t 303 7 1).1 303 2 = i := by rw [pI_nf (by decide)]; exact h1.2.2.2.1
    rw [e302, e303, show (i : Int) + 1 = ((i + 1 : Nat) : Int) by omega]
    generalize hu6 : pI (PU u4 b (0 * 64 + 29)) 360 p (a : Int) = u6
    generalize hv5 : pI v4 200 36 0 = v5
    have q1 : ∀ x, x ≠ 363 → x ≠ 302 → x ≠ 360 → u6.1 x = u4.1 x := fun x z1 z2 z3 => by rw [← hu6, pI_ne z3, PU_ne z1 z2]
    have q2 : u6.2 = u4.2 := by rw [← hu6]; rfl
    have w1 : ∀ x, x ≠ 200 → v5.1 x = v4.1 x := fun x z => by rw [← hv5, pI_ne z]
    have w2 : ∀ y, y ≠ 36 → v5.1 200 y = v4.1 200 y := fun y z => by rw [← hv5, pI_nf z]
    have e16' : v5.1 200 16 = p := by rw [w2 16 (by decide), y4.1 200 16 (by omega) (by omega) (Or.inr (by unfold PFd; omega)), pI_ne (by decide)]; exact hp
    have e13 : v5.1 200 13 = m.1 200 13 := by rw [w2 13 (by decide), y4.1 200 13 (by omega) (by omega) (Or.inr (by unfold PFd; omega)), pI_ne (by decide)]
    have hNm : NmR u6 v5 := NmR.mv r2.2.1 (fun o ho => by rw [q1 (312 + o) (by omega) (by omega) (by omega)]) (fun s hs => by rw [q2]) (fun x hx => w1 x (by omega)) (w2 13 (by decide))
    have hTK6 : TKs u6 B e mm := TKs.mv r2.1.1 (by rw [q1 301 (by decide) (by decide) (by decide)]) (fun x hx => q1 x (by omega) (by omega) (by omega)) (by rw [q2])
    have hMT : mTx v5 B e := (r2.1.2.2.1.of (u := v5) (fun b z1 z2 => w2 b (by omega)) (w1 0 (by decide))).1
    have v9 : ∀ x, x = 9 ∨ x = 10 → v5.1 x = v.1 x := fun x hx => by
      rw [w1 x (by omega)]
      funext y
      rw [r4.1 x y (by omega) (by omega) (by omega), pI_ne (by omega), k3.1 x y (by omega) (by omega) (by omega)]
    have v13 : v.1 200 13 = m.1 200 13 := by rw [g3.1 200 13 (by omega) (by omega) (Or.inr (by unfold PFd; omega)), pI_nf (by decide)]
    have hnb : nmb v5 = nmb v := by
      funext b9 L9 k9'
      unfold nmb
      rw [show nmLen v5 = nmLen v by funext z; unfold nmLen; rw [v9 10 (by omega)], show nmW v5 = nmW v by funext z y; unfold nmW; rw [v9 9 (by omega)]]
    obtain ⟨t7, m7, o1, o2, o3, ⟨o4, o5⟩, ⟨o6, o7, o8, o9⟩, o10, o11, o12⟩ := nm_add (N := N) (s := 2) (n := p) (j := i + 1) hNm (by omega) hTK6 (by omega) hMT n1 (by rw [q1 (312 + 2) (by decide) (by decide) (by decide)]; exact e314) (by
      rw [q1 (312 + 2) (by decide) (by decide) (by decide)]
      have z1 : u4.1 (312 + 2) 2 = p := e314
      have z2 : u4.1 (312 + 2) 1 = 60 := by rw [x4.1 (312 + 2) 1 (by omega) (by omega) (by omega)]; exact h7.2.2
      omega) (by
      rw [q1 (312 + 2) (by decide) (by decide) (by decide)]
      have z2 : u4.1 (312 + 2) 1 = 60 := by rw [x4.1 (312 + 2) 1 (by omega) (by omega) (by omega)]; exact h7.2.2
      rw [z2]; decide) (by omega) (by rw [hnb, e13, ← v13]; exact n4) hN
    have o2' : f_X12_tell N 2 (p : Int) (v2.1 200 111) (v2.1 200 112) v5 = some m7 := by rw [n2, n3]; exact o2
    rw [o1, bdV_s, boI_0, boI_1, e16', o2', bdV_s, boI_1]
    right
    have m16 : m7.1 200 16 = p := by rw [o7 16 (by decide)]; exact e16'
    have T1 : ∀ x y, (x ≠ 314 ∨ y ≠ 2) → t7.1 x y = u6.1 x y := fun x y z => by
      rw [o4]
      by_cases hx : x = 312 + 2
      · subst hx; rw [pI_nf (by omega)]
      · rw [pI_ne hx]
    have T7 : ∀ x, x ≠ 303 → (pI t7 303 7 0).1 x = t7.1 x := fun x z => pI_ne z
    have PRf : PR (pI t7 303 7 0) (pI m7 200 16 (m7.1 200 16 + 1)) B e mm 0 i3 := by
      refine r2.1.mv (k2 := 0) ?_ (fun b hb => ?_) ?_ (fun b z1 z2 z3 z4 z5 z6 => ?_) ?_ ?_ ?_
      · refine TKs.mv hTK6 ?_ (fun x hx => ?_) ?_
        · rw [pI_ne (by decide), T1 301 7 (by omega)]
        · funext y; rw [pI_ne (by omega), T1 x y (by omega)]
        · rw [pI_L]; exact o5 335 (by omega)
      · rw [pI_nf hb, T1 303 b (by omega), q1 303 (by decide) (by decide) (by decide)]
      · rw [pI_ne (by decide), T1 302 19 (by omega), ← hu6, pI_ne (by decide), PU_f (by decide)]
      · rw [pI_nf z4, o7 b z1, w2 b z6]
      · rw [pI_ne (by decide), o6 0 (by decide) (by decide) (by decide) (by decide) (by decide), w1 0 (by decide)]
      · rw [pI_nf (by decide), o7 36 (by decide), ← hv5, pI_at]
      · rw [pI_at]; rfl
    have c363 : (pI t7 303 7 0).1 363 = (PU u4 b (0 * 64 + 29)).1 363 := by
      funext y
      rw [pI_ne (by decide), T1 363 y (by omega), ← hu6, pI_ne (by decide)]
    have m31 : ∀ x, x = 31 ∨ x = 32 ∨ x = 29 → (pI m7 200 16 (m7.1 200 16 + 1)).1 x = v4.1 x := fun x hx => by
      rw [pI_ne (by omega), o6 x (by omega) (by omega) (by omega) (by omega) (by omega), w1 x (by omega)]
    refine ⟨pI t7 303 7 0, pI m7 200 16 (m7.1 200 16 + 1), rfl, rfl, nn, i3, b, d, p, hp, h60, by omega, PRf, ?_, ⟨?_, ?_, by omega, by omega, by omega⟩, ⟨?_, ?_, ?_⟩, ⟨?_, ?_⟩, ?_, ⟨?_, ?_, ?_⟩, ⟨fun x y z1 z2 z3 z4 z5 => ?_, fun x z => ?_, fun y z => ?_⟩, ⟨fun x y z1 z2 z3 z4 z5 => ?_, ?_, fun b z => ?_, fun k z => ?_⟩⟩
    · exact NmR.mv o3 (fun o ho => by rw [pI_ne (by omega)]) (fun s hs => by rw [pI_L]) (fun x hx => pI_ne (by omega)) (pI_nf (by decide))
    · rw [pI_ne (by decide), T1 302 18 (by omega), ← hu6, pI_ne (by decide), PU_18]
    · rw [pI_nf (by decide), o7 33 (by decide), w2 33 (by decide)]; exact r2.c33
    · refine SB.cg _ _ _ _ _ r8 ⟨fun y z1 z2 => ?_, fun y z1 z2 => ?_, fun y z1 z2 => ?_⟩
      · show (pI t7 303 7 0).1 363 y = u4.1 363 y
        rw [c363, PU_nf (by omega)]
      · show (pI m7 200 16 (m7.1 200 16 + 1)).1 31 y = v4.1 31 y
        rw [m31 31 (by omega)]
      · show (pI m7 200 16 (m7.1 200 16 + 1)).1 32 y = v4.1 32 y
        rw [m31 32 (by omega)]
    · exact r9.cg (a := 0) (b := 0) ⟨fun x z1 z2 => by omega, fun y z1 z2 => by show (pI m7 200 16 (m7.1 200 16 + 1)).1 31 y = v4.1 31 y; rw [m31 31 (by omega)], fun y z1 z2 => by show (pI m7 200 16 (m7.1 200 16 + 1)).1 32 y = v4.1 32 y; rw [m31 32 (by omega)]⟩
    · rw [c363, PU_at]; omega
    · rw [pI_ne (by decide), T1 360 p (by omega), ← hu6, pI_at]
    · rw [m31 29 (by omega), r4.1 29 p (by omega) (by omega) (by omega), pI_at]
    · rw [pI_nf (by decide), T1 303 6 (by omega), q1 303 (by decide) (by decide) (by decide), r7]; exact e6
    · rw [pI_nf (by decide), o8, e13]
    · rw [pI_at, m16]
    · rw [pI_ne (by decide), o4]
      show (pI u6 (312 + 2) 2 ((p + 1 : Nat) : Int)).1 (312 + 2) 2 = _
      rw [pI_at]; rfl
    · rw [pI_ne z1, T1 x y z4, ← hu6]
      have : (pI (PU u4 b (0 * 64 + 29)) 360 p (a : Int)).1 x y = (PU u4 b (0 * 64 + 29)).1 x y := by
        by_cases hx : x = 360
        · subst hx; rw [pI_nf (by omega)]
        · rw [pI_ne hx]
      rw [this, (FRh.U (b := a) r2.2.2.1 (by omega) (by omega)).1 x y z1 z2 z3, x4.1 x y z1 z2 z3]
    · rw [pI_L, o5 x z, q2, x4.2.1]
    · rw [pI_L, o10 y z, q2, x4.2.1]
    · have y4' : v4.1 x y = m.1 x y := by
        rw [y4.1 x y z1 z2 (by
          rcases z3 with z | z
          · exact Or.inl z
          · exact Or.inr (Or.inl z.1))]
        by_cases hx : x = 29
        · subst hx; rw [pI_nf (by omega)]
        · rw [pI_ne hx]
      by_cases hx : x = 200
      · subst hx
        have z6 : ¬ PFd y ∧ y ≠ 13 ∧ y ≠ 16 := z3.elim (fun q => absurd rfl q) id
        have z7 : y ≠ 36 := fun q => z6.1 (by rw [q]; unfold PFd; omega)
        rw [pI_nf z6.2.2, o7 y z6.2.1, w2 y z7]; exact y4'
      · rw [pI_ne hx, o6 x (by omega) (by omega) (by omega) (by omega) hx, w1 x hx]; exact y4'
    · show m7.2 = m.2
      rw [o9, ← hv5]; exact y4.2
    · rw [pI_ne (by decide), o11 b (by rw [e13]; exact z), w1 9 (by decide), y4.1 9 b (by omega) (by omega) (by omega), pI_ne (by decide)]
    · have z9 := o12 k (by rw [e13]; exact z)
      have za : ∀ x, x = 10 ∨ x = 11 ∨ x = 12 → v5.1 x k = m.1 x k := fun x hx => by rw [w1 x (by omega), y4.1 x k (by omega) (by omega) (by omega), pI_ne (by omega)]
      exact ⟨by rw [pI_ne (by decide), z9.1, za 10 (by omega)], by rw [pI_ne (by decide), z9.2.1, za 11 (by omega)], by rw [pI_ne (by decide), z9.2.2, za 12 (by omega)]⟩
  · rw [if_neg h60, cmpI_ok (by omega), if_neg (by decide), if_pos (by omega)]
    left
    refine ⟨pI (pI t 303 7 1) 303 5 5, pI m 200 8 5, by rw [c_wrong, bdI_s, boI_0], by rw [s_wrong, bdI_s, boI_0], ?_, FRh.p.tr FRh.p (Nat.le_refl a), m.1 29 p, by rw [pI_self]; exact FRm.p (by unfold PFd; omega)⟩
    refine ⟨(h1.1.eqP eqP.fld).eqP eqP.fld, i, h1.2.1, ?_, ?_, ?_, ?_, ?_, ?_⟩
    · rw [pI_nf (by decide), pI_nf (by decide)]; exact h1.2.2.2.1
    · rw [pI_nf (by decide)]; exact h1.2.2.1.2.2.1
    · rw [pI_at, pI_at]
    · rw [pI_at]; decide
    · rw [pI_at]; decide
    · rw [pI_ne (by decide), pI_ne (by decide), pI_nf (by decide)]; exact h1.2.2.2.2.2.2.2.2.1.1
end
