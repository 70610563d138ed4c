/-! reading in lock step: a figure, whole -/
def FGh (G : Nat) (t u : St) : Prop := (∀ x y : Nat, x ≠ 303 → (x ≠ 302 ∨ y ≠ 19) → ((x < 354 ∨ 356 < x) ∨ y ≠ G) → ((x < 357 ∨ 359 < x) ∨ y < 8 * G) → u.1 x y = t.1 x y) ∧ u.2 = t.2
def FGm (G : Nat) (m v : St) : Prop := (∀ x y : Nat, (x ≠ 200 ∨ ((y < 2 ∨ 6 < y) ∧ y ≠ 8 ∧ (y < 110 ∨ 113 < y))) → ((x < 23 ∨ 25 < x) ∨ y ≠ G) → ((x < 26 ∨ 28 < x) ∨ y < 8 * G) → v.1 x y = m.1 x y) ∧ v.2 = m.2
theorem FGh.tr {G : Nat} {t u v : St} (h : FGh G t u) (g : FGh G u v) : FGh G t v := ⟨fun x y z1 z2 z3 z4 => (g.1 x y z1 z2 z3 z4).trans (h.1 x y z1 z2 z3 z4), g.2.trans h.2⟩
theorem FGm.tr {G : Nat} {t u v : St} (h : FGm G t u) (g : FGm G u v) : FGm G t v := ⟨fun x y z1 z2 z3 => (g.1 x y z1 z2 z3).trans (h.1 x y z1 z2 z3), g.2.trans h.2⟩
theorem FGh.h {G : Nat} {t u : St} (h : H0 t u) : FGh G t u := ⟨fun x y z1 z2 _ _ => h.1 x y z1 z2, h.2⟩
theorem FGm.h {G : Nat} {t u : St} (h : M0 t u) : FGm G t u := ⟨fun x y z1 _ _ => h.1 x y z1, h.2⟩
theorem FGh.g {G : Nat} {t u : St} (h : GHh G t u) : FGh G t u := ⟨fun x y z1 z2 _ z4 => h.1 x y z1 z2 z4, h.2⟩
theorem FGm.g {G : Nat} {t u : St} (h : GHm G t u) : FGm G t u := ⟨fun x y z1 _ z3 => h.1 x y z1 z3, h.2⟩
theorem FGh.s {G k : Nat} {t : St} {v : Int} (h : 354 ≤ k ∧ k ≤ 356) : FGh G t (pI t k G v) := ⟨fun x y _ _ _ _ => pI_of (by omega), rfl⟩
theorem FGm.s {G k : Nat} {t : St} {v : Int} (h : 23 ≤ k ∧ k ≤ 25) : FGm G t (pI t k G v) := ⟨fun x y _ _ _ => pI_of (by omega), rfl⟩
section
variable {N : Nat} {B : Nat → Int} {e mm i a c : Nat} {t m t2 m2 : St}
theorem NmR.lw (h : NmR t m) (e1 : ∀ o, o < 3 → t2.1 (312 + o) 2 = t.1 (312 + o) 2) (e2 : ∀ s x : Nat, s < 3 → (x : Int) < 3 * t.1 (312 + s) 2 → t2.2 (340 + s) x = t.2 (340 + s) x) (e3 : ∀ b : Nat, (b : Int) < 24 * m.1 200 13 → m2.1 9 b = m.1 9 b) (e4 : ∀ x k : Nat, (x = 10 ∨ x = 11 ∨ x = 12) → (k : Int) < m.1 200 13 → m2.1 x k = m.1 x k) (e5 : m2.1 200 13 = m.1 200 13) : NmR t2 m2 := by
  obtain ⟨n1, n2, n3, n4, n5⟩ := h
  have hL : ∀ k : Nat, (k : Int) < m.1 200 13 → nmLen m2 k = nmLen m k := fun k hk => by unfold nmLen; rw [e4 10 k (by omega) hk]
  have hW : ∀ k i : Nat, (k : Int) < m.1 200 13 → i < 24 → nmW m2 k i = nmW m k i := fun k i hk hi => by unfold nmW; rw [e3 (24 * k + i) (by omega)]
  have h24 : ∀ k : Nat, (k : Int) < m.1 200 13 → nmLen m k ≤ 24 := fun k hk => by have := (n3 k hk).1; unfold nmLen; omega
  refine ⟨by rw [e5]; exact n1, fun o ho => by rw [e1 o ho]; exact n2 o ho, fun k hk => ?_, fun s n hs hn => ?_, fun k l hk hl hlen hlet => ?_⟩
  · rw [e5] at hk
    obtain ⟨a1, a2, s, n, b1, b2, b3, b4, b5⟩ := n3 k hk
    have h2 := h24 k hk
    refine ⟨by rw [e4 10 k (by omega) hk]; exact a1, fun i hi => ?_, s, n, b1, by rw [e4 11 k (by omega) hk]; exact b2, by rw [e4 12 k (by omega) hk]; exact b3, by rw [e1 s b1]; exact b4, fun j hj => ?_⟩
    · rw [hL k hk] at hi
      rw [hW k i hk (by omega)]; exact a2 i hi
    · rw [e2 s (3 * n + j) b1 (by omega), b5 j hj, hL k hk]
      refine congrArg Int64.ofNat (pk8_cg 8 (fun i z1 z2 => ?_))
      show nmW m k (8 * j + i) = nmW m2 k (8 * j + i)
      rw [hW k _ hk (by omega)]
  · rw [e1 s hs] at hn
    obtain ⟨k, q1, q2, q3⟩ := n4 s n hs hn
    exact ⟨k, by rw [e5]; exact q1, by rw [e4 11 k (by omega) q1]; exact q2, by rw [e4 12 k (by omega) q1]; exact q3⟩
  · rw [e5] at hk hl
    rw [hL k hk, hL l hl] at hlen
    have h2 := h24 k hk
    refine n5 k l hk hl hlen (fun i hi => ?_)
    rw [← hW k i hk (by omega), ← hW l i hl (by omega)]
    exact hlet i (by rw [hL k hk]; exact hi)
/-- one figure on both sides -/
def FG1 (t m : St) (F : Nat) : Prop := ∃ f k : Nat, m.1 23 F = f ∧ t.1 354 F = f ∧ (f : Int) < m.1 200 14 ∧ (t.1 355 F = m.1 24 F ∧ 0 ≤ m.1 24 F ∧ m.1 24 F ≤ 64) ∧ (t.1 356 F = m.1 25 F ∧ 0 ≤ m.1 25 F ∧ m.1 25 F ≤ 1000) ∧ m.1 18 f = k ∧ GLr F k t m
def RFg (B : Nat → Int) (e mm i : Nat) (t m u v : St) : Prop := ∃ i2 G : Nat, m.1 200 15 = G ∧ G < 100 ∧ i < i2 ∧ PR u v B e mm 0 i2 ∧ NmR u v ∧ (u.1 302 16 = t.1 302 16 ∧ u.1 302 18 = t.1 302 18 ∧ v.1 200 33 = m.1 200 33 ∧ v.1 200 17 = m.1 200 17) ∧ FG1 u v G ∧ u.1 303 6 = t.1 303 6 ∧ (v.1 200 13 = m.1 200 13 + 1 ∧ v.1 200 15 = G + 1 ∧ u.1 313 2 = G + 1) ∧ (v.1 200 14 = m.1 200 14 ∧ v.1 200 16 = m.1 200 16 ∧ u.1 312 2 = t.1 312 2 ∧ u.1 314 2 = t.1 314 2) ∧ LwH t u ∧ LwM m v
set_option maxHeartbeats 4000000 in
theorem figure_both (hN : 5000 ≤ N) (h : BKh B e mm i a c t m) (hk : cKd B e (ch B e i) = 1) : SIMf B e mm (fun u v => LwH t u ∧ LwM m v) (RFg B e mm i t m) (f_X7_readFigure N t) (f_X12_figure N m) := by
  obtain ⟨h1, h2, h3, h4, h5, h6, h7, h8, h9⟩ := h
  have hr := h6.2.2.1
  obtain ⟨G, hG⟩ := Int.eq_ofNat_of_zero_le hr.2.2.1
  have hGt : t.1 313 2 = G := by rw [← hG]; exact h6.2.1.2.1
  have hfull : f_X6_isFull N 1 t = some (if G < 100 then 0 else 1, t) := by
    unfold f_X6_isFull
    rw [lt1_k, lt1_k, show t.1 (312 + 1) 2 = (G : Int) from hGt, show t.1 (312 + 1) 1 = 100 from h7.2.1, cmpI_ok (by omega), boI_0, boI_1]
    by_cases h40 : G < 100
    · rw [if_pos h40, if_pos (by omega)]
    · rw [if_neg h40, if_neg (by omega)]
  unfold f_X7_readFigure f_X12_figure
  simp only [lt1_k]
  rw [hfull, bdI_s, show t.1 (312 + 1) 2 = (G : Int) from hGt, hG, cmpI_ok (show inR (G : Int) ∧ inR 100 by omega)]
  by_cases h40 : G < 100
  · rw [if_pos h40, cmpI_ok (by omega), if_pos rfl, if_neg (show ¬ (G : Int) = 100 by omega)]
    obtain ⟨u1, v1, a1, a2, a3, a4, a5⟩ := nx0 (N := N) h1 (tq_lt h1 (by omega)) hN
    rw [a1, bdI_s, cmpI_ok (by omega), if_neg (by decide), a2, bdV_s]
    have hNm1 : NmR u1 v1 := NmR.mv h2 (fun o ho => a4.1 (312 + o) 2 (by omega) (by omega)) (fun s hs => by rw [a4.2]) (fun x hx => funext fun y => a5.1 x y (by omega)) (a5.1 200 13 (by omega))
    have LH1 : LwH t u1 := LwH.c a4
    have LM1 : LwM m v1 := ⟨fun x y q => a5.1 x y (q.1.imp id (fun z => (npf z.1).1)), a5.2⟩
    rcases new0 (N := N) a3 hNm1 hN with ⟨w, hw, b1, b2⟩ | ⟨u2, v2, b1, b2, b3, b4, b5, b6, b7, b8, b9, b10⟩
    · rw [b1, bdI_s, cmpI_ok (by omega), if_pos rfl, boI_0, b2, bdI_s, cmpI_ok (by omega), if_pos rfl, boI_0]
      exact Or.inl ⟨_, _, rfl, rfl, FR_of a3 hw, LH1.p, LM1.p (by unfold PFd; omega)⟩
    · rw [b1, bdI_s, cmpI_ok (by omega), if_neg (by decide), b2, bdI_s, cmpI_ok (by omega), if_neg (by decide)]
      have hi2 := b7.2.1
      have H2 : ∀ x y, x ≠ 303 → (x ≠ 302 ∨ y ≠ 19) → u2.1 x y = t.1 x y := fun x y z1 z2 => (b8.1 x y (Or.inl z1) z2).trans (a4.1 x y (Or.inl z1) z2)
      have M2 : ∀ x y, (x ≠ 200 ∨ y < 2 ∨ (6 < y ∧ y ≠ 111 ∧ y ≠ 112)) → v2.1 x y = m.1 x y := fun x y z => (b9 x y z).trans (a5.1 x y (by omega))
      have hNm2 : NmR u2 v2 := NmR.mv h2 (fun o ho => H2 (312 + o) 2 (by omega) (by omega)) (fun s hs => by rw [b8.2, a4.2]) (fun x hx => funext fun y => M2 x y (by omega)) (M2 200 13 (by omega))
      have hc2 : u2.1 (312 + 1) 2 = G := by rw [H2 (312 + 1) 2 (by omega) (by omega)]; exact hGt
      have hc1 : u2.1 (312 + 1) 1 = 100 := by rw [H2 (312 + 1) 1 (by omega) (by omega)]; exact h7.2.1
      have hnb : ∀ w : St, w.1 9 = v1.1 9 → w.1 10 = v1.1 10 → nmb w = nmb v1 := fun w z1 z2 => by
        funext b9 L9 k9
        unfold nmb
        rw [show nmLen w = nmLen v1 by funext z; unfold nmLen; rw [z2], show nmW w = nmW v1 by funext z y; unfold nmW; rw [z1]]
      have hadd := fun (w : St) (q1 : NmR u2 w) (q2 : mTx w B e) (q3 : w.1 9 = v1.1 9) (q4 : w.1 10 = v1.1 10) (q5 : w.1 200 13 = v1.1 200 13) => nm_add (N := N) (t := u2) (m := w) (s := 1) (n := G) (j := i + 1) q1 (by omega) b7.1 (by omega) q2 b3 hc2 (by omega) (by rw [hc1]; decide) (by rw [q5, a5.1 200 13 (by omega)]; omega) (by rw [hnb w q3 q4, q5]; exact b6) hN
      obtain ⟨t9, mE, o1, _, _, ⟨o4, o5⟩, _, o10, _⟩ := hadd v2 hNm2 b7.2.2.1.1 (funext fun y => b9 9 y (by omega)) (funext fun y => b9 10 y (by omega)) (b9 200 13 (by omega))
      rw [b7.2.2.2.1, show ((i + 1 + 1 : Nat) : Int) - 1 = ((i + 1 : Nat) : Int) by omega, o1, bdV_s]
      have T9 : ∀ x y, (x ≠ 313 ∨ y ≠ 2) → t9.1 x y = u2.1 x y := fun x y z1 => by
        rw [o4, pI_of (u := u2) (k := 312 + 1) (by omega)]
      have T9c : t9.1 313 2 = G + 1 := by rw [o4]; show (pI u2 (312 + 1) 2 ((G + 1 : Nat) : Int)).1 (312 + 1) 2 = _; rw [pI_at]; omega
      have hTK : TKs t9 B e mm := TKs.mv b7.1 (T9 301 7 (by omega)) (fun x hx => funext fun y => T9 x y (by omega)) (o5 335 (by omega))
      have hP9 : PR t9 v2 B e mm 0 (i + 1 + 1) := b7.mv (k2 := 0) hTK (fun b _ => T9 303 b (by omega)) (T9 302 19 (by omega)) (fun _ _ _ _ _ _ _ => rfl) rfl b7.2.2.2.2.2.2.2.1.1 (by rw [T9 303 7 (by omega)]; exact b7.2.2.2.2.2.2.2.1.2)
      have LH : ∀ u, FGh G t9 u → LwH t u := fun u g => by
        refine ⟨fun x y q => ?_, fun x y q => ?_⟩
        · rw [hGt] at q
          obtain ⟨q1, q2, q3, q4, q5, q6, q7, q8, _⟩ := q
          rw [g.1 x y q1 (by omega) (by omega) (by omega), T9 x y (by omega), H2 x y q1 (by omega)]
        · rw [hGt] at q
          rw [g.2]
          by_cases hx : x = 341
          · subst hx
            rw [o10 y (by have := q.2.1; omega), b8.2, a4.2]
          · rw [o5 x hx, b8.2, a4.2]
      have LM : ∀ v, FGm G v2 v → LwM m v := fun v g => by
        refine ⟨fun x y q => ?_, g.2.trans (b10.trans a5.2)⟩
        rw [hG] at q
        obtain ⟨q1, _, _, _, _, q5, q6, _⟩ := q
        have q1' : x ≠ 200 ∨ ((y < 2 ∨ 6 < y) ∧ y ≠ 8 ∧ (y < 33 ∨ 36 < y) ∧ (y < 110 ∨ 113 < y)) := q1.imp id (fun z => npf z.1)
        rw [g.1 x y (by omega) (by omega) (by omega), M2 x y (by omega)]
      have cv : ∀ {t' m' : St}, FGh G t9 t' → FGm G v2 m' → ∀ u v, F00 t' m' u v → LwH t u ∧ LwM m v := fun g1 g2 u v q => ⟨LH _ (g1.tr (FGh.h q.1)), LM _ (g2.tr (FGm.h q.2))⟩
      have V15 : ∀ {v : St}, FGm G v2 v → v.1 200 15 = G := fun g => by rw [g.1 200 15 (by omega) (by omega) (by omega), M2 200 15 (by omega)]; exact hG
      -- from
      refine SIMf.bind ((s0_key (N := N) (k := 4) hP9 (by omega) hN).mo (cv (FGh.h H0.rf) (FGm.h M0.rf)) (fun _ _ q => q)) (fun u3 v3 q3 => ?_)
      obtain ⟨c1, c2, c3⟩ := q3
      have hNm3 : NmR (pI u3 313 2 (G : Int)) v3 := by
        refine NmR.lw hNm2 (fun o ho => ?_) (fun s x hs hx => ?_) (fun b _ => c3.1 9 b (by omega)) (fun x k hx _ => c3.1 x k (by omega)) (c3.1 200 13 (by omega))
        · by_cases ho1 : o = 1
          · subst ho1; rw [hc2]; exact pI_at
          · rw [pI_ne (by omega), c2.1 (312 + o) 2 (by omega) (by omega), T9 (312 + o) 2 (by omega)]
        · rw [pI_L, c2.2]
          by_cases hs1 : s = 1
          · subst hs1; exact o10 x (by omega)
          · rw [o5 (340 + s) (by omega)]
      have hP3 : PR (pI u3 313 2 (G : Int)) v3 B e mm 0 (i + 1 + 1 + 1) := c1.mv (k2 := 0) (TKs.mv c1.1 (by rw [pI_ne (by decide)]) (fun x hx => pI_ne (by omega)) rfl) (fun b _ => by rw [pI_ne (by decide)]) (by rw [pI_ne (by decide)]) (fun _ _ _ _ _ _ _ => rfl) rfl c1.2.2.2.2.2.2.2.1.1 (by rw [pI_ne (by decide)]; exact c1.2.2.2.2.2.2.2.1.2)
      refine SIMf.bind ((s0_known (N := N) c1 hP3 hNm3 (pI_ne (by decide)) rfl hN).mo (cv (FGh.h c2) (FGm.h c3)) (fun _ _ q => q)) (fun u4 v4 q4 => ?_)
      obtain ⟨f, d1, d2, d3, d4, d5, d6⟩ := q4
      have hfm : (f : Int) < m.1 200 14 := by
        rw [c2.1 312 2 (by omega) (by omega), T9 312 2 (by omega), H2 312 2 (by omega) (by omega), h6.2.1.1] at d1; exact d1
      have hf40 : f < 40 := by omega
      have FH4 : FGh G t9 (pI u4 354 G (f : Int)) := (FGh.h (c2.tr d5)).tr (FGh.s (by omega))
      have FM4 : FGm G v2 (pI v4 23 G (f : Int)) := (FGm.h (c3.tr d6)).tr (FGm.s (by omega))
      rw [V15 (FGm.h (c3.tr d6)), ixI_ok (by omega), ixI_ok (by omega), Int.toNat_natCast, d2, d3]
      refine SIMf.bind ((s0_key (N := N) (k := 5) (d4.g (k := 354) (q := G) (x := (f : Int)) (l := 23) (r := G) (y := (f : Int)) (by omega) (by omega)) (by omega) hN).mo (cv FH4 FM4) (fun _ _ q => q)) (fun u5 v5 q5 => ?_)
      obtain ⟨e1, e2, e3⟩ := q5
      refine SIMf.bind ((s0_num (N := N) (lo := 0) (hi := 64) e1 (by omega) (by omega) hN).mo (cv (FH4.tr (FGh.h e2)) (FM4.tr (FGm.h e3))) (fun _ _ q => q)) (fun u6 v6 q6 => ?_)
      obtain ⟨C, f1, f2, f3, f4, f5, f6⟩ := q6
      have FH6 : FGh G t9 (pI u6 355 G C) := ((FH4.tr (FGh.h e2)).tr (FGh.h f5)).tr (FGh.s (by omega))
      have FM6 : FGm G v2 (pI v6 24 G C) := ((FM4.tr (FGm.h e3)).tr (FGm.h f6)).tr (FGm.s (by omega))
      rw [V15 ((FM4.tr (FGm.h e3)).tr (FGm.h f6)), ixI_ok (by omega), ixI_ok (by omega), Int.toNat_natCast, f2, f3]
      refine SIMf.bind ((s0_key (N := N) (k := 6) (f4.g (k := 355) (q := G) (x := C) (l := 24) (r := G) (y := C) (by omega) (by omega)) (by omega) hN).mo (cv FH6 FM6) (fun _ _ q => q)) (fun u7 v7 q7 => ?_)
      obtain ⟨g1, g2, g3⟩ := q7
      refine SIMf.bind ((s0_num (N := N) (lo := 0) (hi := 1000) g1 (by omega) (by omega) hN).mo (cv (FH6.tr (FGh.h g2)) (FM6.tr (FGm.h g3))) (fun _ _ q => q)) (fun u8 v8 q8 => ?_)
      obtain ⟨P, i1, i2, i3, i4, i5, i6⟩ := q8
      have FH8 : FGh G t9 (pI u8 356 G P) := ((FH6.tr (FGh.h g2)).tr (FGh.h i5)).tr (FGh.s (by omega))
      have FM8 : FGm G v2 (pI v8 25 G P) := ((FM6.tr (FGm.h g3)).tr (FGm.h i6)).tr (FGm.s (by omega))
      rw [V15 ((FM6.tr (FGm.h g3)).tr (FGm.h i6)), ixI_ok (by omega), ixI_ok (by omega), Int.toNat_natCast, i2, i3]
      have hs := s0_sign (N := N) (k := 61) (i4.g (k := 356) (q := G) (x := P) (l := 25) (r := G) (y := P) (by omega) (by omega)) (by unfold isSg; omega) hN
      rw [show (40 : Int) + sgi 61 = 46 from rfl] at hs
      refine SIMf.bind (hs.mo (cv FH8 FM8) (fun _ _ q => q)) (fun u9 v9 q9 => ?_)
      obtain ⟨j1, j2, j3⟩ := q9
      have FH9 := FH8.tr (FGh.h j2)
      have FM9 := FM8.tr (FGm.h j3)
      have E354 : u9.1 354 G = f := by rw [j2.1 354 G (by omega) (by omega), pI_ne (by decide), i5.1 354 G (by omega) (by omega), g2.1 354 G (by omega) (by omega), pI_ne (by decide), f5.1 354 G (by omega) (by omega), e2.1 354 G (by omega) (by omega), pI_at]
      have E355 : u9.1 355 G = C := by rw [j2.1 355 G (by omega) (by omega), pI_ne (by decide), i5.1 355 G (by omega) (by omega), g2.1 355 G (by omega) (by omega), pI_at]
      have E356 : u9.1 356 G = P := by rw [j2.1 356 G (by omega) (by omega), pI_at]
      have E23 : v9.1 23 G = f := by rw [j3.1 23 G (by omega), pI_ne (by decide), i6.1 23 G (by omega), g3.1 23 G (by omega), pI_ne (by decide), f6.1 23 G (by omega), e3.1 23 G (by omega), pI_at]
      have E24 : v9.1 24 G = C := by rw [j3.1 24 G (by omega), pI_ne (by decide), i6.1 24 G (by omega), g3.1 24 G (by omega), pI_at]
      have E25 : v9.1 25 G = P := by rw [j3.1 25 G (by omega), pI_at]
      have hS := h6.2.2.2.1 f hfm
      obtain ⟨k, hk9⟩ := Int.eq_ofNat_of_zero_le (show 0 ≤ m.1 18 f by omega)
      have E350 : u9.1 350 f = k := by rw [FH9.1 350 f (by omega) (by omega) (by omega) (by omega), T9 350 f (by omega), H2 350 f (by omega) (by omega), hS.1]; exact hk9
      have E18 : v9.1 18 f = k := by rw [FM9.1 18 f (by omega) (by omega) (by omega), M2 18 f (by omega)]; exact hk9
      rw [ixI_ok (show 0 ≤ (f : Int) ∧ (f : Int) < (40 : Nat) by omega), E350, V15 FM9, ixI_ok (show 0 ≤ (G : Int) ∧ (G : Int) < (100 : Nat) by omega), Int.toNat_natCast, E23, ixI_ok (show 0 ≤ (f : Int) ∧ (f : Int) < (40 : Nat) by omega), Int.toNat_natCast, E18]
      obtain ⟨n, hn⟩ : ∃ n, N = n + 1 := ⟨N - 1, by omega⟩
      have hRG : f_X7_readGoals N G k u9 = (bdI (f_X7_readGoal N (((G : Int) * 8) + ((0 : Nat) : Int)) u9) fun v10 t9 => cmpI v10 0 (if v10 = 0 then (boI 0 (some (0, t9))) else (f_X7_readGoals_L2 N (Kw6 N) (Kg6 N) G k n (((0 : Nat) : Int) + 1) t9))) := by
        unfold f_X7_readGoals
        conv => lhs; arg 6; rw [hn]
        conv => lhs; unfold f_X7_readGoals_L2
        rw [cmpI_ok (by omega), if_pos (show (0 : Int) < k by omega), jn1_k, cmpI_ok (by omega), if_neg (by decide)]
        rfl
      rw [hRG]
      rcases fig_lp (t0 := u9) (m0 := v9) (G := G) (k := k) hN h40 (by omega) (fun (t76 : St) => bdV (f_X12_tell N 1 (t76.1 200 15) (v2.1 200 111) (v2.1 200 112) t76) fun t78 => boI 1 (some (1, pI t78 200 15 (t78.1 200 15 + 1)))) (k - 1) 0 n N (i + 1 + 1 + 1 + 1 + 1 + 1 + 1 + 1 + 1) u9 v9 (by omega) (by omega) (by omega) j1 (V15 FM9) (fun j hj => by omega) (GHh.h H0.rf) (GHm.h M0.rf) with ⟨u, v, p1, p2, p3, p4, p5⟩ | ⟨u, v, i3', p1, p2, p3, p4, p5, p6, p7⟩
      · rw [p1, bdI_s, cmpI_ok (by omega), if_pos rfl, boI_0]
        exact Or.inl ⟨u, v, rfl, p2, p3, LH _ (FH9.tr (FGh.g p4)), LM _ (FM9.tr (FGm.g p5))⟩
      · rw [p1, bdI_s, cmpI_ok (by omega), if_neg (by decide), boI_1]
        have FHu := FH9.tr (FGh.g p6)
        have FMv := FM9.tr (FGm.g p7)
        have V2 : ∀ x y, (x ≠ 200 ∨ ((y < 2 ∨ 6 < y) ∧ y ≠ 8 ∧ (y < 110 ∨ 113 < y))) → (x < 23 ∨ 28 < x) → v.1 x y = v2.1 x y := fun x y z1 z2 => FMv.1 x y z1 (by omega) (by omega)
        have w13 : v.1 200 13 = m.1 200 13 := by rw [V2 200 13 (by omega) (by omega), M2 200 13 (by omega)]
        have hNmw : NmR u2 v := NmR.mv hNm2 (fun _ _ => rfl) (fun _ _ => rfl) (fun x hx => funext fun y => V2 x y (by omega) (by omega)) (V2 200 13 (by omega) (by omega))
        obtain ⟨t9', m7, r1, r2, r3, _, ⟨r6, r7, r8, r9⟩, _, r11, r12⟩ := hadd v hNmw p4.2.2.1.1 (funext fun y => by rw [V2 9 y (by omega) (by omega), b9 9 y (by omega)]) (funext fun y => by rw [V2 10 y (by omega) (by omega), b9 10 y (by omega)]) (by rw [V2 200 13 (by omega) (by omega), b9 200 13 (by omega)])
        have et : t9 = t9' := Option.some.inj (o1.symm.trans r1)
        subst et
        have m15 : m7.1 200 15 = G := by rw [r7 15 (by decide)]; exact V15 FMv
        have ex : ∀ x, (18 ≤ x ∧ x ≤ 28) → (pI m7 200 15 ((G : Int) + 1)).1 x = v.1 x := fun x z => by rw [pI_ne (by omega), r6 x (by omega) (by omega) (by omega) (by omega) (by omega)]
        have ey : ∀ y, y ≠ 13 → y ≠ 15 → (pI m7 200 15 ((G : Int) + 1)).1 200 y = v.1 200 y := fun y z1 z2 => by rw [pI_nf z2, r7 y z1]
        have q354 : ∀ x, 354 ≤ x → x ≤ 356 → u.1 x G = u9.1 x G := fun x z1 z2 => p6.1 x G (by omega) (by omega) (by omega)
        have q23 : ∀ x, 23 ≤ x → x ≤ 25 → v.1 x G = v9.1 x G := fun x z1 z2 => p7.1 x G (by omega) (by omega)
        refine Or.inr ⟨u, pI m7 200 15 ((G : Int) + 1), rfl, p2.trans ?_, i3', G, hG, h40, by omega, ?_, ?_, ⟨?_, ?_, ?_, ?_⟩, ⟨f, k, ?_, ?_, ?_, ⟨?_, ?_⟩, ⟨?_, ?_⟩, ?_, ?_⟩, ?_, ⟨?_, pI_at, ?_⟩, ⟨?_, ?_, ?_, ?_⟩, LH _ FHu, ?_⟩
        · show bdV (f_X12_tell N 1 (v.1 200 15) (v2.1 200 111) (v2.1 200 112) v) (fun t78 => boI 1 (some (1, pI t78 200 15 (t78.1 200 15 + 1)))) = _
          have r2' : f_X12_tell N 1 (G : Int) (v2.1 200 111) (v2.1 200 112) v = some m7 := by rw [b4, b5]; exact r2
          rw [V15 FMv, r2', bdV_s, boI_1, m15]
        · refine p4.mv (k2 := 0) p4.1 (fun _ _ => rfl) rfl (fun b z1 z2 z3 z4 z5 z6 => ey b z1 z3) ?_ ?_ p4.2.2.2.2.2.2.2.1.2
          · rw [pI_ne (by decide), r6 0 (by decide) (by decide) (by decide) (by decide) (by decide)]
          · rw [ey 36 (by decide) (by decide)]; exact p4.2.2.2.2.2.2.2.1.1
        · refine NmR.mv r3 (fun o ho => ?_) (fun s hs => ?_) (fun x hx => by rw [pI_ne (by omega)]) (by rw [pI_nf (by decide)])
          · exact FHu.1 (312 + o) 2 (by omega) (by omega) (by omega) (by omega)
          · rw [FHu.2]
        · rw [FHu.1 302 16 (by omega) (by omega) (by omega) (by omega), T9 302 16 (by omega), H2 302 16 (by omega) (by omega)]
        · rw [FHu.1 302 18 (by omega) (by omega) (by omega) (by omega), T9 302 18 (by omega), H2 302 18 (by omega) (by omega)]
        · rw [ey 33 (by decide) (by decide), V2 200 33 (by omega) (by omega), M2 200 33 (by omega)]
        · rw [ey 17 (by decide) (by decide), V2 200 17 (by omega) (by omega), M2 200 17 (by omega)]
        · rw [ex 23 (by omega), q23 23 (by omega) (by omega)]; exact E23
        · rw [q354 354 (by omega) (by omega)]; exact E354
        · rw [ey 14 (by decide) (by decide), V2 200 14 (by omega) (by omega), M2 200 14 (by omega)]; exact hfm
        · rw [q354 355 (by omega) (by omega), ex 24 (by omega), q23 24 (by omega) (by omega), E355, E24]
        · rw [ex 24 (by omega), q23 24 (by omega) (by omega), E24]; exact f1
        · rw [q354 356 (by omega) (by omega), ex 25 (by omega), q23 25 (by omega) (by omega), E356, E25]
        · rw [ex 25 (by omega), q23 25 (by omega) (by omega), E25]; exact i1
        · rw [ex 18 (by omega), p7.1 18 f (by omega) (by omega)]; exact E18
        · exact p5.cg (fun _ _ _ _ _ => rfl) (fun x y z1 z2 _ => by rw [ex x (by omega)])
        · rw [p4.2.2.2.2.2.2.1.1, V2 200 35 (by omega) (by omega), M2 200 35 (by omega)]
          exact h1.2.2.2.2.2.2.1.1.symm
        · rw [pI_nf (by decide), r8, w13]
        · rw [FHu.1 313 2 (by omega) (by omega) (by omega) (by omega)]; exact T9c
        · rw [ey 14 (by decide) (by decide), V2 200 14 (by omega) (by omega), M2 200 14 (by omega)]
        · rw [ey 16 (by decide) (by decide), V2 200 16 (by omega) (by omega), M2 200 16 (by omega)]
        · rw [FHu.1 312 2 (by omega) (by omega) (by omega) (by omega), T9 312 2 (by omega), H2 312 2 (by omega) (by omega)]
        · rw [FHu.1 314 2 (by omega) (by omega) (by omega) (by omega), T9 314 2 (by omega), H2 314 2 (by omega) (by omega)]
        · exact LwM.p (Or.inr ⟨by decide, by decide⟩) (tell_lw (LM v FMv) w13 r6 r7 r9 r11 r12)
  · rw [if_neg h40, cmpI_ok (by omega), if_neg (by decide), if_pos (show (G : Int) = 100 by omega), c_wrong, bdI_s, boI_0, s_wrong, bdI_s, boI_0]
    exact Or.inl ⟨_, _, rfl, rfl, FR_of h1 (by omega), LwH.rf.p, LwM.rf.p (by unfold PFd; omega)⟩
end
