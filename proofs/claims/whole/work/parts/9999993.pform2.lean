/-! reading in lock step: a form, whole -/
/-- the hall's cells that lie below the counts -/
def LwA (x y : Nat) (F G P A a : Int) : Prop := x ≠ 303 ∧ (x ≠ 302 ∨ (y ≠ 16 ∧ y ≠ 18 ∧ y ≠ 19)) ∧ ((x < 312 ∨ 314 < x) ∨ y ≠ 2) ∧ (x ≠ 350 ∨ (y : Int) < F) ∧ ((x ≠ 351 ∧ x ≠ 352) ∨ (y : Int) < 32 * F) ∧ (x ≠ 353 ∨ (y : Int) < 8 * F) ∧ ((x < 354 ∨ 356 < x) ∨ (y : Int) < G) ∧ ((x < 357 ∨ 359 < x) ∨ (y : Int) < 8 * G) ∧ (x ≠ 360 ∨ (y : Int) < P) ∧ ((x ≠ 361 ∧ x ≠ 362) ∨ (y : Int) < A) ∧ (x ≠ 363 ∨ (y : Int) < a)
def LwL (x y : Nat) (F G P : Int) : Prop := (x ≠ 340 ∨ (y : Int) < 3 * F) ∧ (x ≠ 341 ∨ (y : Int) < 3 * G) ∧ (x ≠ 342 ∨ (y : Int) < 3 * P)
def LwH (t u : St) : Prop := (∀ x y : Nat, LwA x y (t.1 312 2) (t.1 313 2) (t.1 314 2) (t.1 302 16) (t.1 302 18) → u.1 x y = t.1 x y) ∧ ∀ x y : Nat, LwL x y (t.1 312 2) (t.1 313 2) (t.1 314 2) → u.2 x y = t.2 x y
/-- the model's -/
def LwB (x y : Nat) (K F G P A c : Int) : Prop := (x ≠ 200 ∨ (¬ PFd y ∧ (y < 13 ∨ 17 < y))) ∧ (x ≠ 9 ∨ (y : Int) < 24 * K) ∧ ((x < 10 ∨ 12 < x) ∨ (y : Int) < K) ∧ (x ≠ 18 ∨ (y : Int) < F) ∧ ((x < 19 ∨ 22 < x) ∨ (y : Int) < 8 * F) ∧ ((x < 23 ∨ 25 < x) ∨ (y : Int) < G) ∧ ((x < 26 ∨ 28 < x) ∨ (y : Int) < 8 * G) ∧ (x ≠ 29 ∨ (y : Int) < P) ∧ (x ≠ 30 ∨ (y : Int) < A) ∧ ((x ≠ 31 ∧ x ≠ 32) ∨ (y : Int) < c)
def LwM (m v : St) : Prop := (∀ x y : Nat, LwB x y (m.1 200 13) (m.1 200 14) (m.1 200 15) (m.1 200 16) (m.1 200 17) (m.1 200 33) → v.1 x y = m.1 x y) ∧ v.2 = m.2
theorem LwA.mono {x y : Nat} {F G P A a F2 G2 P2 A2 a2 : Int} (h : LwA x y F G P A a) (h1 : F ≤ F2) (h2 : G ≤ G2) (h3 : P ≤ P2) (h4 : A ≤ A2) (h5 : a ≤ a2) : LwA x y F2 G2 P2 A2 a2 := by
  obtain ⟨q1, q2, q3, q4, q5, q6, q7, q8, q9, q10, q11⟩ := h
  exact ⟨q1, q2, q3, q4.imp id (fun q => by omega), q5.imp id (fun q => by omega), q6.imp id (fun q => by omega), q7.imp id (fun q => by omega), q8.imp id (fun q => by omega), q9.imp id (fun q => by omega), q10.imp id (fun q => by omega), q11.imp id (fun q => by omega)⟩
theorem LwB.mono {x y : Nat} {K F G P A a K2 F2 G2 P2 A2 a2 : Int} (h : LwB x y K F G P A a) (h0 : K ≤ K2) (h1 : F ≤ F2) (h2 : G ≤ G2) (h3 : P ≤ P2) (h4 : A ≤ A2) (h5 : a ≤ a2) : LwB x y K2 F2 G2 P2 A2 a2 := by
  obtain ⟨q1, q2, q3, q4, q5, q6, q7, q8, q9, q10⟩ := h
  exact ⟨q1, q2.imp id (fun q => by omega), q3.imp id (fun q => by omega), q4.imp id (fun q => by omega), q5.imp id (fun q => by omega), q6.imp id (fun q => by omega), q7.imp id (fun q => by omega), q8.imp id (fun q => by omega), q9.imp id (fun q => by omega), q10.imp id (fun q => by omega)⟩
theorem LwH.rf {t : St} : LwH t t := ⟨fun _ _ _ => rfl, fun _ _ _ => rfl⟩
theorem LwM.rf {t : St} : LwM t t := ⟨fun _ _ _ => rfl, rfl⟩
theorem LwH.tr {t u v : St} (h : LwH t u) (g : LwH u v) (h1 : t.1 312 2 ≤ u.1 312 2) (h2 : t.1 313 2 ≤ u.1 313 2) (h3 : t.1 314 2 ≤ u.1 314 2) (h4 : t.1 302 16 ≤ u.1 302 16) (h5 : t.1 302 18 ≤ u.1 302 18) : LwH t v :=
  ⟨fun x y q => (g.1 x y (q.mono h1 h2 h3 h4 h5)).trans (h.1 x y q), fun x y q => (g.2 x y ⟨q.1.imp id (fun q => by omega), q.2.1.imp id (fun q => by omega), q.2.2.imp id (fun q => by omega)⟩).trans (h.2 x y q)⟩
theorem LwM.tr {t u v : St} (h : LwM t u) (g : LwM u v) (h0 : t.1 200 13 ≤ u.1 200 13) (h1 : t.1 200 14 ≤ u.1 200 14) (h2 : t.1 200 15 ≤ u.1 200 15) (h3 : t.1 200 16 ≤ u.1 200 16) (h4 : t.1 200 17 ≤ u.1 200 17) (h5 : t.1 200 33 ≤ u.1 200 33) : LwM t v :=
  ⟨fun x y q => (g.1 x y (q.mono h0 h1 h2 h3 h4 h5)).trans (h.1 x y q), g.2.trans h.2⟩
theorem LwH.c {t u : St} (h : sC t u) : LwH t u := ⟨fun x y q => h.1 x y (Or.inl q.1) (q.2.1.imp id (fun z => z.2.2)), fun x y _ => by rw [h.2]⟩
theorem LwH.p {t u : St} {y : Nat} {v : Int} (h : LwH t u) : LwH t (pI u 303 y v) := ⟨fun x z q => by rw [pI_ne q.1]; exact h.1 x z q, h.2⟩
theorem LwM.p {m w : St} {y : Nat} {v : Int} (hy : PFd y ∨ (13 ≤ y ∧ y ≤ 17)) (h : LwM m w) : LwM m (pI w 200 y v) := ⟨fun x z q => by
  rw [← h.1 x z q]
  by_cases hx : x = 200
  · subst hx
    have q1 : ¬ PFd z ∧ (z < 13 ∨ 17 < z) := q.1.elim (fun q => absurd rfl q) id
    have : z ≠ y := fun k => by
      rcases hy with hy | hy
      · exact q1.1 (by rw [k]; exact hy)
      · omega
    rw [pI_nf this]
  · rw [pI_ne hx], h.2⟩
theorem npf {y : Nat} (h : ¬ PFd y) : (y < 2 ∨ 6 < y) ∧ y ≠ 8 ∧ (y < 33 ∨ 36 < y) ∧ (y < 110 ∨ 113 < y) := by
  unfold PFd at h; omega
theorem pI_of {u : St} {k j x y : Nat} {v : Int} (z : x ≠ k ∨ y ≠ j) : (pI u k j v).1 x y = u.1 x y := by
  by_cases hx : x = k
  · subst hx; rw [pI_nf (z.elim (fun q => absurd rfl q) id)]
  · rw [pI_ne hx]
/-- a name is told: nothing below the counts changes -/
theorem tell_lw {m w m7 : St} (h : LwM m w) (w13 : w.1 200 13 = m.1 200 13) (r6 : ∀ a, a ≠ 9 → a ≠ 10 → a ≠ 11 → a ≠ 12 → a ≠ 200 → m7.1 a = w.1 a) (r7 : ∀ b, b ≠ 13 → m7.1 200 b = w.1 200 b) (r9 : m7.2 = w.2) (r11 : ∀ b, b < 24 * (w.1 200 13).toNat → m7.1 9 b = w.1 9 b) (r12 : ∀ k : Nat, (k : Int) ≠ w.1 200 13 → m7.1 10 k = w.1 10 k ∧ m7.1 11 k = w.1 11 k ∧ m7.1 12 k = w.1 12 k) : LwM m m7 := by
  rw [w13] at r11 r12
  refine ⟨fun x y q => ?_, r9.trans h.2⟩
  rw [← h.1 x y q]
  obtain ⟨q1, q2, q3, _⟩ := q
  by_cases hx : x = 200
  · subst hx
    have q1' : ¬ PFd y ∧ (y < 13 ∨ 17 < y) := q1.elim (fun z => absurd rfl z) id
    exact r7 y (by omega)
  · by_cases hx9 : x = 9
    · subst hx9
      exact r11 y (by omega)
    · by_cases hx10 : x = 10
      · subst hx10; exact (r12 y (by omega)).1
      · by_cases hx11 : x = 11
        · subst hx11; exact (r12 y (by omega)).2.1
        · by_cases hx12 : x = 12
          · subst hx12; exact (r12 y (by omega)).2.2
          · rw [r6 x hx9 hx10 hx11 hx12 hx]
section
variable {N : Nat} {B : Nat → Int} {e mm i a c : Nat} {t m : St}
def RFm (B : Nat → Int) (e mm i : Nat) (t m u v : St) : Prop := ∃ i2 f n : Nat, m.1 200 14 = f ∧ f < 40 ∧ i < i2 ∧ PR u v B e mm 0 i2 ∧ NmR u v ∧ (u.1 302 16 = t.1 302 16 ∧ u.1 302 18 = t.1 302 18 ∧ v.1 200 33 = m.1 200 33 ∧ v.1 200 17 = m.1 200 17) ∧ (fmO v f n ∧ fhO u v f n) ∧ u.1 303 6 = t.1 303 6 ∧ (v.1 200 13 = m.1 200 13 + 1 ∧ v.1 200 14 = f + 1 ∧ u.1 312 2 = f + 1) ∧ (v.1 200 15 = m.1 200 15 ∧ v.1 200 16 = m.1 200 16 ∧ u.1 313 2 = t.1 313 2 ∧ u.1 314 2 = t.1 314 2) ∧ LwH t u ∧ LwM m v
set_option maxHeartbeats 4000000 in
theorem form_both (hN : 5000 ≤ N) (h : BKh B e mm i a c t m) (hk : cKd B e (ch B e i) = 0) : SIMf B e mm (fun u v => LwH t u ∧ LwM m v) (RFm B e mm i t m) (f_X7_readForm N t) (f_X12_form N m) := by
  obtain ⟨h1, h2, h3, h4, h5, h6, h7, h8, h9⟩ := h
  have hr := h6.2.2.1
  obtain ⟨f, hf⟩ := Int.eq_ofNat_of_zero_le hr.1
  have hft : t.1 312 2 = f := by rw [← hf]; exact h6.2.1.1
  have hfull : f_X6_isFull N 0 t = some (if f < 40 then 0 else 1, t) := by
    unfold f_X6_isFull
    rw [lt1_k, lt1_k, show t.1 (312 + 0) 2 = (f : Int) from hft, show t.1 (312 + 0) 1 = 40 from h7.1, cmpI_ok (by omega), boI_0, boI_1]
    by_cases h40 : f < 40
    · rw [if_pos h40, if_pos (by omega)]
    · rw [if_neg h40, if_neg (by omega)]
  unfold f_X7_readForm f_X12_form
  simp only [lt1_k]
  rw [hfull, bdI_s, show t.1 (312 + 0) 2 = (f : Int) from hft, hf, cmpI_ok (show inR (f : Int) ∧ inR 40 by omega)]
  by_cases h40 : f < 40
  · rw [if_pos h40, cmpI_ok (by omega), if_pos rfl, if_neg (show ¬ (f : Int) = 40 by omega)]
    obtain ⟨u1, v1, a1, a2, a3, a4, a5⟩ := nx0 (N := N) h1 (tq_lt h1 (by omega)) hN
    rw [a1, bdI_s, cmpI_ok (by omega), if_neg (by decide), a2, bdV_s]
    have hNm1 : NmR u1 v1 := NmR.mv h2 (fun o ho => a4.1 (312 + o) 2 (by omega) (by omega)) (fun s hs => by rw [a4.2]) (fun x hx => funext fun y => a5.1 x y (by omega)) (a5.1 200 13 (by omega))
    have LH1 : LwH t u1 := LwH.c a4
    have LM1 : LwM m v1 := ⟨fun x y q => a5.1 x y (q.1.imp id (fun z => (npf z.1).1)), a5.2⟩
    rcases new0 (N := N) a3 hNm1 hN with ⟨w, hw, b1, b2⟩ | ⟨u2, v2, b1, b2, b3, b4, b5, b6, b7, b8, b9, b10⟩
    · rw [b1, bdI_s, cmpI_ok (by omega), if_pos rfl, boI_0, b2, bdI_s, cmpI_ok (by omega), if_pos rfl, boI_0]
      exact Or.inl ⟨_, _, rfl, rfl, FR_of a3 hw, LH1.p, LM1.p (by unfold PFd; omega)⟩
    · rw [b1, bdI_s, cmpI_ok (by omega), if_neg (by decide), b2, bdI_s, cmpI_ok (by omega), if_neg (by decide)]
      have hi2 := b7.2.1
      have H2 : ∀ x y, x ≠ 303 → (x ≠ 302 ∨ y ≠ 19) → u2.1 x y = t.1 x y := fun x y z1 z2 => (b8.1 x y (Or.inl z1) z2).trans (a4.1 x y (Or.inl z1) z2)
      have M2 : ∀ x y, (x ≠ 200 ∨ y < 2 ∨ (6 < y ∧ y ≠ 111 ∧ y ≠ 112)) → v2.1 x y = m.1 x y := fun x y z => (b9 x y z).trans (a5.1 x y (by omega))
      have hNm2 : NmR u2 v2 := NmR.mv h2 (fun o ho => H2 (312 + o) 2 (by omega) (by omega)) (fun s hs => by rw [b8.2, a4.2]) (fun x hx => funext fun y => M2 x y (by omega)) (M2 200 13 (by omega))
      have hc2 : u2.1 (312 + 0) 2 = f := by rw [H2 (312 + 0) 2 (by omega) (by omega)]; exact hft
      have hc1 : u2.1 (312 + 0) 1 = 40 := by rw [H2 (312 + 0) 1 (by omega) (by omega)]; exact h7.1
      have hnb : ∀ w : St, w.1 9 = v1.1 9 → w.1 10 = v1.1 10 → nmb w = nmb v1 := fun w z1 z2 => by
        funext b9 L9 k9
        unfold nmb
        rw [show nmLen w = nmLen v1 by funext z; unfold nmLen; rw [z2], show nmW w = nmW v1 by funext z y; unfold nmW; rw [z1]]
      have hadd := fun (w : St) (q1 : NmR u2 w) (q2 : mTx w B e) (q3 : w.1 9 = v1.1 9) (q4 : w.1 10 = v1.1 10) (q5 : w.1 200 13 = v1.1 200 13) => nm_add (N := N) (t := u2) (m := w) (s := 0) (n := f) (j := i + 1) q1 (by omega) b7.1 (by omega) q2 b3 hc2 (by omega) (by rw [hc1]; decide) (by rw [q5, a5.1 200 13 (by omega)]; omega) (by rw [hnb w q3 q4, q5]; exact b6) hN
      obtain ⟨t9, mE, o1, _, _, ⟨o4, o5⟩, _, o10, _⟩ := hadd v2 hNm2 b7.2.2.1.1 (funext fun y => b9 9 y (by omega)) (funext fun y => b9 10 y (by omega)) (b9 200 13 (by omega))
      rw [b7.2.2.2.1, show ((i + 1 + 1 : Nat) : Int) - 1 = ((i + 1 : Nat) : Int) by omega, o1, bdV_s, ixI_ok (by omega), Int.toNat_natCast]
      generalize ht10 : pI t9 350 f 0 = t10
      have T10 : ∀ x y, (x ≠ 312 ∨ y ≠ 2) → (x ≠ 350 ∨ y ≠ f) → t10.1 x y = u2.1 x y := fun x y z1 z2 => by
        rw [← ht10, pI_of z2, o4, pI_of (u := u2) (k := 312 + 0) (by omega)]
      have T10c : t10.1 312 2 = f + 1 := by rw [← ht10, pI_ne (by decide), o4]; show (pI u2 (312 + 0) 2 ((f + 1 : Nat) : Int)).1 (312 + 0) 2 = _; rw [pI_at]; omega
      have T10L : t10.2 = t9.2 := by rw [← ht10]; rfl
      have hTK : TKs t10 B e mm := TKs.mv b7.1 (T10 301 7 (by omega) (by omega)) (fun x hx => funext fun y => T10 x y (by omega) (by omega)) (by rw [T10L]; exact o5 335 (by omega))
      have hP10 : PR t10 v2 B e mm 0 (i + 1 + 1) := b7.mv (k2 := 0) hTK (fun b _ => T10 303 b (by omega) (by omega)) (T10 302 19 (by omega) (by omega)) (fun _ _ _ _ _ _ _ => rfl) rfl b7.2.2.2.2.2.2.2.1.1 (by rw [T10 303 7 (by omega) (by omega)]; exact b7.2.2.2.2.2.2.2.1.2)
      have LH : ∀ u, FSh f t10 u → LwH t u := fun u g => by
        refine ⟨fun x y q => ?_, fun x y q => ?_⟩
        · rw [hft] at q
          obtain ⟨q1, q2, q3, q4, q5, q6, _⟩ := q
          rw [g.1 x y q1 (by omega) (by omega) (by omega) (by omega) (by omega), T10 x y (by omega) (by omega), H2 x y q1 (by omega)]
        · rw [hft] at q
          rw [g.2, T10L]
          by_cases hx : x = 340
          · subst hx
            rw [o10 y (by have := q.1; omega), b8.2, a4.2]
          · rw [o5 x hx, b8.2, a4.2]
      have LM : ∀ v, FSm f v2 v → LwM m v := fun v g => by
        refine ⟨fun x y q => ?_, g.2.trans (b10.trans a5.2)⟩
        rw [hf] at q
        obtain ⟨q1, _, _, _, q5, _⟩ := q
        have q1' : x ≠ 200 ∨ ((y < 2 ∨ 6 < y) ∧ y ≠ 8 ∧ (y < 33 ∨ 36 < y) ∧ (y < 110 ∨ 113 < y)) := q1.imp id (fun z => npf z.1)
        rw [g.1 x y (by omega) (by omega), M2 x y (by omega)]
      rcases sign0 (N := N) (k := 61) hP10 (by unfold isSg; omega) hN with ⟨s1, s2⟩ | ⟨u3, v3, s1, s2, s3, s4, s5⟩
      · rw [show (40 : Int) + sgi 61 = 46 from rfl] at s1
        rw [s1, bdI_s, cmpI_ok (by omega), if_pos rfl, boI_0, s2, bdI_s, cmpI_ok (by omega), if_pos rfl, boI_0]
        exact Or.inl ⟨_, _, rfl, rfl, FR_of hP10 (by omega), LH _ FSh.p, LM _ FSm.p8⟩
      · rw [show (40 : Int) + sgi 61 = 46 from rfl] at s1
        rw [s1, bdI_s, cmpI_ok (by omega), if_neg (by decide), s2, bdI_s, cmpI_ok (by omega), if_neg (by decide)]
        have hm14 : v2.1 200 14 = f := by rw [M2 200 14 (by omega)]; exact hf
        rcases form_lp (t0 := t10) (m0 := v2) hN h40 (fun (k28 : Int) (t29 : St) => ixI (t29.1 200 14) 40 (bdV (f_X12_tell N 0 ((pI t29 18 (t29.1 200 14).toNat k28).1 200 14) (v2.1 200 111) (v2.1 200 112) (pI t29 18 (t29.1 200 14).toNat k28)) fun t33 => boI 1 (some (1, pI t33 200 14 (t33.1 200 14 + 1))))) (fun (t26 : St) => boI 0 (some (0, t26))) 8 0 N N (i + 1 + 1 + 1) u3 v3 (by omega) (by omega) (by omega) s3 (by rw [s5.1 200 14 (by omega)]; exact hm14) ⟨by rw [s4.1 350 f (by omega) (by omega), ← ht10, pI_at]; rfl, fun j hj => by omega⟩ ⟨fun j hj => by omega, fun i j hi hj => by omega⟩ (FSh.c s4) (FSm.c s5) with ⟨u, v, p1, p2, p3, p4, p5⟩ | ⟨u, v, n2, i2, p1, p2, p3, p4, p5, p6, p7, p8, p9, p10⟩
        · exact Or.inl ⟨u, v, p1, p2, p3, LH _ p4, LM _ p5⟩
        · have v14 : v.1 200 14 = f := by rw [p10.1 200 14 (by omega) (by omega)]; exact hm14
          generalize hw : pI v 18 f (n2 : Int) = w
          have w1 : ∀ x, x ≠ 18 → w.1 x = v.1 x := fun x z => by rw [← hw, pI_ne z]
          have V2 : ∀ x y, (x ≠ 200 ∨ y < 2 ∨ (6 < y ∧ y ≠ 8)) → (x < 18) ∨ x = 200 → w.1 x y = v2.1 x y := fun x y z1 z2 => by rw [w1 x (by omega)]; exact p10.1 x y z1 (by omega)
          have w13 : w.1 200 13 = m.1 200 13 := by rw [V2 200 13 (by omega) (by omega), M2 200 13 (by omega)]
          have hNmw : NmR u2 w := NmR.mv hNm2 (fun _ _ => rfl) (fun _ _ => rfl) (fun x hx => funext fun y => V2 x y (by omega) (by omega)) (V2 200 13 (by omega) (by omega))
          have hMT : mTx w B e := (p4.2.2.1.of (u := w) (fun b _ _ => by rw [w1 200 (by decide)]) (w1 0 (by decide))).1
          obtain ⟨t9', m7, r1, r2, r3, _, ⟨r6, r7, r8, r9⟩, _, r11, r12⟩ := hadd w hNmw hMT (funext fun y => by rw [V2 9 y (by omega) (by omega), b9 9 y (by omega)]) (funext fun y => by rw [V2 10 y (by omega) (by omega), b9 10 y (by omega)]) (by rw [V2 200 13 (by omega) (by omega), b9 200 13 (by omega)])
          have et : t9 = t9' := Option.some.inj (o1.symm.trans r1)
          subst et
          have m14 : m7.1 200 14 = f := by rw [r7 14 (by decide), w1 200 (by decide)]; exact v14
          have w14 : w.1 200 14 = f := by rw [w1 200 (by decide)]; exact v14
          refine Or.inr ⟨u, pI m7 200 14 ((f : Int) + 1), p1, p2.trans ?_, i2, f, n2, hf, h40, by omega, ?_, ?_, ⟨?_, ?_, ?_, ?_⟩, ⟨⟨h40, ?_, p6, p7, ?_, ?_⟩, ?_⟩, ?_, ⟨?_, pI_at, ?_⟩, ⟨?_, ?_, ?_, ?_⟩, LH _ p9, ?_⟩
          · show ixI (v.1 200 14) 40 (bdV (f_X12_tell N 0 ((pI v 18 (v.1 200 14).toNat (n2 : Int)).1 200 14) (v2.1 200 111) (v2.1 200 112) (pI v 18 (v.1 200 14).toNat (n2 : Int))) fun t33 => boI 1 (some (1, pI t33 200 14 (t33.1 200 14 + 1)))) = _
            have r2' : f_X12_tell N 0 (f : Int) (v2.1 200 111) (v2.1 200 112) w = some m7 := by rw [b4, b5]; exact r2
            rw [v14, ixI_ok (by omega), Int.toNat_natCast, hw, w14, r2', bdV_s, boI_1, m14]
          · refine p4.mv (k2 := 0) p4.1 (fun _ _ => rfl) rfl (fun b z1 z2 z3 z4 z5 z6 => ?_) ?_ ?_ p4.2.2.2.2.2.2.2.1.2
            · rw [pI_nf z2, r7 b z1, w1 200 (by decide)]
            · rw [pI_ne (by decide), r6 0 (by decide) (by decide) (by decide) (by decide) (by decide), w1 0 (by decide)]
            · rw [pI_nf (by decide), r7 36 (by decide), w1 200 (by decide)]; exact p4.2.2.2.2.2.2.2.1.1
          · refine NmR.mv r3 (fun o ho => ?_) (fun s hs => ?_) (fun x hx => by rw [pI_ne (by omega)]) (by rw [pI_nf (by decide)])
            · rw [p9.1 (312 + o) 2 (by omega) (by omega) (by omega) (by omega) (by omega) (by omega), ← ht10, pI_ne (by omega)]
            · rw [p9.2, T10L]
          · rw [p9.1 302 16 (by omega) (by omega) (by omega) (by omega) (by omega) (by omega), T10 302 16 (by omega) (by omega), H2 302 16 (by omega) (by omega)]
          · rw [p9.1 302 18 (by omega) (by omega) (by omega) (by omega) (by omega) (by omega), T10 302 18 (by omega) (by omega), H2 302 18 (by omega) (by omega)]
          · rw [pI_nf (by decide), r7 33 (by decide), V2 200 33 (by omega) (by omega), M2 200 33 (by omega)]
          · rw [pI_nf (by decide), r7 17 (by decide), V2 200 17 (by omega) (by omega), M2 200 17 (by omega)]
          · rw [pI_ne (by decide), r6 18 (by decide) (by decide) (by decide) (by decide) (by decide), ← hw, pI_at]
          · intro j hj
            have ex : ∀ x, 19 ≤ x → x ≤ 22 → (pI m7 200 14 ((f : Int) + 1)).1 x = v.1 x := fun x z1 z2 => by rw [pI_ne (by omega), r6 x (by omega) (by omega) (by omega) (by omega) (by omega), w1 x (by omega)]
            rw [ex 19 (by omega) (by omega), ex 20 (by omega) (by omega), ex 21 (by omega) (by omega), ex 22 (by omega) (by omega)]
            exact p8.1 j hj
          · intro j k hj hk9
            have ex : ∀ x, 19 ≤ x → x ≤ 22 → (pI m7 200 14 ((f : Int) + 1)).1 x = v.1 x := fun x z1 z2 => by rw [pI_ne (by omega), r6 x (by omega) (by omega) (by omega) (by omega) (by omega), w1 x (by omega)]
            rw [ex 19 (by omega) (by omega), ex 20 (by omega) (by omega)]
            exact p8.2 j k hj hk9
          · have ex : ∀ x, 19 ≤ x → x ≤ 22 → (pI m7 200 14 ((f : Int) + 1)).1 x = v.1 x := fun x z1 z2 => by rw [pI_ne (by omega), r6 x (by omega) (by omega) (by omega) (by omega) (by omega), w1 x (by omega)]
            unfold fhO
            rw [ex 19 (by omega) (by omega), ex 20 (by omega) (by omega), ex 21 (by omega) (by omega), ex 22 (by omega) (by omega)]
            exact p5
          · rw [p4.2.2.2.2.2.2.1.1, p10.1 200 35 (by omega) (by omega), M2 200 35 (by omega)]
            exact h1.2.2.2.2.2.2.1.1.symm
          · rw [pI_nf (by decide), r8, w13]
          · rw [p9.1 312 2 (by omega) (by omega) (by omega) (by omega) (by omega) (by omega)]; exact T10c
          · rw [pI_nf (by decide), r7 15 (by decide), V2 200 15 (by omega) (by omega), M2 200 15 (by omega)]
          · rw [pI_nf (by decide), r7 16 (by decide), V2 200 16 (by omega) (by omega), M2 200 16 (by omega)]
          · rw [p9.1 313 2 (by omega) (by omega) (by omega) (by omega) (by omega) (by omega), T10 313 2 (by omega) (by omega), H2 313 2 (by omega) (by omega)]
          · rw [p9.1 314 2 (by omega) (by omega) (by omega) (by omega) (by omega) (by omega), T10 314 2 (by omega) (by omega), H2 314 2 (by omega) (by omega)]
          · refine LwM.p (Or.inr ⟨by decide, by decide⟩) (tell_lw (w := w) ⟨fun x y q => ?_, by rw [← hw]; exact (LM v p10).2⟩ w13 r6 r7 r9 r11 r12)
            rw [← (LM v p10).1 x y q, ← hw]
            rw [hf] at q
            have q4 := q.2.2.2.1
            clear q
            exact pI_of (by omega)
  · rw [if_neg h40, cmpI_ok (by omega), if_neg (by decide), if_pos (show (f : Int) = 40 by omega), c_wrong, bdI_s, boI_0, s_wrong, bdI_s, boI_0]
    exact Or.inl ⟨_, _, rfl, rfl, FR_of h1 (by omega), LwH.rf.p, LwM.rf.p (by unfold PFd; omega)⟩
end
