/-! reading books and calls: what stays on either side, and the two sides together -/
/-- how many entries of an array of the book are in use -/
def thr (t : St) (a : Nat) : Int := if a = 350 then t.1 312 2 else if a ≤ 352 then 32 * t.1 312 2 else if a = 353 then 8 * t.1 312 2 else if a ≤ 356 then t.1 313 2 else if a ≤ 359 then 8 * t.1 313 2 else if a = 360 then t.1 314 2 else if a ≤ 362 then t.1 302 16 else t.1 302 18
/-- the hall: reading adds, and leaves the rest -/
def eqP (t u : St) : Prop :=
  (∀ a b : Nat, a ≠ 303 → (a < 350 ∨ 363 < a) → (a ≠ 302 ∨ (b ≠ 16 ∧ b ≠ 18 ∧ b ≠ 19)) → ((a < 312 ∨ 314 < a) ∨ b ≠ 2) → u.1 a b = t.1 a b) ∧
  (t.1 312 2 ≤ u.1 312 2 ∧ t.1 313 2 ≤ u.1 313 2 ∧ t.1 314 2 ≤ u.1 314 2 ∧ t.1 302 16 ≤ u.1 302 16 ∧ t.1 302 18 ≤ u.1 302 18) ∧
  (∀ a b : Nat, 350 ≤ a → a ≤ 363 → (b : Int) < thr t a → u.1 a b = t.1 a b) ∧
  (∀ a : Nat, (a < 340 ∨ 342 < a) → u.2 a = t.2 a) ∧
  (∀ o b : Nat, o < 3 → (b : Int) < 3 * t.1 (312 + o) 2 → u.2 (340 + o) b = t.2 (340 + o) b)
/-- how many entries of an array of the model's book are in use -/
def thM (m : St) (a : Nat) : Int := if a = 9 then 24 * m.1 200 13 else if a ≤ 12 then m.1 200 13 else if a = 18 then m.1 200 14 else if a ≤ 22 then 8 * m.1 200 14 else if a ≤ 25 then m.1 200 15 else if a ≤ 28 then 8 * m.1 200 15 else if a = 29 then m.1 200 16 else if a = 30 then m.1 200 17 else m.1 200 33
/-- the fields of the model that reading changes -/
def rdF (b : Nat) : Prop := (2 ≤ b ∧ b ≤ 6) ∨ b = 8 ∨ (13 ≤ b ∧ b ≤ 17) ∨ (33 ≤ b ∧ b ≤ 36) ∨ (110 ≤ b ∧ b ≤ 113)
def rdA (a : Nat) : Prop := (9 ≤ a ∧ a ≤ 12) ∨ (18 ≤ a ∧ a ≤ 32)
def eqQ (m u : St) : Prop :=
  (∀ a b : Nat, ¬ rdA a → (a ≠ 200 ∨ ¬ rdF b) → u.1 a b = m.1 a b) ∧
  (m.1 200 13 ≤ u.1 200 13 ∧ m.1 200 14 ≤ u.1 200 14 ∧ m.1 200 15 ≤ u.1 200 15 ∧ m.1 200 16 ≤ u.1 200 16 ∧ m.1 200 17 ≤ u.1 200 17 ∧ m.1 200 33 ≤ u.1 200 33) ∧
  (∀ a b : Nat, rdA a → (b : Int) < thM m a → u.1 a b = m.1 a b) ∧ u.2 = m.2
theorem thr_mono {t u : St} (h : t.1 312 2 ≤ u.1 312 2 ∧ t.1 313 2 ≤ u.1 313 2 ∧ t.1 314 2 ≤ u.1 314 2 ∧ t.1 302 16 ≤ u.1 302 16 ∧ t.1 302 18 ≤ u.1 302 18) (a : Nat) : thr t a ≤ thr u a := by
  obtain ⟨h1, h2, h3, h4, h5⟩ := h
  unfold thr
  split; · omega
  split; · omega
  split; · omega
  split; · omega
  split; · omega
  split; · omega
  split <;> omega
theorem thM_mono {m u : St} (h : m.1 200 13 ≤ u.1 200 13 ∧ m.1 200 14 ≤ u.1 200 14 ∧ m.1 200 15 ≤ u.1 200 15 ∧ m.1 200 16 ≤ u.1 200 16 ∧ m.1 200 17 ≤ u.1 200 17 ∧ m.1 200 33 ≤ u.1 200 33) (a : Nat) : thM m a ≤ thM u a := by
  obtain ⟨h1, h2, h3, h4, h5, h6⟩ := h
  unfold thM
  split; · omega
  split; · omega
  split; · omega
  split; · omega
  split; · omega
  split; · omega
  split; · omega
  split <;> omega
theorem eqP.rf {t : St} : eqP t t := ⟨fun _ _ _ _ _ _ => rfl, ⟨Int.le_refl _, Int.le_refl _, Int.le_refl _, Int.le_refl _, Int.le_refl _⟩, fun _ _ _ _ _ => rfl, fun _ _ => rfl, fun _ _ _ _ => rfl⟩
theorem eqP.tr {t u v : St} (h : eqP t u) (g : eqP u v) : eqP t v := by
  obtain ⟨h1, h2, h3, h4, h5⟩ := h
  obtain ⟨g1, g2, g3, g4, g5⟩ := g
  refine ⟨fun a b q1 q2 q3 q4 => (g1 a b q1 q2 q3 q4).trans (h1 a b q1 q2 q3 q4), by omega, fun a b q1 q2 q3 => ?_, fun a q => (g4 a q).trans (h4 a q), fun o b q1 q2 => ?_⟩
  · exact (g3 a b q1 q2 (Int.lt_of_lt_of_le q3 (thr_mono h2 a))).trans (h3 a b q1 q2 q3)
  · refine (g5 o b q1 ?_).trans (h5 o b q1 q2)
    have : o = 0 ∨ o = 1 ∨ o = 2 := by omega
    rcases this with rfl | rfl | rfl
    · have : t.1 (312 + 0) 2 ≤ u.1 (312 + 0) 2 := h2.1
      omega
    · have : t.1 (312 + 1) 2 ≤ u.1 (312 + 1) 2 := h2.2.1
      omega
    · have : t.1 (312 + 2) 2 ≤ u.1 (312 + 2) 2 := h2.2.2.1
      omega
theorem eqQ.rf {m : St} : eqQ m m := ⟨fun _ _ _ _ => rfl, ⟨Int.le_refl _, Int.le_refl _, Int.le_refl _, Int.le_refl _, Int.le_refl _, Int.le_refl _⟩, fun _ _ _ _ => rfl, rfl⟩
theorem eqQ.tr {m u v : St} (h : eqQ m u) (g : eqQ u v) : eqQ m v := by
  obtain ⟨h1, h2, h3, h4⟩ := h
  obtain ⟨g1, g2, g3, g4⟩ := g
  exact ⟨fun a b q1 q2 => (g1 a b q1 q2).trans (h1 a b q1 q2), by omega, fun a b q1 q2 => (g3 a b q1 (Int.lt_of_lt_of_le q2 (thM_mono h2 a))).trans (h3 a b q1 q2), g4.trans h4⟩
/-- a parser's field is written -/
theorem eqP.fld {t : St} {f : Nat} {v : Int} : eqP t (pI t 303 f v) := by
  refine ⟨fun a b q1 q2 q3 q4 => by rw [pI_ne q1], ?_, fun a b q1 q2 q3 => by rw [pI_ne (by omega)], fun _ _ => rfl, fun _ _ _ _ => rfl⟩
  rw [pI_ne (by decide), pI_ne (by decide), pI_ne (by decide), pI_ne (by decide)]
  omega
theorem eqP.tok {t : St} {v : Int} : eqP t (pI t 302 19 v) := by
  refine ⟨fun a b q1 q2 q3 q4 => ?_, ?_, fun a b q1 q2 q3 => by rw [pI_ne (by omega)], fun _ _ => rfl, fun _ _ _ _ => rfl⟩
  · rcases q3 with q | q
    · rw [pI_ne q]
    · rw [pI_nf q.2.2]
  · rw [pI_ne (by decide), pI_ne (by decide), pI_ne (by decide), pI_nf (by decide), pI_nf (by decide)]
    omega
theorem eqQ.fld {m : St} {f : Nat} {v : Int} (h1 : (2 ≤ f ∧ f ≤ 6) ∨ f = 8 ∨ (34 ≤ f ∧ f ≤ 36) ∨ (110 ≤ f ∧ f ≤ 113)) : eqQ m (pI m 200 f v) := by
  refine ⟨fun a b q1 q2 => ?_, ?_, fun a b q1 q2 => by rw [pI_ne (by unfold rdA at q1; omega)], rfl⟩
  · rcases q2 with q | q
    · rw [pI_ne q]
    · rw [pI_nf (fun h9 => q (by unfold rdF; omega))]
  · rw [pI_nf (by omega), pI_nf (by omega), pI_nf (by omega), pI_nf (by omega), pI_nf (by omega), pI_nf (by omega)]
    omega
theorem eqQ.next {m u : St} (g : eqF m u) : eqQ m u := by
  refine ⟨fun a b q1 q2 => g.1 a b ?_, ?_, fun a b q1 q2 => g.1 a b (by unfold rdA at q1; omega), g.2⟩
  · rcases q2 with q | q
    · exact Or.inl q
    · right; unfold rdF at q; omega
  · rw [g.1 200 13 (by omega), g.1 200 14 (by omega), g.1 200 15 (by omega), g.1 200 16 (by omega), g.1 200 17 (by omega), g.1 200 33 (by omega)]
    omega
/-- a token is kept -/
theorem eqQ.keep {m : St} {p : Nat} {v w : Int} (hp : m.1 200 33 ≤ p) (hw : m.1 200 33 ≤ w) : eqQ m (pI (pI m 31 p v) 200 33 w) := by
  refine ⟨fun a b q1 q2 => ?_, ?_, fun a b q1 q2 => ?_, rfl⟩
  · have h31 : a ≠ 31 := fun h9 => q1 (by unfold rdA; omega)
    rcases q2 with q | q
    · rw [pI_ne q, pI_ne h31]
    · rw [pI_nf (fun h9 => q (by unfold rdF; omega)), pI_ne h31]
  · have e1 : ∀ b, b ≠ 33 → (pI (pI m 31 p v) 200 33 w).1 200 b = m.1 200 b := fun b hb => by rw [pI_nf hb, pI_ne (by decide)]
    rw [e1 13 (by decide), e1 14 (by decide), e1 15 (by decide), e1 16 (by decide), e1 17 (by decide), pI_at]
    omega
  · rw [pI_ne (by unfold rdA at q1; omega)]
    by_cases h31 : a = 31
    · subst h31
      have : thM m 31 = m.1 200 33 := rfl
      rw [pI_nf (by omega)]
    · rw [pI_ne h31]
theorem eqQ.keep2 {m : St} {p : Nat} {v w : Int} (hp : m.1 200 33 ≤ p) : eqQ m (pI (pI m 31 p v) 200 34 w) := by
  refine ⟨fun a b q1 q2 => ?_, ?_, fun a b q1 q2 => ?_, rfl⟩
  · have h31 : a ≠ 31 := fun h9 => q1 (by unfold rdA; omega)
    rcases q2 with q | q
    · rw [pI_ne q, pI_ne h31]
    · rw [pI_nf (fun h9 => q (by unfold rdF; omega)), pI_ne h31]
  · have e1 : ∀ b, b ≠ 34 → (pI (pI m 31 p v) 200 34 w).1 200 b = m.1 200 b := fun b hb => by rw [pI_nf hb, pI_ne (by decide)]
    rw [e1 13 (by decide), e1 14 (by decide), e1 15 (by decide), e1 16 (by decide), e1 17 (by decide), e1 33 (by decide)]
    omega
  · rw [pI_ne (by unfold rdA at q1; omega)]
    by_cases h31 : a = 31
    · subst h31
      have : thM m 31 = m.1 200 33 := rfl
      rw [pI_nf (by omega)]
    · rw [pI_ne h31]
/-- both sides at the i-th token; kp: what the model keeps (0 nothing, 1 a part or allowed step, 2 a call) -/
def PR (t m : St) (B : Nat → Int) (e mm : Nat) (kp : Int) (i : Nat) : Prop :=
  TKs t B e mm ∧ i ≤ mm ∧ MTk m B e i ∧ t.1 303 2 = i ∧ t.1 303 3 = cKd B e (ch B e i) ∧ t.1 303 4 = cVl B e (ch B e i) ∧
  (t.1 303 6 = m.1 200 35 ∧ 0 ≤ m.1 200 35 ∧ m.1 200 35 ≤ 30 ∧ t.1 303 5 = 0 ∧ m.1 200 8 = 0) ∧ (m.1 200 36 = kp ∧ t.1 303 7 = (if kp = 1 then 1 else 0)) ∧
  (t.1 302 19 = m.1 200 33 ∧ 0 ≤ m.1 200 33 ∧ m.1 200 33 ≤ 6000) ∧ (0 ≤ m.1 200 34 ∧ m.1 200 34 ≤ i)
/-- both sides have found the same fault at the same place -/
def FR (t m : St) (B : Nat → Int) (e mm : Nat) : Prop := TKs t B e mm ∧ ∃ i : Nat, i ≤ mm ∧ t.1 303 2 = i ∧ m.1 200 4 = ch B e i ∧ t.1 303 5 = m.1 200 8 ∧ 1 ≤ m.1 200 8 ∧ m.1 200 8 ≤ 7 ∧ t.1 302 19 = m.1 200 33
/-- where the model's next kept token goes -/
def tpm (m : St) (kp : Int) : Nat := if kp = 1 then (m.1 200 33).toNat else 6000 + (m.1 200 34).toNat
theorem TKs.eqP {t u : St} {B : Nat → Int} {e mm : Nat} (h : TKs t B e mm) (g : eqP t u) : TKs u B e mm := by
  obtain ⟨h1, h2, h3, h4, h5, h6⟩ := h
  have e7 : u.1 301 7 = t.1 301 7 := g.1 301 7 (by decide) (by omega) (by omega) (by omega)
  refine ⟨fun i hi => ?_, h2, h3, by omega, by omega, h6⟩
  have h := h1 i hi
  refine ⟨?_, ?_, ?_, ?_⟩
  · rw [g.1 334 i (by decide) (by omega) (by omega) (by omega)]; exact h.1
  · rw [g.1 332 i (by decide) (by omega) (by omega) (by omega)]; exact h.2.1
  · rw [g.1 333 i (by decide) (by omega) (by omega) (by omega)]; exact h.2.2.1
  · rw [g.2.2.2.1 335 (by omega)]; exact h.2.2.2
theorem mTx.keep {m : St} {B : Nat → Int} {e p : Nat} {v : Int} (h : mTx m B e) : mTx (pI m 31 p v) B e := by
  refine ⟨?_, h.2.1, fun i hi => ?_⟩
  · rw [pI_ne (by decide)]; exact h.1
  · rw [pI_ne (by decide)]; exact h.2.2 i hi
theorem TokM.of {m u : St} {B : Nat → Int} {e q : Nat} (h : TokM m B e q) (g : ∀ b, 2 ≤ b → b ≤ 6 → u.1 200 b = m.1 200 b) : TokM u B e q := by
  obtain ⟨h1, h2, h3, h4, h5⟩ := h
  exact ⟨by rw [g 4 (by decide) (by decide)]; exact h1, by rw [g 2 (by decide) (by decide)]; exact h2, by rw [g 3 (by decide) (by decide)]; exact h3, fun q1 => by rw [g 5 (by decide) (by decide)]; exact h4 q1, fun q1 q2 => by rw [g 6 (by decide) (by decide)]; exact h5 q1 q2⟩
theorem MTk.of {m u : St} {B : Nat → Int} {e i : Nat} (h : MTk m B e i) (g : ∀ b, 2 ≤ b → b ≤ 7 → u.1 200 b = m.1 200 b) (g0 : u.1 0 = m.1 0) : MTk u B e i := by
  obtain ⟨h1, h2, h3⟩ := h
  refine ⟨⟨by rw [g 7 (by decide) (by decide)]; exact h1.1, h1.2.1, fun i hi => by rw [g0]; exact h1.2.2 i hi⟩, fun i hi => by rw [g0]; exact h2 i hi, h3.of (fun b q1 q2 => g b q1 (by omega))⟩
/-- the hall goes behind a token -/
theorem s_pass {N : Nat} {t : St} {B : Nat → Int} {e mm i : Nat} {k9 : Int} (hT : TKs t B e mm) (hi : i < mm) (h2 : t.1 303 2 = i) (h7 : t.1 303 7 = k9) (hk : k9 = 0 ∨ k9 = 1) (h19 : 0 ≤ t.1 302 19 ∧ t.1 302 19 ≤ 6000) :
    f_X7_pass N t = if k9 = 1 ∧ t.1 302 19 = 6000 then some (0, pI t 303 5 5) else some (1, pI (pI (pI (pI t 302 19 (t.1 302 19 + k9)) 303 2 ((i + 1 : Nat) : Int)) 303 3 (cKd B e (ch B e (i + 1)))) 303 4 (cVl B e (ch B e (i + 1)))) := by
  obtain ⟨t1, t2, t3, t4, t5, t6⟩ := hT
  have hTi := t1 (i + 1) (by omega)
  have e2 : ∀ x : Int, (pI t 302 19 x).1 303 2 = i := fun x => by rw [pI_ne (by decide)]; exact h2
  have e7 : ∀ x y : Int, (pI (pI t 302 19 x) 303 2 y).1 301 7 = t.1 301 7 := fun x y => by rw [pI_ne (by decide), pI_ne (by decide)]
  have e32 : ∀ x y : Int, (pI (pI t 302 19 x) 303 2 y).1 332 (i + 1) = cKd B e (ch B e (i + 1)) := fun x y => by rw [pI_ne (by decide), pI_ne (by decide)]; exact hTi.2.1
  have e33 : ∀ x y z : Int, (pI (pI (pI t 302 19 x) 303 2 y) 303 3 z).1 333 (i + 1) = cVl B e (ch B e (i + 1)) := fun x y z => by rw [pI_ne (by decide), pI_ne (by decide), pI_ne (by decide)]; exact hTi.2.2.1
  have e22 : ∀ x y z : Int, (pI (pI (pI t 302 19 x) 303 2 y) 303 3 z).1 303 2 = y := fun x y z => by rw [pI_nf (by decide), pI_at]
  have e21 : ∀ x y : Int, (pI (pI t 302 19 x) 303 2 y).1 303 2 = y := fun x y => pI_at
  have hi1 : ((i : Int) + 1) = ((i + 1 : Nat) : Int) := by omega
  have k00 : ∀ X : Option (Int × St), cmpI 0 0 X = X := fun X => cmpI_ok (by omega)
  have k10 : ∀ X : Option (Int × St), cmpI 1 0 X = X := fun X => cmpI_ok (by omega)
  have n10 : ((1 : Int) = 0) = False := eq_false (by decide)
  have z00 : ((0 : Int) = 0) = True := eq_true rfl
  have kc : ∀ X : Option (Int × St), cmpI ((i + 1 : Nat) : Int) (t.1 301 7) X = X := fun X => cmpI_ok (by omega)
  have kl : (((i + 1 : Nat) : Int) < t.1 301 7) = True := eq_true (by omega)
  have kix : ∀ X : Option (Int × St), ixI ((i + 1 : Nat) : Int) 4098 X = X := fun X => ixI_ok (by omega)
  have k6 : ∀ X : Option (Int × St), cmpI (t.1 302 19) 6000 X = X := fun X => cmpI_ok (by omega)
  unfold f_X7_pass
  rcases hk with rfl | rfl
  · rw [if_neg (fun q => absurd q.1 (by decide))]
    simp only [lt1_k, jn1_k, h7, k00, k10, n10, z00, if_true, if_false, e2, hi1, e21, e7, kc, kl, kix, Int.toNat_natCast, e32, e22, e33, boI_1]
  · by_cases h6 : t.1 302 19 < 6000
    · rw [if_neg (by omega)]
      simp only [lt1_k, jn1_k, h7, k00, k10, n10, z00, if_true, if_false, e2, hi1, e21, e7, kc, kl, kix, Int.toNat_natCast, e32, e22, e33, boI_1, k6, if_pos h6]
    · rw [if_pos (by omega)]
      simp only [lt1_k, jn1_k, h7, k00, k10, n10, z00, if_true, if_false, e2, hi1, e21, e7, kc, kl, kix, Int.toNat_natCast, e32, e22, e33, boI_1, k6, if_neg h6, boI_0]
