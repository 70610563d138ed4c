/-! the book on both sides -/
/-- a part that was read -/
def PT1 (t m : St) (p : Nat) : Prop := ∃ (M : St) (n a b c d : Nat), (bkG M m ∧ M.1 200 15 ≤ m.1 200 15 ∧ M.1 200 16 = p) ∧ ((b : Int) < t.1 302 18 ∧ (d : Int) < m.1 200 33) ∧ (SB M (XC t m) n a b (c + 1) d ∧ BKt (XC t m) c d ∧ t.1 363 b = 29) ∧ t.1 360 p = a ∧ m.1 29 p = c ∧ 2 ≤ c
/-- a step that is allowed -/
def AL1 (t m : St) (w : Nat) : Prop := ∃ (M : St) (T : Nat → Int) (a b c d : Nat), (bkG M m ∧ M.1 200 15 ≤ m.1 200 15 ∧ ∀ F : Nat, (F : Int) < M.1 200 15 → T F = t.1 356 F) ∧ ((b : Int) ≤ t.1 302 18 ∧ (d : Int) < m.1 200 33) ∧ (STp M (t.1 363) (m.1 31) a b c d ∧ LFc (t.1 363) a ∧ WTk (m.1 31 c) ∧ m.1 31 d = 5059) ∧ t.1 361 w = a ∧ m.1 30 w = c ∧ t.1 362 w = fsL T (m.1 31) c (d - c)
def BKc (t m : St) : Prop := (∀ f : Nat, (f : Int) < m.1 200 14 → ∃ k, fmO m f k ∧ fhO t m f k) ∧ (∀ F : Nat, (F : Int) < m.1 200 15 → FG1 t m F) ∧ (∀ p : Nat, (p : Int) < m.1 200 16 → PT1 t m p) ∧ (∀ w : Nat, (w : Int) < m.1 200 17 → AL1 t m w) ∧ ∀ p q : Nat, p < q → (q : Int) < m.1 200 16 → m.1 32 (m.1 29 p).toNat + 3 ≤ m.1 29 q
def BKn (t m : St) : Prop := (∃ a c : Nat, t.1 302 18 = a ∧ m.1 200 33 = c ∧ (a < c ∨ a = 0) ∧ c ≤ 6000 ∧ t.1 302 19 = c) ∧ (t.1 312 2 = m.1 200 14 ∧ t.1 313 2 = m.1 200 15 ∧ t.1 314 2 = m.1 200 16 ∧ t.1 302 16 = m.1 200 17) ∧ (0 ≤ m.1 200 14 ∧ m.1 200 14 ≤ 40 ∧ 0 ≤ m.1 200 15 ∧ m.1 200 15 ≤ 100 ∧ 0 ≤ m.1 200 16 ∧ m.1 200 16 ≤ 60 ∧ 0 ≤ m.1 200 17 ∧ m.1 200 17 ≤ 32) ∧ (t.1 312 1 = 40 ∧ t.1 313 1 = 100 ∧ t.1 314 1 = 60) ∧ m.1 200 13 = m.1 200 14 + m.1 200 15 + m.1 200 16
def BK0 (t m : St) : Prop := NmR t m ∧ BKn t m ∧ BKc t m
/-- the counts grow -/
def CLe (t u : St) : Prop := t.1 312 2 ≤ u.1 312 2 ∧ t.1 313 2 ≤ u.1 313 2 ∧ t.1 314 2 ≤ u.1 314 2 ∧ t.1 302 16 ≤ u.1 302 16 ∧ t.1 302 18 ≤ u.1 302 18
def CLm (t u : St) : Prop := t.1 200 13 ≤ u.1 200 13 ∧ t.1 200 14 ≤ u.1 200 14 ∧ t.1 200 15 ≤ u.1 200 15 ∧ t.1 200 16 ≤ u.1 200 16 ∧ t.1 200 17 ≤ u.1 200 17 ∧ t.1 200 33 ≤ u.1 200 33
/-- the book's own cells -/
def LwK (t u : St) : Prop := ∀ x y : Nat, (x = 302 ∨ (312 ≤ x ∧ x ≤ 314) ∨ (350 ≤ x ∧ x ≤ 363)) → LwA x y (t.1 312 2) (t.1 313 2) (t.1 314 2) (t.1 302 16) (t.1 302 18) → u.1 x y = t.1 x y
def LwN (m v : St) : Prop := ∀ x y : Nat, (9 ≤ x ∧ x < 33) → LwB x y (m.1 200 13) (m.1 200 14) (m.1 200 15) (m.1 200 16) (m.1 200 17) (m.1 200 33) → v.1 x y = m.1 x y
theorem LwH.k {t u : St} (h : LwH t u) : LwK t u := fun x y _ q => h.1 x y q
theorem LwM.k {t u : St} (h : LwM t u) : LwN t u := fun x y _ q => h.1 x y q
section
variable {N : Nat} {B : Nat → Int} {e mm i a c : Nat} {t m u v : St}
theorem fmO.lw {f k : Nat} (h : fmO m f k) (hf : (f : Int) < m.1 200 14) (hM : LwN m v) : fmO v f k := by
  obtain ⟨h1, h2, h3, h4, h5, h6⟩ := h
  have ex : ∀ x j : Nat, 19 ≤ x → x ≤ 22 → j < k → v.1 x (8 * f + j) = m.1 x (8 * f + j) := fun x j z1 z2 z3 => hM x (8 * f + j) (by omega) ⟨Or.inl (by omega), by omega, by omega, by omega, by omega, by omega, by omega, by omega, by omega, by omega⟩
  refine ⟨h1, by rw [hM 18 f (by omega) ⟨Or.inl (by omega), by omega, by omega, by omega, by omega, by omega, by omega, by omega, by omega, by omega⟩]; exact h2, h3, h4, fun j hj => ?_, fun i j hi hj => ?_⟩
  · rw [ex 19 j (by omega) (by omega) hj, ex 20 j (by omega) (by omega) hj, ex 21 j (by omega) (by omega) hj, ex 22 j (by omega) (by omega) hj]; exact h5 j hj
  · rw [ex 19 i (by omega) (by omega) hi, ex 20 i (by omega) (by omega) hi, ex 19 j (by omega) (by omega) hj, ex 20 j (by omega) (by omega) hj]; exact h6 i j hi hj
theorem fhO.lw {f k : Nat} (h : fhO t m f k) (hk : k ≤ 8) (hf : (f : Int) < m.1 200 14) (hf2 : (f : Int) < t.1 312 2) (hH : LwK t u) (hM : LwN m v) : fhO u v f k := by
  have ex : ∀ x j : Nat, 19 ≤ x → x ≤ 22 → j < k → v.1 x (8 * f + j) = m.1 x (8 * f + j) := fun x j z1 z2 z3 => hM x (8 * f + j) (by omega) ⟨Or.inl (by omega), by omega, by omega, by omega, by omega, by omega, by omega, by omega, by omega, by omega⟩
  refine ⟨by rw [hH 350 f (by omega) ⟨by omega, by omega, by omega, by omega, by omega, by omega, by omega, by omega, by omega, by omega, by omega⟩]; exact h.1, fun j hj => ?_⟩
  rw [ex 19 j (by omega) (by omega) hj, ex 20 j (by omega) (by omega) hj, ex 21 j (by omega) (by omega) hj, ex 22 j (by omega) (by omega) hj, hH 353 (8 * f + j) (by omega) ⟨by omega, by omega, by omega, by omega, by omega, by omega, by omega, by omega, by omega, by omega, by omega⟩]
  refine ⟨fun r hr => ?_, (h.2 j hj).2⟩
  rw [hH 351 (4 * (8 * f + j) + r) (by omega) ⟨by omega, by omega, by omega, by omega, by omega, by omega, by omega, by omega, by omega, by omega, by omega⟩, hH 352 (4 * (8 * f + j) + r) (by omega) ⟨by omega, by omega, by omega, by omega, by omega, by omega, by omega, by omega, by omega, by omega, by omega⟩]
  exact (h.2 j hj).1 r hr
theorem FG1.lw {F : Nat} (h : FG1 t m F) (hk : ∀ f : Nat, (f : Int) < m.1 200 14 → m.1 18 f ≤ 8) (hF : (F : Int) < m.1 200 15) (hF2 : (F : Int) < t.1 313 2) (hH : LwK t u) (hM : LwN m v) (hC : m.1 200 14 ≤ v.1 200 14) : FG1 u v F := by
  obtain ⟨f, k, h1, h2, h3, h4, h5, h6, h7⟩ := h
  have hk8 := hk f h3
  refine ⟨f, k, by rw [hM 23 F (by omega) ⟨Or.inl (by omega), by omega, by omega, by omega, by omega, by omega, by omega, by omega, by omega, by omega⟩]; exact h1, by rw [hH 354 F (by omega) ⟨by omega, by omega, by omega, by omega, by omega, by omega, by omega, by omega, by omega, by omega, by omega⟩]; exact h2, by omega, by rw [hH 355 F (by omega) ⟨by omega, by omega, by omega, by omega, by omega, by omega, by omega, by omega, by omega, by omega, by omega⟩, hM 24 F (by omega) ⟨Or.inl (by omega), by omega, by omega, by omega, by omega, by omega, by omega, by omega, by omega, by omega⟩]; exact h4, by rw [hH 356 F (by omega) ⟨by omega, by omega, by omega, by omega, by omega, by omega, by omega, by omega, by omega, by omega, by omega⟩, hM 25 F (by omega) ⟨Or.inl (by omega), by omega, by omega, by omega, by omega, by omega, by omega, by omega, by omega, by omega⟩]; exact h5, by rw [hM 18 f (by omega) ⟨Or.inl (by omega), by omega, by omega, by omega, by omega, by omega, by omega, by omega, by omega, by omega⟩]; exact h6, fun j hj => ?_⟩
  rw [hH 357 (8 * F + j) (by omega) ⟨by omega, by omega, by omega, by omega, by omega, by omega, by omega, by omega, by omega, by omega, by omega⟩, hH 358 (8 * F + j) (by omega) ⟨by omega, by omega, by omega, by omega, by omega, by omega, by omega, by omega, by omega, by omega, by omega⟩, hH 359 (8 * F + j) (by omega) ⟨by omega, by omega, by omega, by omega, by omega, by omega, by omega, by omega, by omega, by omega, by omega⟩, hM 26 (8 * F + j) (by omega) ⟨Or.inl (by omega), by omega, by omega, by omega, by omega, by omega, by omega, by omega, by omega, by omega⟩, hM 27 (8 * F + j) (by omega) ⟨Or.inl (by omega), by omega, by omega, by omega, by omega, by omega, by omega, by omega, by omega, by omega⟩, hM 28 (8 * F + j) (by omega) ⟨Or.inl (by omega), by omega, by omega, by omega, by omega, by omega, by omega, by omega, by omega, by omega⟩]
  exact h7 j hj
theorem bkG.lw {M : St} (h : bkG M m) (hM : LwN m v) (hC : m.1 200 14 ≤ v.1 200 14) : bkG M v := h.tr ⟨hC, fun f hf => hM 18 f (by omega) ⟨Or.inl (by omega), by omega, by omega, by omega, by omega, by omega, by omega, by omega, by omega, by omega⟩⟩
theorem PT1.lw {p : Nat} (h : PT1 t m p) (hp : (p : Int) < m.1 200 16) (hp2 : (p : Int) < t.1 314 2) (hH : LwK t u) (hM : LwN m v) (hC : CLm m v) (hC2 : CLe t u) : PT1 u v p := by
  obtain ⟨M, n, a, b, c, d, ⟨h1, h2, h3⟩, ⟨h4, h5⟩, ⟨h6, h7, h8⟩, h9, h10, h11⟩ := h
  obtain ⟨_, c14, c15, _, _, c33⟩ := hC
  obtain ⟨_, _, _, _, c18⟩ := hC2
  have q1 : ∀ x : Nat, x ≤ b → u.1 363 x = t.1 363 x := fun x z => hH 363 x (by omega) ⟨by omega, by omega, by omega, by omega, by omega, by omega, by omega, by omega, by omega, by omega, by omega⟩
  have q2 : ∀ x : Nat, x ≤ d → v.1 31 x = m.1 31 x := fun x z => hM 31 x (by omega) ⟨Or.inl (by omega), by omega, by omega, by omega, by omega, by omega, by omega, by omega, by omega, by omega⟩
  have q3 : ∀ x : Nat, x ≤ d → v.1 32 x = m.1 32 x := fun x z => hM 32 x (by omega) ⟨Or.inl (by omega), by omega, by omega, by omega, by omega, by omega, by omega, by omega, by omega, by omega⟩
  refine ⟨M, n, a, b, c, d, ⟨h1.lw hM c14, by omega, h3⟩, ⟨by omega, by omega⟩, ⟨?_, ?_, by rw [q1 b (by omega)]; exact h8⟩, by rw [hH 360 p (by omega) ⟨by omega, by omega, by omega, by omega, by omega, by omega, by omega, by omega, by omega, by omega, by omega⟩]; exact h9, by rw [hM 29 p (by omega) ⟨Or.inl (by omega), by omega, by omega, by omega, by omega, by omega, by omega, by omega, by omega, by omega⟩]; exact h10, h11⟩
  · exact SB.cg _ _ _ _ _ h6 ⟨fun x z1 z2 => q1 x (by omega), fun x z1 z2 => q2 x (by omega), fun x z1 z2 => q3 x (by omega)⟩
  · exact h7.cg (a := 0) (b := 0) ⟨fun x z1 z2 => by omega, fun x z1 z2 => q2 x (by omega), fun x z1 z2 => q3 x (by omega)⟩
theorem STp.lt {M : St} {cd tk : Nat → Int} {a b c d : Nat} (h : STp M cd tk a b c d) : a < b ∧ c < d := by
  obtain ⟨H, p, h1, h2, e, h3, h4, h5⟩ := h
  have := STq.lt h4
  omega
theorem AL1.lw {w : Nat} (h : AL1 t m w) (hw : (w : Int) < m.1 200 17) (hw2 : (w : Int) < t.1 302 16) (h15 : m.1 200 15 = t.1 313 2) (hH : LwK t u) (hM : LwN m v) (hC : CLm m v) (hC2 : CLe t u) : AL1 u v w := by
  obtain ⟨M, T, a, b, c, d, ⟨h1, h2, h3⟩, ⟨h4, h5⟩, ⟨h6, h7, h8, h9⟩, h10, h11, h12⟩ := h
  obtain ⟨_, c14, c15, _, _, c33⟩ := hC
  obtain ⟨_, _, _, _, c18⟩ := hC2
  have hl := h6.lt
  have q1 : ∀ x : Nat, x < b → u.1 363 x = t.1 363 x := fun x z => hH 363 x (by omega) ⟨by omega, by omega, by omega, by omega, by omega, by omega, by omega, by omega, by omega, by omega, by omega⟩
  have q2 : ∀ x : Nat, x ≤ d → v.1 31 x = m.1 31 x := fun x z => hM 31 x (by omega) ⟨Or.inl (by omega), by omega, by omega, by omega, by omega, by omega, by omega, by omega, by omega, by omega⟩
  refine ⟨M, T, a, b, c, d, ⟨h1.lw hM c14, by omega, fun F hF => by rw [hH 356 F (by omega) ⟨by omega, by omega, by omega, by omega, by omega, by omega, by omega, by omega, by omega, by omega, by omega⟩]; exact h3 F hF⟩, ⟨by omega, by omega⟩, ⟨h6.cg (fun x _ z => q1 x z) (fun x _ z => q2 x (by omega)), h7.cg (q1 a (by omega)), by rw [q2 c (by omega)]; exact h8, by rw [q2 d (by omega)]; exact h9⟩, by rw [hH 361 w (by omega) ⟨by omega, by omega, by omega, by omega, by omega, by omega, by omega, by omega, by omega, by omega, by omega⟩]; exact h10, by rw [hM 30 w (by omega) ⟨Or.inl (by omega), by omega, by omega, by omega, by omega, by omega, by omega, by omega, by omega, by omega⟩]; exact h11, ?_⟩
  rw [hH 362 w (by omega) ⟨by omega, by omega, by omega, by omega, by omega, by omega, by omega, by omega, by omega, by omega, by omega⟩, h12]
  exact fsL_cong _ (fun x z1 z2 => (q2 x (by omega)).symm)
theorem BK0.old (h : BK0 t m) (hH : LwK t u) (hM : LwN m v) (hC : CLm m v) (hC2 : CLe t u) : (∀ f : Nat, (f : Int) < m.1 200 14 → ∃ k, fmO v f k ∧ fhO u v f k) ∧ (∀ F : Nat, (F : Int) < m.1 200 15 → FG1 u v F) ∧ (∀ p : Nat, (p : Int) < m.1 200 16 → PT1 u v p) ∧ (∀ w : Nat, (w : Int) < m.1 200 17 → AL1 u v w) ∧ ∀ p q : Nat, p < q → (q : Int) < m.1 200 16 → v.1 32 (v.1 29 p).toNat + 3 ≤ v.1 29 q := by
  obtain ⟨_, ⟨n1, ⟨n2, n3, n4, n5⟩, n6⟩, b1, b2, b3, b4, b5⟩ := h
  refine ⟨fun f hf => ?_, fun F hF => ?_, fun p hp => ?_, fun w hw => ?_, fun p q hpq hq => ?_⟩
  · obtain ⟨k, q1, q2⟩ := b1 f hf
    exact ⟨k, q1.lw hf hM, q2.lw q1.2.2.2.1 hf (by omega) hH hM⟩
  · exact (b2 F hF).lw (fun f hf => by
      obtain ⟨k, q1, q2⟩ := b1 f hf
      rw [q1.2.1]; have := q1.2.2.2.1; omega) hF (by omega) hH hM hC.2.1
  · exact (b3 p hp).lw hp (by omega) hH hM hC hC2
  · exact (b4 w hw).lw hw (by omega) (by omega) hH hM hC hC2
  · obtain ⟨M, n, a, b, c, d, _, ⟨_, k5⟩, ⟨_, k7, _⟩, _, k10, _⟩ := b3 p (by omega)
    have k71 := k7.1
    have k := b5 p q hpq hq
    rw [hM 29 p (by omega) ⟨Or.inl (by omega), by omega, by omega, by omega, by omega, by omega, by omega, by omega, by omega, by omega⟩, hM 29 q (by omega) ⟨Or.inl (by omega), by omega, by omega, by omega, by omega, by omega, by omega, by omega, by omega, by omega⟩, k10, Int.toNat_natCast, hM 32 c (by omega) ⟨Or.inl (by omega), by omega, by omega, by omega, by omega, by omega, by omega, by omega, by omega, by omega⟩]
    rw [k10, Int.toNat_natCast] at k
    exact k
theorem BK0.mv (h : BK0 t m) (hH : LwK t u) (hM : LwN m v) (hL : ∀ s x : Nat, s < 3 → (x : Int) < 3 * t.1 (312 + s) 2 → u.2 (340 + s) x = t.2 (340 + s) x) (e1 : u.1 312 2 = t.1 312 2 ∧ u.1 313 2 = t.1 313 2 ∧ u.1 314 2 = t.1 314 2) (e2 : u.1 302 16 = t.1 302 16 ∧ u.1 302 18 = t.1 302 18 ∧ u.1 302 19 = t.1 302 19) (e3 : v.1 200 13 = m.1 200 13 ∧ v.1 200 14 = m.1 200 14 ∧ v.1 200 15 = m.1 200 15 ∧ v.1 200 16 = m.1 200 16 ∧ v.1 200 17 = m.1 200 17 ∧ v.1 200 33 = m.1 200 33) : BK0 u v := by
  have hC : CLm m v := ⟨by omega, by omega, by omega, by omega, by omega, by omega⟩
  have hC2 : CLe t u := ⟨by omega, by omega, by omega, by omega, by omega⟩
  have ho := h.old hH hM hC hC2
  obtain ⟨hn, ⟨⟨a0, c0, n1, n2, n3, n4, n4'⟩, ⟨n5, n6, n7, n8⟩, n9, n10, n11⟩, hc⟩ := h
  refine ⟨?_, ⟨⟨a0, c0, by omega, by omega, n3, n4, by omega⟩, ⟨by omega, by omega, by omega, by omega⟩, by omega, ?_, by omega⟩, fun f hf => ho.1 f (by omega), fun F hF => ho.2.1 F (by omega), fun p hp => ho.2.2.1 p (by omega), fun w hw => ho.2.2.2.1 w (by omega), fun p q hpq hq => ho.2.2.2.2 p q hpq (by omega)⟩
  · refine NmR.lw hn (fun o ho => ?_) hL (fun b hb => hM 9 b (by omega) ⟨Or.inl (by omega), by omega, by omega, by omega, by omega, by omega, by omega, by omega, by omega, by omega⟩) (fun x k hx hk => hM x k (by omega) ⟨Or.inl (by omega), by omega, by omega, by omega, by omega, by omega, by omega, by omega, by omega, by omega⟩) e3.1
    have : o = 0 ∨ o = 1 ∨ o = 2 := by omega
    rcases this with rfl | rfl | rfl
    · exact e1.1
    · exact e1.2.1
    · exact e1.2.2
  · rw [hH 312 1 (by omega) ⟨by omega, by omega, by omega, by omega, by omega, by omega, by omega, by omega, by omega, by omega, by omega⟩, hH 313 1 (by omega) ⟨by omega, by omega, by omega, by omega, by omega, by omega, by omega, by omega, by omega, by omega, by omega⟩, hH 314 1 (by omega) ⟨by omega, by omega, by omega, by omega, by omega, by omega, by omega, by omega, by omega, by omega, by omega⟩]; exact n10
theorem BK0.kh (h : BK0 t m) (hP : PR t m B e mm 0 i) (h6 : t.1 303 6 = 0) : ∃ a c : Nat, BKh B e mm i a c t m := by
  obtain ⟨h1, ⟨⟨a, c, n1, n2, n3, n4, n4'⟩, ⟨n5, n6, n7, n8⟩, n9, n10, n11⟩, b1, b2, b3, b4, b5⟩ := h
  refine ⟨a, c, hP, h1, n1, n2, by omega, ⟨⟨rfl, rfl, rfl, fun _ => rfl⟩, ⟨n5, n6, n7⟩, by omega, fun f hf => ?_, fun F hF => ?_⟩, n10, n11, h6⟩
  · obtain ⟨k, q1, q2⟩ := b1 f hf
    rw [q1.2.1, q2.1]
    have := q1.2.2.1; have := q1.2.2.2.1
    omega
  · obtain ⟨f, k, _, _, _, _, q5, _⟩ := b2 F hF
    omega
/-- a declaration that was read -/
def DCL (B : Nat → Int) (e mm i : Nat) (t m u v : St) : Prop := (∃ i2, i < i2 ∧ PR u v B e mm 0 i2 ∧ u.1 303 6 = 0) ∧ BK0 u v ∧ LwH t u ∧ LwM m v ∧ CLe t u ∧ CLm m v
theorem LwH.cap (hH : LwH t u) : u.1 312 1 = t.1 312 1 ∧ u.1 313 1 = t.1 313 1 ∧ u.1 314 1 = t.1 314 1 := ⟨hH.1 312 1 ⟨by omega, by omega, by omega, by omega, by omega, by omega, by omega, by omega, by omega, by omega, by omega⟩, hH.1 313 1 ⟨by omega, by omega, by omega, by omega, by omega, by omega, by omega, by omega, by omega, by omega, by omega⟩, hH.1 314 1 ⟨by omega, by omega, by omega, by omega, by omega, by omega, by omega, by omega, by omega, by omega, by omega⟩⟩
theorem dcl_form (hN : 5000 ≤ N) (h : BK0 t m) (hP : PR t m B e mm 0 i) (h6 : t.1 303 6 = 0) (hk : cKd B e (ch B e i) = 0) : SIMf B e mm (fun u v => LwH t u ∧ LwM m v) (DCL B e mm i t m) (f_X7_readForm N t) (f_X12_form N m) := by
  obtain ⟨a, c, hB⟩ := h.kh hP h6
  refine (form_both hN hB hk).mo (fun _ _ q => q) (fun u v q => ?_)
  obtain ⟨i2, f, n, q1, q2, q3, q4, q5, ⟨q6, q7, q8, q9⟩, ⟨q10, q11⟩, q12, ⟨q13, q14, q15⟩, ⟨q16, q17, q18, q19⟩, q20, q21⟩ := q
  have hn := h.2.1
  obtain ⟨⟨a0, c0, n1, n2, n3, n4, n4'⟩, ⟨n5, n6, n7, n8⟩, n9, n10, n11⟩ := hn
  have hp19 := q4.2.2.2.2.2.2.2.2.1
  have hC : CLm m v := ⟨by omega, by omega, by omega, by omega, by omega, by omega⟩
  have hC2 : CLe t u := ⟨by omega, by omega, by omega, by omega, by omega⟩
  have ho := h.old q20.k q21.k hC hC2
  have hcap := q20.cap
  refine ⟨⟨i2, q3, q4, by omega⟩, ⟨q5, ⟨⟨a0, c0, by omega, by omega, n3, n4, by omega⟩, ⟨by omega, by omega, by omega, by omega⟩, by omega, by omega, by omega⟩, fun g hg => ?_, fun F hF => ho.2.1 F (by omega), fun p hp => ho.2.2.1 p (by omega), fun w hw => ho.2.2.2.1 w (by omega), fun p q hpq hq => ho.2.2.2.2 p q hpq (by omega)⟩, q20, q21, hC2, hC⟩
  by_cases hgf : g = f
  · subst hgf; exact ⟨n, q10, q11⟩
  · exact ho.1 g (by omega)
theorem dcl_figure (hN : 5000 ≤ N) (h : BK0 t m) (hP : PR t m B e mm 0 i) (h6 : t.1 303 6 = 0) (hk : cKd B e (ch B e i) = 1) : SIMf B e mm (fun u v => LwH t u ∧ LwM m v) (DCL B e mm i t m) (f_X7_readFigure N t) (f_X12_figure N m) := by
  obtain ⟨a, c, hB⟩ := h.kh hP h6
  refine (figure_both hN hB hk).mo (fun _ _ q => q) (fun u v q => ?_)
  obtain ⟨i2, G, q1, q2, q3, q4, q5, ⟨q6, q7, q8, q9⟩, q10, q12, ⟨q13, q14, q15⟩, ⟨q16, q17, q18, q19⟩, q20, q21⟩ := q
  have hn := h.2.1
  obtain ⟨⟨a0, c0, n1, n2, n3, n4, n4'⟩, ⟨n5, n6, n7, n8⟩, n9, n10, n11⟩ := hn
  have hp19 := q4.2.2.2.2.2.2.2.2.1
  have hC : CLm m v := ⟨by omega, by omega, by omega, by omega, by omega, by omega⟩
  have hC2 : CLe t u := ⟨by omega, by omega, by omega, by omega, by omega⟩
  have ho := h.old q20.k q21.k hC hC2
  have hcap := q20.cap
  refine ⟨⟨i2, q3, q4, by omega⟩, ⟨q5, ⟨⟨a0, c0, by omega, by omega, n3, n4, by omega⟩, ⟨by omega, by omega, by omega, by omega⟩, by omega, by omega, by omega⟩, fun g hg => ho.1 g (by omega), fun F hF => ?_, fun p hp => ho.2.2.1 p (by omega), fun w hw => ho.2.2.2.1 w (by omega), fun p q hpq hq => ho.2.2.2.2 p q hpq (by omega)⟩, q20, q21, hC2, hC⟩
  by_cases hgf : F = G
  · subst hgf; exact q10
  · exact ho.2.1 F (by omega)
/-- what a part or an allowed step leaves when it fails -/
theorem FPt.lw {k p : Nat} {a c : Nat} (hk : k = 29 ∨ k = 30) (hp : (k = 29 → m.1 200 16 ≤ p) ∧ (k = 30 → m.1 200 17 ≤ p)) (ha : t.1 302 18 = a) (hc : m.1 200 33 = c) (h : FPt k a c p t m u v) : LwH t u ∧ LwM m v := by
  obtain ⟨h1, x0, h2⟩ := h
  refine ⟨⟨fun x y q => ?_, fun x y _ => by rw [h1.2.1]⟩, ⟨fun x y q => ?_, h2.2⟩⟩
  · rw [ha] at q
    obtain ⟨q1, q2, _, _, _, _, _, _, _, _, q11⟩ := q
    exact h1.1 x y q1 (q2.imp id (fun z => z.2)) (q11.imp id (fun z => by omega))
  · rw [hc] at q
    obtain ⟨q1, _, _, _, _, _, _, q8, q9, q10⟩ := q
    rw [h2.1 x y (q10.imp (fun z => z.1) (fun z => by omega)) (q10.imp (fun z => z.2) (fun z => by omega)) (q1.imp id (fun z => Or.inl z.1))]
    rcases hk with rfl | rfl
    · have := hp.1 rfl
      exact pI_of (q8.imp id (fun z => by omega))
    · have := hp.2 rfl
      exact pI_of (q9.imp id (fun z => by omega))
theorem dcl_part (hN : 5000 ≤ N) (h : BK0 t m) (hP : PR t m B e mm 0 i) (h6 : t.1 303 6 = 0) (hk : cKd B e (ch B e i) = 2) : SIMf B e mm (fun u v => LwH t u ∧ LwM m v) (DCL B e mm i t m) (f_X7_readPart N t) (f_X12_part N m) := by
  obtain ⟨a, c, hB⟩ := h.kh hP h6
  have hn := h.2.1
  obtain ⟨⟨a0, c0, n1, n2, n3, n4, n4'⟩, ⟨n5, n6, n7, n8⟩, n9, n10, n11⟩ := hn
  refine (part_both hN hB hk).mo (fun u v q => q.lw (Or.inl rfl) (by omega) hB.2.2.1 hB.2.2.2.1) (fun u v q => ?_)
  have hBa := hB.2.2.1
  have hBc := hB.2.2.2.1
  obtain ⟨nn, i2, b, d, p, q1, q2, q3, q4, q5, ⟨q6, q7, q8, q9, q10⟩, ⟨q11, q12, q13⟩, ⟨q14, q15⟩, q16, ⟨q17, q18, q19⟩, ⟨r1, r2, r3⟩, r4, r5, r6, r7⟩ := q
  have H : LwH t u := by
    refine ⟨fun x y q => ?_, fun x y q => ?_⟩
    · rw [hBa, n7, q1] at q
      obtain ⟨z1, z2, z3, _, _, _, _, _, z9, _, z11⟩ := q
      exact r1 x y z1 (z2.imp id (fun z => z.2)) (z11.imp id (fun z => by omega)) (z3.imp (fun z => by omega) id) (z9.imp id (fun z => by omega))
    · rw [n7, q1] at q
      by_cases hx : x = 342
      · subst hx; exact r3 y (by have := q.2.2; omega)
      · rw [r2 x hx]
  have Mm : LwM m v := by
    refine ⟨fun x y q => ?_, r5⟩
    have q9 := q
    rw [hBc, q1] at q
    obtain ⟨z1, z2, z3, _, _, _, _, z8, _, z10⟩ := q
    by_cases hx9 : x = 9
    · subst hx9
      have zz : (y : Int) < 24 * m.1 200 13 := z2.elim (fun z => absurd rfl z) id
      exact r6 y (by clear z1 z2 z3 z8 z10; omega)
    · by_cases hx12 : 10 ≤ x ∧ x ≤ 12
      · have zz : (y : Int) < m.1 200 13 := z3.elim (fun z => by omega) id
        have z := r7 y (by clear z1 z2 z3 z8 z10; omega)
        by_cases e10 : x = 10
        · subst e10; exact z.1
        · by_cases e11 : x = 11
          · subst e11; exact z.2.1
          · have e12 : x = 12 := by clear z1 z2 z3 z8 z10; omega
            subst e12; exact z.2.2
      · exact r4 x y (z10.imp (fun z => z.1) (fun z => by omega)) (z10.imp (fun z => z.2) (fun z => by omega)) (z1.imp id (fun z => ⟨z.1, by omega, by omega⟩)) (z8.imp id (fun z => by omega)) (by clear z1 z2 z3 z8 z10; omega)
  have u2 : u.1 312 2 = t.1 312 2 ∧ u.1 313 2 = t.1 313 2 ∧ u.1 302 16 = t.1 302 16 := ⟨r1 312 2 (by omega) (by omega) (by omega) (by omega) (by omega), r1 313 2 (by omega) (by omega) (by omega) (by omega) (by omega), r1 302 16 (by omega) (by omega) (by omega) (by omega) (by omega)⟩
  have v2 : v.1 200 14 = m.1 200 14 ∧ v.1 200 15 = m.1 200 15 ∧ v.1 200 17 = m.1 200 17 := ⟨r4 200 14 (by omega) (by omega) (Or.inr ⟨by unfold PFd; omega, by omega, by omega⟩) (by omega) (by omega), r4 200 15 (by omega) (by omega) (Or.inr ⟨by unfold PFd; omega, by omega, by omega⟩) (by omega) (by omega), r4 200 17 (by omega) (by omega) (Or.inr ⟨by unfold PFd; omega, by omega, by omega⟩) (by omega) (by omega)⟩
  have hp19 := q4.2.2.2.2.2.2.2.2.1
  have hC : CLm m v := ⟨by omega, by omega, by omega, by omega, by omega, by omega⟩
  have hC2 : CLe t u := ⟨by omega, by omega, by omega, by omega, by omega⟩
  have ho := h.old H.k Mm.k hC hC2
  have hcap := H.cap
  refine ⟨⟨i2, q3, q4, q16⟩, ⟨q5, ⟨⟨b + 1, d + 1, q6, q7, by omega, by omega, by omega⟩, ⟨by omega, by omega, by omega, by omega⟩, by omega, by omega, by omega⟩, fun g hg => ho.1 g (by omega), fun F hF => ho.2.1 F (by omega), fun g hg => ?_, fun w hw => ho.2.2.2.1 w (by omega), fun g q hgq hq => ?_⟩, H, Mm, hC2, hC⟩
  · by_cases hgf : g = p
    · subst hgf
      exact ⟨m, nn, a, b, c + 2, d, ⟨bkG.lw bkG.rf Mm.k (by omega), by omega, q1⟩, ⟨by omega, by omega⟩, ⟨q11, q12, q13⟩, q14, q15, by omega⟩
    · exact ho.2.2.1 g (by omega)
  · by_cases hgf : q = p
    · subst hgf
      obtain ⟨M, n', a', b', c', d', _, ⟨_, k5⟩, ⟨_, k7, _⟩, _, k10, _⟩ := h.2.2.2.2.1 g (by omega)
      have k74 : m.1 32 c' = (d' : Int) := k7.2.2.2
      have k71 := k7.1
      rw [q15, Mm.1 29 g ⟨Or.inl (by omega), by omega, by omega, by omega, by omega, by omega, by omega, by omega, by omega, by omega⟩, k10, Int.toNat_natCast, Mm.1 32 c' ⟨Or.inl (by omega), by omega, by omega, by omega, by omega, by omega, by omega, by omega, by omega, by omega⟩, k74]
      omega
    · exact ho.2.2.2.2 g q hgq (by omega)
theorem dcl_allow (hN : 5000 ≤ N) (h : BK0 t m) (hP : PR t m B e mm 0 i) (h6 : t.1 303 6 = 0) (hk : cKd B e (ch B e i) = 3) : SIMf B e mm (fun u v => LwH t u ∧ LwM m v) (DCL B e mm i t m) (f_X7_readAllow N t) (f_X12_allow N m) := by
  obtain ⟨a, c, hB⟩ := h.kh hP h6
  have hn := h.2.1
  obtain ⟨⟨a0, c0, n1, n2, n3, n4, n4'⟩, ⟨n5, n6, n7, n8⟩, n9, n10, n11⟩ := hn
  refine (allow_both hN hB (by omega) hk).mo (fun u v q => q.lw (Or.inr rfl) (by omega) hB.2.2.1 hB.2.2.2.1) (fun u v q => ?_)
  have hBa := hB.2.2.1
  have hBc := hB.2.2.2.1
  obtain ⟨i2, b, d, w, q1, q2, q3, q4, q5, ⟨q6, q7, q8, q9, q10⟩, ⟨q11, q12, q13, q13'⟩, ⟨q14, q15, q15'⟩, q16, ⟨q17, q18⟩, ⟨r1, r2⟩, r4, r5⟩ := q
  have H : LwH t u := by
    refine ⟨fun x y q => ?_, fun x y q => by rw [r2]⟩
    rw [hBa, n8, q1] at q
    obtain ⟨z1, z2, z3, _, _, _, _, _, _, z10, z11⟩ := q
    exact r1 x y z1 z2 (z11.imp id (fun z => by omega)) (z10.imp (fun z => z.1) (fun z => by omega)) (z10.imp (fun z => z.2) (fun z => by omega))
  have Mm : LwM m v := by
    refine ⟨fun x y q => ?_, r5⟩
    rw [hBc, q1] at q
    obtain ⟨z1, z2, z3, _, _, _, _, _, z9, z10⟩ := q
    exact r4 x y (z10.imp (fun z => z.1) (fun z => by omega)) (z10.imp (fun z => z.2) (fun z => by omega)) (z1.imp id (fun z => ⟨z.1, by omega⟩)) (z9.imp id (fun z => by omega))
  have u2 : u.1 312 2 = t.1 312 2 ∧ u.1 313 2 = t.1 313 2 ∧ u.1 314 2 = t.1 314 2 := ⟨r1 312 2 (by omega) (by omega) (by omega) (by omega) (by omega), r1 313 2 (by omega) (by omega) (by omega) (by omega) (by omega), r1 314 2 (by omega) (by omega) (by omega) (by omega) (by omega)⟩
  have v2 : v.1 200 13 = m.1 200 13 ∧ v.1 200 14 = m.1 200 14 ∧ v.1 200 15 = m.1 200 15 ∧ v.1 200 16 = m.1 200 16 := ⟨r4 200 13 (by omega) (by omega) (Or.inr ⟨by unfold PFd; omega, by omega⟩) (by omega), r4 200 14 (by omega) (by omega) (Or.inr ⟨by unfold PFd; omega, by omega⟩) (by omega), r4 200 15 (by omega) (by omega) (Or.inr ⟨by unfold PFd; omega, by omega⟩) (by omega), r4 200 16 (by omega) (by omega) (Or.inr ⟨by unfold PFd; omega, by omega⟩) (by omega)⟩
  have hp19 := q4.2.2.2.2.2.2.2.2.1
  have hC : CLm m v := ⟨by omega, by omega, by omega, by omega, by omega, by omega⟩
  have hC2 : CLe t u := ⟨by omega, by omega, by omega, by omega, by omega⟩
  have ho := h.old H.k Mm.k hC hC2
  have hcap := H.cap
  refine ⟨⟨i2, q3, q4, q16⟩, ⟨q5, ⟨⟨b, d + 1, q6, q7, by omega, by omega, by omega⟩, ⟨by omega, by omega, by omega, by omega⟩, by omega, by omega, by omega⟩, fun g hg => ho.1 g (by omega), fun F hF => ho.2.1 F (by omega), fun g hg => ho.2.2.1 g (by omega), fun g hg => ?_, fun p q hpq hq => ho.2.2.2.2 p q hpq (by omega)⟩, H, Mm, hC2, hC⟩
  by_cases hgf : g = w
  · subst hgf
    exact ⟨m, t.1 356, a, b, c + 1, d, ⟨bkG.lw bkG.rf Mm.k (by omega), by omega, fun F hF => (H.1 356 F ⟨by omega, by omega, by omega, by omega, by omega, by omega, by omega, by omega, by omega, by omega, by omega⟩).symm⟩, ⟨by omega, by omega⟩, ⟨q11, q12, q13, q13'⟩, q14, q15, q15'⟩
  · exact ho.2.2.2.1 g (by omega)
end
