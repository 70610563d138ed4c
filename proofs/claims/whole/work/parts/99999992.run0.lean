/-! the run: counters, frames -/
def GHr (o : Nat) (t u : St) : Prop := (∀ x, x ≠ 307 + o → x ≠ 311 → (x < 380 ∨ 383 < x) → u.1 x = t.1 x) ∧ ((∀ y, y ≠ 3 → y ≠ 6 → y ≠ 7 → y ≠ 9 → u.1 (307 + o) y = t.1 (307 + o) y) ∧ u.1 (307 + o) 9 - u.1 (307 + o) 7 = t.1 (307 + o) 9 - t.1 (307 + o) 7) ∧ (∀ b, b ≠ 3 → b ≠ 4 → b ≠ 9 → u.1 311 b = t.1 311 b) ∧ (∀ x, x ≠ 384 → x ≠ 370 → x ≠ 311 → x ≠ 307 + o → x ≠ 410 + o → u.2 x = t.2 x)
def GMr (m v : St) : Prop := (∀ x, x ≠ 80 → x ≠ 81 → x ≠ 86 → x ≠ 87 → x ≠ 200 → x ≠ 55 → x ≠ 56 → x ≠ 57 → v.1 x = m.1 x) ∧ (∀ b, (b < 51 ∨ 53 < b) → (b < 82 ∨ 85 < b) → b ≠ 88 → b ≠ 114 → v.1 200 b = m.1 200 b) ∧ ((∀ x, x ≠ 58 → v.2 x = m.2 x) ∧ v.1 200 53 - v.1 200 52 = m.1 200 53 - m.1 200 52)
theorem GHr.rf {o : Nat} {t : St} : GHr o t t := ⟨fun _ _ _ _ => rfl, ⟨fun _ _ _ _ _ => rfl, rfl⟩, fun _ _ _ _ => rfl, fun _ _ _ _ _ _ => rfl⟩
theorem GMr.rf {t : St} : GMr t t := ⟨fun _ _ _ _ _ _ _ _ _ => rfl, fun _ _ _ _ _ => rfl, fun _ _ => rfl, rfl⟩
theorem GHr.tr {o : Nat} {t u v : St} (h : GHr o t u) (g : GHr o u v) : GHr o t v := ⟨fun x h1 h2 h3 => (g.1 x h1 h2 h3).trans (h.1 x h1 h2 h3), ⟨fun y h1 h2 h3 h4 => (g.2.1.1 y h1 h2 h3 h4).trans (h.2.1.1 y h1 h2 h3 h4), g.2.1.2.trans h.2.1.2⟩, fun b h1 h2 h3 => (g.2.2.1 b h1 h2 h3).trans (h.2.2.1 b h1 h2 h3), fun x h1 h2 h3 h4 h5 => (g.2.2.2 x h1 h2 h3 h4 h5).trans (h.2.2.2 x h1 h2 h3 h4 h5)⟩
theorem GMr.tr {t u v : St} (h : GMr t u) (g : GMr u v) : GMr t v := ⟨fun x h1 h2 h3 h4 h5 h6 h7 h8 => (g.1 x h1 h2 h3 h4 h5 h6 h7 h8).trans (h.1 x h1 h2 h3 h4 h5 h6 h7 h8), fun b h1 h2 h3 h4 => (g.2.1 b h1 h2 h3 h4).trans (h.2.1 b h1 h2 h3 h4), ⟨fun x h1 => (g.2.2.1 x h1).trans (h.2.2.1 x h1), g.2.2.2.trans h.2.2.2⟩⟩
theorem GHr.I {o y : Nat} {t : St} {v : Int} (h : y = 3 ∨ y = 6) (ho : o < 2) : GHr o t (pI t (307 + o) y v) := ⟨fun x h1 _ _ => pI_ne h1, ⟨fun z h1 h2 h3 h4 => pI_nf (by omega), by rw [pI_nf (by omega), pI_nf (by omega)]⟩, fun b _ _ _ => by rw [pI_ne (by omega)], fun _ _ _ _ _ _ => rfl⟩
theorem GHr.L {o a y : Nat} {t : St} {v : Int64} (h : a = 307 + o ∨ a = 410 + o) : GHr o t (pL t a y v) := ⟨fun _ _ _ _ => rfl, ⟨fun _ _ _ _ _ => rfl, rfl⟩, fun _ _ _ _ => rfl, fun x h1 h2 h3 h4 h5 => pL_ne (by omega)⟩
theorem GHr.f {o : Nat} {t u : St} (h : hfr t u) (ho : o < 2) : GHr o t u := ⟨fun x h1 h2 h3 => h.1 x (by omega) (by omega) (by omega) (by omega) h2, ⟨fun y _ _ _ _ => by rw [h.1 (307 + o) (by omega) (by omega) (by omega) (by omega) (by omega)], by rw [h.1 (307 + o) (by omega) (by omega) (by omega) (by omega) (by omega)]⟩, h.2.1, fun x h1 h2 h3 _ _ => h.2.2 x h1 h2 h3⟩
theorem GMr.F {b : Nat} {t : St} {v : Int} (h : b = 51 ∨ b = 114) : GMr t (pI t 200 b v) := ⟨fun x _ _ _ _ h5 _ _ _ => pI_ne h5, fun c h1 h2 h3 h4 => pI_nf (by omega), fun _ _ => rfl, by rw [pI_nf (by omega), pI_nf (by omega)]⟩
theorem GMr.I {a i : Nat} {t : St} {v : Int} (h : 55 ≤ a ∧ a ≤ 57) : GMr t (pI t a i v) := ⟨fun x _ _ _ _ _ h6 h7 h8 => pI_ne (by omega), fun c h1 h2 h3 h4 => by rw [pI_ne (by omega)], fun _ _ => rfl, by rw [pI_ne (by omega)]⟩
theorem GMr.L {i : Nat} {t : St} {v : Int64} : GMr t (pL t 58 i v) := ⟨fun _ _ _ _ _ _ _ _ _ => rfl, fun _ _ _ _ _ => rfl, fun x h1 => pL_ne h1, rfl⟩
theorem GMr.f {t u : St} (h : mf4 t u) : GMr t u := ⟨fun x h1 h2 h3 h4 h5 _ _ _ => h.1 x h1 h2 h3 h4 h5, fun b h1 h2 h3 h4 => h.2.1 b (by omega) (by omega) (by omega) (by omega) (by omega) (by omega), fun x _ => by rw [h.2.2], by rw [h.2.1 53 (by omega) (by omega) (by omega) (by omega) (by omega) (by omega), h.2.1 52 (by omega) (by omega) (by omega) (by omega) (by omega) (by omega)]⟩
theorem CIk.rn {t u : St} (h : CIk t) (e : ∀ x, x ≠ 307 → x ≠ 308 → u.1 x = t.1 x) (e2 : u.2 311 = t.2 311) : CIk u := by
  obtain ⟨c1, c2, c3, c4⟩ := h
  refine ⟨by rw [e 311 (by decide) (by decide)]; exact c1, by rw [e 311 (by decide) (by decide)]; exact c2, fun f hf => by rw [e 381 (by decide) (by decide)]; exact c3 f hf, fun o ho h9 => ?_⟩
  rw [e 311 (by decide) (by decide)] at h9
  rw [e 311 (by decide) (by decide), e (305 + o) (by omega) (by omega), e 381 (by decide) (by decide), e 312 (by decide) (by decide), e 380 (by decide) (by decide), e2]
  refine ⟨(c4 o ho h9).1, fun h10 f hf h11 => ?_⟩
  obtain ⟨q1, M, n, k, q2, q3, q4, q5⟩ := (c4 o ho h9).2 h10 f hf h11
  refine ⟨q1, M, n, k, ⟨q2.1, ?_⟩, q3, ?_, q5⟩
  · unfold FH
    rw [e (305 + o) (by omega) (by omega), e (390 + 10 * o) (by omega) (by omega), e (391 + 10 * o) (by omega) (by omega), e (392 + 10 * o) (by omega) (by omega), e (397 + 10 * o) (by omega) (by omega)]
    exact q2.2
  · unfold fhO
    rw [e 350 (by decide) (by decide), e 351 (by decide) (by decide), e 352 (by decide) (by decide), e 353 (by decide) (by decide)]
    exact q4
theorem CIk.rI {o y : Nat} {t : St} {v : Int} (h : CIk t) (ho : o < 2) : CIk (pI t (307 + o) y v) := h.rn (fun x h1 h2 => pI_ne (by omega)) rfl
theorem CIk.rL {a y : Nat} {t : St} {v : Int64} (h : CIk t) (ha : a ≠ 311) : CIk (pL t a y v) := h.rn (fun x h1 h2 => rfl) (pL_ne (by omega))
/-- what goOn leaves: the hall, the model -/
def GHs (o : Nat) (t u : St) : Prop := (∀ x, x ≠ 307 + o → x ≠ 311 → (x < 380 ∨ 383 < x) → u.1 x = t.1 x) ∧ (∀ y, y ≠ 3 → y ≠ 6 → y ≠ 7 → y ≠ 9 → u.1 (307 + o) y = t.1 (307 + o) y) ∧ (∀ b, b ≠ 3 → b ≠ 4 → b ≠ 9 → u.1 311 b = t.1 311 b) ∧ (∀ x, x ≠ 384 → x ≠ 370 → x ≠ 311 → x ≠ 307 + o → x ≠ 410 + o → u.2 x = t.2 x)
def GMs (m v : St) : Prop := (∀ x, x ≠ 80 → x ≠ 81 → x ≠ 86 → x ≠ 87 → x ≠ 200 → x ≠ 55 → x ≠ 56 → x ≠ 57 → v.1 x = m.1 x) ∧ (∀ b, (b < 51 ∨ 53 < b) → (b < 82 ∨ 85 < b) → b ≠ 88 → b ≠ 114 → b ≠ 115 → v.1 200 b = m.1 200 b) ∧ (∀ x, x ≠ 58 → v.2 x = m.2 x)
theorem GHr.s {o : Nat} {t u : St} (g : GHr o t u) : GHs o t u := ⟨g.1, g.2.1.1, g.2.2.1, g.2.2.2⟩
theorem GMr.s {m v : St} (g : GMr m v) : GMs m v := ⟨g.1, fun b h1 h2 h3 h4 _ => g.2.1 b h1 h2 h3 h4, g.2.2.1⟩
theorem GHs.tr {o : Nat} {t u v : St} (h : GHs o t u) (g : GHs o u v) : GHs o t v := ⟨fun x h1 h2 h3 => (g.1 x h1 h2 h3).trans (h.1 x h1 h2 h3), fun y h1 h2 h3 h4 => (g.2.1 y h1 h2 h3 h4).trans (h.2.1 y h1 h2 h3 h4), fun b h1 h2 h3 => (g.2.2.1 b h1 h2 h3).trans (h.2.2.1 b h1 h2 h3), fun x h1 h2 h3 h4 h5 => (g.2.2.2 x h1 h2 h3 h4 h5).trans (h.2.2.2 x h1 h2 h3 h4 h5)⟩
theorem GMs.tr {t u v : St} (h : GMs t u) (g : GMs u v) : GMs t v := ⟨fun x h1 h2 h3 h4 h5 h6 h7 h8 => (g.1 x h1 h2 h3 h4 h5 h6 h7 h8).trans (h.1 x h1 h2 h3 h4 h5 h6 h7 h8), fun b h1 h2 h3 h4 h5 => (g.2.1 b h1 h2 h3 h4 h5).trans (h.2.1 b h1 h2 h3 h4 h5), fun x h1 => (g.2.2 x h1).trans (h.2.2 x h1)⟩
theorem EVr.r5 {o p n : Nat} {t m u v : St} (h : EVr o t m n) (hp : p < 2) (g : ∀ x, x ≠ 307 + p → x ≠ 311 → (x < 380 ∨ 383 < x) → u.1 x = t.1 x) (gL : ∀ x, x ≠ 384 → x ≠ 370 → x ≠ 311 → x ≠ 307 + p → x ≠ 410 + p → u.2 x = t.2 x) (gC : CIk u) (e : ∀ a, a < 55 → v.1 a = m.1 a) (e37 : v.1 200 37 = m.1 200 37) (e14 : v.1 200 14 = m.1 200 14) (e54 : v.1 200 54 = m.1 200 54) : EVr o u v n := by
  obtain ⟨ho, h1, h2, h3, h4, h5, h6, h7, h8⟩ := h
  have f : ∀ a, a ≠ 307 → a ≠ 308 → a ≠ 311 → (a < 380 ∨ 383 < a) → u.1 a = t.1 a := fun a h1 h2 h3 h4 => g a (by omega) h3 h4
  refine ⟨ho, ?_, ?_, ?_, ?_, gC, ?_, ?_, ?_⟩
  · unfold hmF fmF FH
    rw [e37, e 38 (by decide), e 39 (by decide), e 40 (by decide), f (305 + o) (by omega) (by omega) (by omega) (by omega), f (390 + 10 * o) (by omega) (by omega) (by omega) (by omega), f (391 + 10 * o) (by omega) (by omega) (by omega) (by omega), f (392 + 10 * o) (by omega) (by omega) (by omega) (by omega), f (397 + 10 * o) (by omega) (by omega) (by omega) (by omega)]
    exact h1
  · unfold hoO odM
    rw [e 38 (by decide), e 39 (by decide), f (395 + 10 * o) (by omega) (by omega) (by omega) (by omega)]
    exact h2
  · rw [e 40 (by decide), gL (396 + 10 * o) (by omega) (by omega) (by omega) (by omega) (by omega)]; exact h3
  · unfold hGd
    rw [e54, e 44 (by decide), e 45 (by decide), e 46 (by decide), f (394 + 10 * o) (by omega) (by omega) (by omega) (by omega)]; exact h4
  · rw [f (305 + o) (by omega) (by omega) (by omega) (by omega)]; exact h6
  · rw [e14, f 312 (by decide) (by decide) (by decide) (by decide)]; exact h7
  · intro x hf
    rw [e14] at hf
    obtain ⟨k, a1, a2⟩ := h8 x hf
    refine ⟨k, ?_, ?_⟩
    · unfold fmO
      rw [e 18 (by decide), e 19 (by decide), e 20 (by decide), e 21 (by decide), e 22 (by decide)]
      exact a1
    · unfold fhO
      rw [e 19 (by decide), e 20 (by decide), e 21 (by decide), e 22 (by decide), f 350 (by decide) (by decide) (by decide) (by decide), f 351 (by decide) (by decide) (by decide) (by decide), f 352 (by decide) (by decide) (by decide) (by decide), f 353 (by decide) (by decide) (by decide) (by decide)]
      exact a2
theorem EVr.r4 {o p n : Nat} {t m u v : St} (h : EVr o t m n) (hp : p < 2) (g : ∀ x, x ≠ 307 + p → x ≠ 311 → (x < 380 ∨ 383 < x) → u.1 x = t.1 x) (gL : ∀ x, x ≠ 384 → x ≠ 370 → x ≠ 311 → x ≠ 307 + p → x ≠ 410 + p → u.2 x = t.2 x) (gC : CIk u) (g2 : GMs m v) : EVr o u v n := h.r5 hp g gL gC (fun a h => g2.1 a (by omega) (by omega) (by omega) (by omega) (by omega) (by omega) (by omega) (by omega)) (g2.2.1 37 (by decide) (by decide) (by decide) (by decide) (by decide)) (g2.2.1 14 (by decide) (by decide) (by decide) (by decide) (by decide)) (g2.2.1 54 (by decide) (by decide) (by decide) (by decide) (by decide))
theorem EVr.rs {o p n : Nat} {t m u v : St} (h : EVr o t m n) (hp : p < 2) (g : GHs p t u) (gC : CIk u) (g2 : GMs m v) : EVr o u v n := h.r4 hp g.1 g.2.2.2 gC g2
theorem EVr.rn {o p n : Nat} {t m u v : St} (h : EVr o t m n) (hp : p < 2) (g : GHr p t u) (gC : CIk u) (g2 : GMr m v) : EVr o u v n := h.rs hp g.s gC g2.s
/-- acts are counted -/
def CT (o : Nat) (t : St) (x : Int) : St := pI (pI t (307 + o) 7 (t.1 (307 + o) 7 + x)) (307 + o) 9 (t.1 (307 + o) 9 + x)
def ACt (m : St) (x : Int) : St := pI (pI m 200 52 (m.1 200 52 + x)) 200 53 (m.1 200 53 + x)
def RNc (o : Nat) (t m : St) : Prop := (t.1 (307 + o) 7 = m.1 200 52 ∧ 0 ≤ m.1 200 52 ∧ m.1 200 52 ≤ 2000) ∧ (0 ≤ t.1 (307 + o) 9 ∧ t.1 (307 + o) 9 ≤ 1100000000 + m.1 200 52 ∧ 0 ≤ m.1 200 53 ∧ m.1 200 53 ≤ 1100000000 + m.1 200 52) ∧ ((o = 0 ∧ t.1 (307 + o) 8 = 0 ∧ m.1 200 54 = 0) ∨ (t.1 (307 + o) 8 = 1 ∧ m.1 200 54 = 1 ∧ t.1 (307 + o) 9 = m.1 200 53 ∧ m.1 200 53 ≤ 20000))
section
variable {N o : Nat} {t m u v : St} {x : Int}
theorem CT_0 : CT o t 0 = t := by
  unfold CT
  rw [Int.add_zero, Int.add_zero, pI_self]
  exact pI_self
theorem h_count (h : RNc o t m) (hx : 0 ≤ x ∧ x ≤ 20000) : f_X8_count N o x t = if 2000 < m.1 200 52 + x then some (3, CT o t x) else if m.1 200 54 = 1 ∧ 20000 < m.1 200 53 + x then some (4, CT o t x) else some (1, CT o t x) := by
  obtain ⟨⟨h1, h2, h3⟩, ⟨h4, h5, h6, h7⟩, h8⟩ := h
  unfold f_X8_count
  simp only [lt1_k]
  rw [pI_nf (show (9 : Nat) ≠ 7 by decide)]
  have e7 : (pI (pI t (307 + o) 7 (t.1 (307 + o) 7 + x)) (307 + o) 9 (t.1 (307 + o) 9 + x)).1 (307 + o) 7 = m.1 200 52 + x := by rw [pI_nf (by decide), pI_at, h1]
  have e8 : (pI (pI t (307 + o) 7 (t.1 (307 + o) 7 + x)) (307 + o) 9 (t.1 (307 + o) 9 + x)).1 (307 + o) 8 = t.1 (307 + o) 8 := by rw [pI_nf (by decide), pI_nf (by decide)]
  have e9 : (pI (pI t (307 + o) 7 (t.1 (307 + o) 7 + x)) (307 + o) 9 (t.1 (307 + o) 9 + x)).1 (307 + o) 9 = t.1 (307 + o) 9 + x := pI_at
  rw [e7, e8, e9, cmpI_ok (by omega), cmpI_ok (by omega), cmpI_ok (by omega)]
  unfold CT
  by_cases k1 : 2000 < m.1 200 52 + x
  · rw [if_pos k1, if_pos k1]
  · rw [if_neg k1, if_neg k1]
    rcases h8 with ⟨q0, q1, q2⟩ | ⟨q1, q2, q3, q4⟩
    · rw [if_pos q1, if_neg (by omega)]
    · rw [if_neg (by omega)]
      by_cases k2 : 20000 < m.1 200 53 + x
      · rw [if_pos (by omega), if_pos ⟨q2, k2⟩]
      · rw [if_neg (by omega), if_neg (fun q => k2 q.2)]
theorem m_acted (h : RNc o t m) (hx : 0 ≤ x ∧ x ≤ 20000) : f_X12_acted N x m = if 2000 < m.1 200 52 + x then some (3, ACt m x) else if m.1 200 54 = 1 ∧ 20000 < m.1 200 53 + x then some (4, ACt m x) else some (0, ACt m x) := by
  obtain ⟨⟨h1, h2, h3⟩, ⟨h4, h5, h6, h7⟩, h8⟩ := h
  unfold f_X12_acted
  simp only [lt1_k]
  rw [pI_nf (show (53 : Nat) ≠ 52 by decide)]
  have e7 : (pI (pI m 200 52 (m.1 200 52 + x)) 200 53 (m.1 200 53 + x)).1 200 52 = m.1 200 52 + x := by rw [pI_nf (by decide), pI_at]
  have e8 : (pI (pI m 200 52 (m.1 200 52 + x)) 200 53 (m.1 200 53 + x)).1 200 54 = m.1 200 54 := by rw [pI_nf (by decide), pI_nf (by decide)]
  have e9 : (pI (pI m 200 52 (m.1 200 52 + x)) 200 53 (m.1 200 53 + x)).1 200 53 = m.1 200 53 + x := pI_at
  rw [e7, e8, e9, cmpI_ok (by omega), cmpI_ok (by omega), cmpI_ok (by omega)]
  unfold ACt
  by_cases k1 : 2000 < m.1 200 52 + x
  · rw [if_pos k1, if_pos k1]
  · rw [if_neg k1, if_neg k1]
    rcases h8 with ⟨q0, q1, q2⟩ | ⟨q1, q2, q3, q4⟩
    · rw [if_pos q2, if_neg (by omega)]
    · rw [if_neg (by omega)]
      by_cases k2 : 20000 < m.1 200 53 + x
      · rw [if_pos k2, if_pos ⟨q2, k2⟩]
      · rw [if_neg k2, if_neg (fun q => k2 q.2)]
theorem RNc.ct (h : RNc o t m) (hx : 0 ≤ x) (h1 : ¬ 2000 < m.1 200 52 + x) (h2 : ¬ (m.1 200 54 = 1 ∧ 20000 < m.1 200 53 + x)) : RNc o (CT o t x) (ACt m x) := by
  obtain ⟨⟨k1, k2, k3⟩, ⟨k4, k5, k6, k7⟩, k8⟩ := h
  have e7 : (CT o t x).1 (307 + o) 7 = t.1 (307 + o) 7 + x := by unfold CT; rw [pI_nf (by decide), pI_at]
  have e9 : (CT o t x).1 (307 + o) 9 = t.1 (307 + o) 9 + x := by unfold CT; rw [pI_at]
  have e8 : (CT o t x).1 (307 + o) 8 = t.1 (307 + o) 8 := by unfold CT; rw [pI_nf (by decide), pI_nf (by decide)]
  have f2 : (ACt m x).1 200 52 = m.1 200 52 + x := by unfold ACt; rw [pI_nf (by decide), pI_at]
  have f3 : (ACt m x).1 200 53 = m.1 200 53 + x := by unfold ACt; rw [pI_at]
  have f4 : (ACt m x).1 200 54 = m.1 200 54 := by unfold ACt; rw [pI_nf (by decide), pI_nf (by decide)]
  unfold RNc
  rw [e7, e8, e9, f2, f3, f4]
  refine ⟨⟨by omega, by omega, by omega⟩, ⟨by omega, by omega, by omega, by omega⟩, ?_⟩
  rcases k8 with ⟨q0, q1, q2⟩ | ⟨q1, q2, q3, q4⟩
  · exact Or.inl ⟨q0, q1, q2⟩
  · refine Or.inr ⟨q1, q2, by omega, ?_⟩
    apply Classical.byContradiction
    intro h9
    exact h2 ⟨q2, by omega⟩
theorem gh_ct (ho : o < 2) : GHr o t (CT o t x) := by
  have e7 : (CT o t x).1 (307 + o) 7 = t.1 (307 + o) 7 + x := by unfold CT; rw [pI_nf (by decide), pI_at]
  have e9 : (CT o t x).1 (307 + o) 9 = t.1 (307 + o) 9 + x := by unfold CT; rw [pI_at]
  exact ⟨fun a h1 _ _ => by unfold CT; rw [pI_ne h1, pI_ne h1], ⟨fun y _ _ h3 h4 => by unfold CT; rw [pI_nf h4, pI_nf h3], by rw [e7, e9]; omega⟩, fun b _ _ _ => by unfold CT; rw [pI_ne (by omega), pI_ne (by omega)], fun _ _ _ _ _ _ => rfl⟩
theorem gm_act : GMr m (ACt m x) := by
  have e2 : (ACt m x).1 200 52 = m.1 200 52 + x := by unfold ACt; rw [pI_nf (by decide), pI_at]
  have e3 : (ACt m x).1 200 53 = m.1 200 53 + x := by unfold ACt; rw [pI_at]
  exact ⟨fun a _ _ _ _ h5 _ _ _ => by unfold ACt; rw [pI_ne h5, pI_ne h5], fun b h1 h2 h3 h4 => by unfold ACt; rw [pI_nf (by omega), pI_nf (by omega)], fun _ _ => rfl, by rw [e2, e3]; omega⟩
theorem GHr.CT (ho : o < 2) : GHr o t (CT o t x) := gh_ct ho
theorem GMr.ACt : GMr m (ACt m x) := gm_act
theorem CT_f {y : Nat} (h : y ≠ 7) (h2 : y ≠ 9) : (CT o t x).1 (307 + o) y = t.1 (307 + o) y := by unfold CT; rw [pI_nf h2, pI_nf h]
theorem CT_L : (CT o t x).2 = t.2 := rfl
theorem CT_n {a : Nat} (h : a ≠ 307 + o) : (CT o t x).1 a = t.1 a := by unfold CT; rw [pI_ne h, pI_ne h]
theorem ACt_f {y : Nat} (h : y ≠ 52) (h2 : y ≠ 53) : (ACt m x).1 200 y = m.1 200 y := by unfold ACt; rw [pI_nf h2, pI_nf h]
theorem ACt_n {a : Nat} (h : a ≠ 200) : (ACt m x).1 a = m.1 a := by unfold ACt; rw [pI_ne h, pI_ne h]
theorem ACt_L : (ACt m x).2 = m.2 := rfl
theorem CIk.CT (h : CIk t) (ho : o < 2) : CIk (CT o t x) := (h.rI ho).rI ho
/-- the model counts the acts of a statement -/
theorem m_look {K5 : Int → St → Option (Int × St)} : ∀ (k y n : Nat) (z : Int), k < n → y + k < 10100 → (∀ j, y ≤ j → j < y + k → inR (m.1 31 j) ∧ m.1 31 j ≠ 5123) → m.1 31 (y + k) = 5123 → f_X12_actsOf_L28 K5 n z y m = K5 (z + cnL (m.1 31) y k) m := by
  intro k
  induction k with
  | zero =>
    intro y n z h1 h2 h3 h4
    obtain ⟨n, rfl⟩ : ∃ k, n = k + 1 := ⟨n - 1, by omega⟩
    conv => lhs; unfold f_X12_actsOf_L28
    rw [ixI_ok (by omega), lt1_k, Int.toNat_natCast, show m.1 31 y = 5123 from h4, cmpI_ok (by omega), if_pos rfl]
    show _ = K5 (z + 0) m
    rw [Int.add_zero]
  | succ k ih =>
    intro y n z h1 h2 h3 h4
    obtain ⟨n, rfl⟩ : ∃ k, n = k + 1 := ⟨n - 1, by omega⟩
    have h5 := h3 y (by omega) (by omega)
    have hs : cnL (m.1 31) y (k + 1) = (if m.1 31 y = 22 ∨ m.1 31 y = 23 ∨ m.1 31 y = 30 then 1 else 0) + cnL (m.1 31) (y + 1) k := by
      rw [Nat.add_comm k 1, cnL_add]
      show 0 + _ + _ = _
      rw [Int.zero_add, Nat.add_zero]
    have hi := fun z => ih (y + 1) n z (by omega) (by omega) (fun j q1 q2 => h3 j (by omega) (by omega)) (by rw [show y + 1 + k = y + (k + 1) by omega]; exact h4)
    conv => lhs; unfold f_X12_actsOf_L28
    simp only [lt1_k, jn1_k]
    rw [ixI_ok (by omega), Int.toNat_natCast, cmpI_ok (by omega), if_neg h5.2, ixI_ok (by omega), cmpI_ok (by omega), ixI_ok (by omega), cmpI_ok (by omega), ixI_ok (by omega), cmpI_ok (by omega), show (y : Int) + 1 = ((y + 1 : Nat) : Int) by omega, hi, hi, hs]
    by_cases q1 : m.1 31 y = 22
    · rw [if_pos q1, if_pos (Or.inl q1), Int.add_assoc]
    · rw [if_neg q1]
      by_cases q2 : m.1 31 y = 23
      · rw [if_pos q2, if_pos (Or.inr (Or.inl q2)), Int.add_assoc]
      · rw [if_neg q2]
        by_cases q3 : m.1 31 y = 30
        · rw [if_pos q3, if_pos (Or.inr (Or.inr q3)), Int.add_assoc]
        · rw [if_neg q3, if_neg (by omega), Int.add_assoc]
/-- a frame more -/
def ENf (m : St) (k : Nat) (a0 a1 a2 : Int) (a3 : Int64) : St := pI (pL (pI (pI (pI m 55 k a0) 56 k a1) 57 k a2) 58 k a3) 200 51 ((k + 1 : Nat) : Int)
theorem m_enters {k : Nat} {a0 a1 a2 : Int} {a3 : Int64} (h : m.1 200 51 = k) (hk : k < 1600) : f_X12_enters N a0 a1 a2 a3 m = some (ENf m k a0 a1 a2 a3) := by
  unfold f_X12_enters ENf
  simp only [lt1_k]
  have e1 : (pI m 55 k a0).1 200 51 = k := by rw [pI_ne (by decide)]; exact h
  have e2 : (pI (pI m 55 k a0) 56 k a1).1 200 51 = k := by rw [pI_ne (by decide)]; exact e1
  have e3 : (pI (pI (pI m 55 k a0) 56 k a1) 57 k a2).1 200 51 = k := by rw [pI_ne (by decide)]; exact e2
  have e4 : (pL (pI (pI (pI m 55 k a0) 56 k a1) 57 k a2) 58 k a3).1 200 51 = k := e3
  rw [h, ixI_ok (by omega), Int.toNat_natCast, e1, ixI_ok (by omega), Int.toNat_natCast, e2, ixI_ok (by omega), Int.toNat_natCast, e3, ixI_ok (by omega), Int.toNat_natCast, e4]
  rfl
theorem GMr.ENf {k : Nat} {a0 a1 a2 : Int} {a3 : Int64} : GMr m (ENf m k a0 a1 a2 a3) := ((((GMr.I (by omega)).tr (GMr.I (by omega))).tr (GMr.I (by omega))).tr GMr.L).tr (GMr.F (by omega))
end
