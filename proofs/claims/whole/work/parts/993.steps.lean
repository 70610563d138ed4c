/-! a step's pairs: code and tokens together -/
/-- what trying a step leaves as it is: the model, the hall -/
def mk5 (m u : St) : Prop := (∀ a, a ≠ 74 → a ≠ 76 → a ≠ 77 → a ≠ 78 → a ≠ 79 → a ≠ 80 → a ≠ 81 → a ≠ 86 → a ≠ 87 → a ≠ 200 → u.1 a = m.1 a) ∧ (∀ b, b ≠ 70 → b ≠ 71 → b ≠ 72 → b ≠ 75 → b ≠ 82 → b ≠ 83 → b ≠ 84 → b ≠ 85 → b ≠ 88 → b ≠ 114 → u.1 200 b = m.1 200 b) ∧ (∀ a, a ≠ 73 → u.2 a = m.2 a)
def hk5 (t u : St) : Prop := (∀ a, a ≠ 304 → a ≠ 311 → (a < 372 ∨ 383 < a) → u.1 a = t.1 a) ∧ (∀ b, b < 11 → u.1 304 b = t.1 304 b) ∧ (∀ b, b ≠ 3 → b ≠ 4 → b ≠ 9 → u.1 311 b = t.1 311 b) ∧ (∀ a, a ≠ 384 → a ≠ 370 → a ≠ 371 → a ≠ 311 → u.2 a = t.2 a)
theorem mk5.rf {m : St} : mk5 m m := ⟨fun _ _ _ _ _ _ _ _ _ _ _ => rfl, fun _ _ _ _ _ _ _ _ _ _ _ => rfl, fun _ _ => rfl⟩
theorem mk5.tr {m u v : St} (h : mk5 m u) (g : mk5 u v) : mk5 m v :=
  ⟨fun a h1 h2 h3 h4 h5 h6 h7 h8 h9 h10 => (g.1 a h1 h2 h3 h4 h5 h6 h7 h8 h9 h10).trans (h.1 a h1 h2 h3 h4 h5 h6 h7 h8 h9 h10), fun b h1 h2 h3 h4 h5 h6 h7 h8 h9 h10 => (g.2.1 b h1 h2 h3 h4 h5 h6 h7 h8 h9 h10).trans (h.2.1 b h1 h2 h3 h4 h5 h6 h7 h8 h9 h10), fun a h1 => (g.2.2 a h1).trans (h.2.2 a h1)⟩
theorem hk5.rf {t : St} : hk5 t t := ⟨fun _ _ _ _ => rfl, fun _ _ => rfl, fun _ _ _ _ => rfl, fun _ _ _ _ _ => rfl⟩
theorem hk5.tr {t u v : St} (h : hk5 t u) (g : hk5 u v) : hk5 t v :=
  ⟨fun a h1 h2 h3 => (g.1 a h1 h2 h3).trans (h.1 a h1 h2 h3), fun b h1 => (g.2.1 b h1).trans (h.2.1 b h1), fun b h1 h2 h3 => (g.2.2.1 b h1 h2 h3).trans (h.2.2.1 b h1 h2 h3), fun a h1 h2 h3 h4 => (g.2.2.2 a h1 h2 h3 h4).trans (h.2.2.2 a h1 h2 h3 h4)⟩
theorem mf4.m5 {m u : St} (h : mf4 m u) : mk5 m u :=
  ⟨fun a _ _ _ _ _ h6 h7 h8 h9 h10 => h.1 a h6 h7 h8 h9 h10, fun b _ _ _ _ h5 h6 h7 h8 h9 h10 => h.2.1 b h5 h6 h7 h8 h9 h10, fun a _ => by rw [h.2.2]⟩
theorem hfr.k5 {t u : St} (h : hfr t u) : hk5 t u :=
  ⟨fun a _ h2 h3 => h.1 a (by omega) (by omega) (by omega) (by omega) h2, fun b _ => by rw [h.1 304 (by decide) (by decide) (by decide) (by decide) (by decide)], h.2.1, fun a h1 h2 _ h4 => h.2.2 a h1 h2 h4⟩
theorem mk5.I {m : St} {a i : Nat} {v : Int} (h : a = 74 ∨ a = 76 ∨ a = 77 ∨ a = 78 ∨ a = 79) : mk5 m (pI m a i v) :=
  ⟨fun b h1 h2 h3 h4 h5 h6 h7 h8 h9 h10 => pI_ne (by omega), fun b _ _ _ _ _ _ _ _ _ _ => by rw [pI_ne (by omega)], fun _ _ => rfl⟩
theorem mk5.F {m : St} {b : Nat} {v : Int} (h : b = 70 ∨ b = 71 ∨ b = 72 ∨ b = 75 ∨ b = 114) : mk5 m (pI m 200 b v) :=
  ⟨fun a h1 h2 h3 h4 h5 h6 h7 h8 h9 h10 => pI_ne h10, fun c _ _ _ _ _ _ _ _ _ _ => pI_nf (by omega), fun _ _ => rfl⟩
theorem mk5.L {m : St} {i : Nat} {v : Int64} : mk5 m (pL m 73 i v) :=
  ⟨fun _ _ _ _ _ _ _ _ _ _ _ => rfl, fun _ _ _ _ _ _ _ _ _ _ _ => rfl, fun a h1 => pL_ne h1⟩
theorem hk5.I {t : St} {a i : Nat} {v : Int} (h : 372 ≤ a ∧ a ≤ 378) : hk5 t (pI t a i v) :=
  ⟨fun b h1 h2 h3 => pI_ne (by omega), fun b _ => by rw [pI_ne (by omega)], fun b _ _ _ => by rw [pI_ne (by omega)], fun _ _ _ _ _ => rfl⟩
theorem hk5.F {t : St} {b : Nat} {v : Int} (h : 11 ≤ b) : hk5 t (pI t 304 b v) :=
  ⟨fun a h1 h2 h3 => pI_ne h1, fun c hc => pI_nf (by omega), fun b _ _ _ => by rw [pI_ne (by decide)], fun _ _ _ _ _ => rfl⟩
theorem hk5.L {t : St} {i : Nat} {v : Int64} : hk5 t (pL t 371 i v) :=
  ⟨fun _ _ _ _ => rfl, fun _ _ => rfl, fun _ _ _ _ => rfl, fun a h1 h2 h3 h4 => pL_ne h3⟩
/-- the cache does not look at what a try writes -/
def ck5 (t u : St) : Prop := (∀ a, a ≠ 304 → (a < 372 ∨ 378 < a) → u.1 a = t.1 a) ∧ u.2 311 = t.2 311
theorem CIk.k5 {t u : St} (h : CIk t) (g : ck5 t u) : CIk u := by
  obtain ⟨c1, c2, c3, c4⟩ := h
  have e : ∀ a, a ≠ 304 → (a < 372 ∨ 378 < a) → u.1 a = t.1 a := g.1
  refine ⟨by rw [e 311 (by decide) (by decide)]; exact c1, by rw [e 311 (by decide) (by decide)]; exact c2, fun f hf => by rw [e 381 (by decide) (by decide)]; exact c3 f hf, fun o ho h9 => ?_⟩
  rw [e 311 (by decide) (by decide)] at h9
  rw [e 311 (by decide) (by decide), e (305 + o) (by omega) (by omega), e 381 (by decide) (by decide), e 312 (by decide) (by decide), e 380 (by decide) (by decide), g.2]
  refine ⟨(c4 o ho h9).1, fun h10 f hf h11 => ?_⟩
  obtain ⟨q1, M, n, k, q2, q3, q4, q5⟩ := (c4 o ho h9).2 h10 f hf h11
  refine ⟨q1, M, n, k, ⟨q2.1, ?_⟩, q3, ?_, q5⟩
  · unfold FH
    rw [e (305 + o) (by omega) (by omega), e (390 + 10 * o) (by omega) (by omega), e (391 + 10 * o) (by omega) (by omega), e (392 + 10 * o) (by omega) (by omega), e (397 + 10 * o) (by omega) (by omega)]
    exact q2.2
  · unfold fhO
    rw [e 350 (by decide) (by decide), e 351 (by decide) (by decide), e 352 (by decide) (by decide), e 353 (by decide) (by decide)]
    exact q4
theorem EVr.k5 {o n : Nat} {t m u v : St} (h : EVr o t m n) (g : hk5 t u) (gC : CIk u) (g2 : mk5 m v) : EVr o u v n := by
  obtain ⟨ho, h1, h2, h3, h4, h5, h6, h7, h8⟩ := h
  have e : ∀ a, a < 70 → v.1 a = m.1 a := fun a h => g2.1 a (by omega) (by omega) (by omega) (by omega) (by omega) (by omega) (by omega) (by omega) (by omega) (by omega)
  have f : ∀ a, a ≠ 304 → a ≠ 311 → (a < 372 ∨ 383 < a) → u.1 a = t.1 a := g.1
  have e37 := g2.2.1 37 (by decide) (by decide) (by decide) (by decide) (by decide) (by decide) (by decide) (by decide) (by decide) (by decide)
  have e14 := g2.2.1 14 (by decide) (by decide) (by decide) (by decide) (by decide) (by decide) (by decide) (by decide) (by decide) (by decide)
  refine ⟨ho, ?_, ?_, ?_, ?_, gC, ?_, ?_, ?_⟩
  · unfold hmF fmF FH
    rw [e37, e 38 (by decide), e 39 (by decide), e 40 (by decide), f (305 + o) (by omega) (by omega) (by omega), f (390 + 10 * o) (by omega) (by omega) (by omega), f (391 + 10 * o) (by omega) (by omega) (by omega), f (392 + 10 * o) (by omega) (by omega) (by omega), f (397 + 10 * o) (by omega) (by omega) (by omega)]
    exact h1
  · unfold hoO odM
    rw [e 38 (by decide), e 39 (by decide), f (395 + 10 * o) (by omega) (by omega) (by omega)]
    exact h2
  · rw [e 40 (by decide), g.2.2.2 (396 + 10 * o) (by omega) (by omega) (by omega) (by omega)]; exact h3
  · unfold hGd
    rw [g2.2.1 54 (by decide) (by decide) (by decide) (by decide) (by decide) (by decide) (by decide) (by decide) (by decide) (by decide), e 44 (by decide), e 45 (by decide), e 46 (by decide), f (394 + 10 * o) (by omega) (by omega) (by omega)]; exact h4
  · rw [f (305 + o) (by omega) (by omega) (by omega)]; exact h6
  · rw [e14, f 312 (by decide) (by decide) (by decide)]; exact h7
  · intro x hf
    rw [e14] at hf
    obtain ⟨k, a1, a2⟩ := h8 x hf
    refine ⟨k, ?_, ?_⟩
    · unfold fmO
      rw [e 18 (by decide), e 19 (by decide), e 20 (by decide), e 21 (by decide), e 22 (by decide)]
      exact a1
    · unfold fhO
      rw [e 19 (by decide), e 20 (by decide), e 21 (by decide), e 22 (by decide), f 350 (by decide) (by decide) (by decide), f 351 (by decide) (by decide) (by decide), f 352 (by decide) (by decide) (by decide), f 353 (by decide) (by decide) (by decide)]
      exact a2
/-- a word that comes to a value -/
def LFc (cd : Nat → Int) (a : Nat) : Prop := ∃ kd vl : Int, 0 ≤ kd ∧ kd ≤ 16 ∧ 0 ≤ vl ∧ vl < 33554432 ∧ cd a = vl * 64 + kd
/-- p pairs of a WHO and a figure; e, d: behind the last figure -/
def STq (M : St) (H : Nat) (cd tk : Nat → Int) : Nat → Nat → Nat → Nat → Nat → Prop
  | 0, _, _, _, _ => False
  | 1, a, e, c, d => ∃ e1 d1 F : Nat, e = e1 + 1 ∧ d = d1 + 1 ∧ WW M H cd tk a e1 c d1 ∧ LFc cd a ∧ cd e1 = (F : Int) * 64 + 17 ∧ tk d1 = 3000 + (F : Int) ∧ (F : Int) < M.1 200 15 ∧ ∀ x, c ≤ x → x < d1 → (14 ≤ tk x ∧ tk x < 3000) ∨ tk x = 5040 ∨ tk x = 5041
  | p + 2, a, e, c, d => ∃ e0 d0, STq M H cd tk (p + 1) a e0 c d0 ∧ tk d0 = 5038 ∧ ∃ e1 d1 F : Nat, e = e1 + 1 ∧ d = d1 + 1 ∧ WW M H cd tk e0 e1 (d0 + 1) d1 ∧ LFc cd e0 ∧ cd e1 = (F : Int) * 64 + 17 ∧ tk d1 = 3000 + (F : Int) ∧ (F : Int) < M.1 200 15 ∧ ∀ x, d0 + 1 ≤ x → x < d1 → (14 ≤ tk x ∧ tk x < 3000) ∨ tk x = 5040 ∨ tk x = 5041
theorem STq.lt {M : St} {H : Nat} {cd tk : Nat → Int} : ∀ {p a e c d : Nat}, STq M H cd tk p a e c d → a + 2 * p ≤ e ∧ c + 2 * p ≤ d + 0 * p ∧ 1 ≤ p := by
  intro p
  induction p with
  | zero => intro a e c d h; exact h.elim
  | succ p ih =>
    intro a e c d h
    cases p with
    | zero =>
      obtain ⟨e1, d1, F, h1, h2, h3, _⟩ := h
      have := h3.1
      have := h3.2.1
      omega
    | succ p =>
      obtain ⟨e0, d0, h0, _, e1, d1, F, h1, h2, h3, _⟩ := h
      have := ih h0
      have := h3.1
      have := h3.2.1
      omega
/-- the pairs as they were found out -/
def PRs (t m : St) (n : Nat) (Fg : Int) (p : Nat) : Prop := ∀ j, j < p → t.2 371 j = m.2 73 j ∧ (∀ e, e < 64 → bq (m.2 73 j) e = true → e < n) ∧ t.1 372 j = m.1 74 j ∧ 0 ≤ m.1 74 j ∧ m.1 74 j < Fg
/-- one pair more: the hall -/
theorem h_pair {M : St} {H : Nat} {cd tk : Nat → Int} {N o n : Nat} {t m : St} {s : Int64} {a e1 c d1 F p : Nat} (hW : WW M H cd tk a e1 c d1) (hH : H ≤ 30) (hcd : cd e1 = (F : Int) * 64 + 17) (htk : tk d1 = 3000 + (F : Int)) (hF : F < 100) (hX : CXr M N o n t m s) (hC : agC t cd a (e1 + 1)) (hT : agT m tk c (d1 + 1)) (hr : m.1 200 114 = c) (hp : p < 4) (hLF : LFc cd a) (h75 : m.1 200 75 = p) (hnx : inR (m.1 31 (d1 + 1))) (hd1 : d1 + 1 < 10100) :
    ∃ (v : Int64) (u w : St),
      (∀ (K : Int → Int → St → Option (Int × St)) (q : Nat), f_X1_attempt_L6 N o K s (q + 1) a p t = f_X1_attempt_L6 N o K s q ((e1 + 1 : Nat) : Int) ((p + 1 : Nat) : Int) (pI (pL u 371 p v) 372 p F)) ∧ hfr t u ∧ CIk u ∧
      (∀ (K : St → Option (Int × St)) (q : Nat), f_X12_reckons_L13 N K s (q + 1) 1 m = (if m.1 31 (d1 + 1) = 5038 then f_X12_reckons_L13 N K s q 1 (pI (pI (pI (pL w 73 p v) 74 p F) 200 75 ((p + 1 : Nat) : Int)) 200 114 ((d1 + 2 : Nat) : Int)) else f_X12_reckons_L13 N K s q 0 (pI (pI (pI (pL w 73 p v) 74 p F) 200 75 ((p + 1 : Nat) : Int)) 200 114 ((d1 + 1 : Nat) : Int)))) ∧ mf4 m w ∧ ∀ e, e < 64 → bq v e = true → e < n := by
  have hab := hW.1
  have hcd2 := hW.2.1
  have hl := hC.2
  have hN := hX.1
  have hE := hX.2.1
  have htd1 : m.1 31 d1 = 3000 + (F : Int) := by rw [hT.1 d1 (by omega) (by omega)]; exact htk
  have hce1 : t.1 363 e1 = (F : Int) * 64 + 17 := by rw [hC.1 e1 (by omega) (by omega)]; exact hcd
  obtain ⟨v, u, w, g1, g2, g3, g4, g5⟩ := ww_end hW (D := 100) (t := t) (m := m) (s := s) (top := -1) hX (hC.sub (by omega) (by omega)) (hT.sub (by omega) (by omega)) hr (by rw [htd1]; omega) (by rw [htd1]; omega) (by rw [htd1]; omega) (by omega) (by omega) (by omega)
  have hu302 : u.1 302 18 = t.1 302 18 := by rw [g1.2.1.1 302 (by decide) (by decide) (by decide) (by decide) (by decide)]
  have hu363 : u.1 363 = t.1 363 := g1.2.1.1 363 (by decide) (by decide) (by decide) (by decide) (by decide)
  refine ⟨v, u, w, fun K q => ?_, g1.2.1, g1.2.2.1, fun K q => ?_, g3, g5⟩
  · obtain ⟨kd, vl, l1, l2, l3, l4, l5⟩ := hLF
    have hlen := hX.2.2.2.1
    have hk0 := h_kind (N := N) (x := a) (kd := kd) (vl := vl) (t := t) (by omega) ⟨l3, l4⟩ (by omega) hX.2.2.2.1 (by rw [hC.1 a (by omega) (by omega)]; exact l5)
    conv => lhs; unfold f_X1_attempt_L6
    rw [cmpI_ok (by omega), if_pos (by omega), lt1_k, cmpI_ok (by omega), if_pos (by omega), hk0.1, bdI_s, cmpI_ok (by omega), if_neg (by omega)]
    have hev : f_X1_evaluate N o a s t = some ((e1 : Int), u) := by
      unfold f_X1_evaluate
      have hfu : ∃ q9, N = (q9 + 1) + (e1 - a) := ⟨N - 1 - (e1 - a), by have := hX.2.2.2.1; omega⟩
      obtain ⟨q9, hq9⟩ := hfu
      conv => lhs; arg 5; rw [hq9]
      rw [g1.1, show ((-1 : Int) + 1) = 0 by omega]
      exact ev_stop (vl := F) (kd := 17) (by omega) (by omega) (by rw [hu302]; omega) (by rw [hu302]; exact hX.2.2.2.1) (by rw [hu363]; exact hce1)
    have hv0 : u.2 370 0 = v := g1.2.2.2.1
    have hkv := h_kind (N := N) (x := e1) (kd := 17) (vl := F) (t := pL u 371 p v) (by omega) (by omega) (by rw [pL_I, hu302]; omega) (by rw [pL_I, hu302]; exact hX.2.2.2.1) (by rw [pL_I, hu363]; exact hce1)
    simp only [lt1_k]
    rw [hev, bdI_s, ixI_ok (by omega), show ((0 : Int).toNat) = 0 from rfl, hv0, ixI_ok (by omega), Int.toNat_natCast, hkv.2, bdI_s, ixI_ok (by omega), show ((e1 : Int) + 1) = ((e1 + 1 : Nat) : Int) by omega, show ((p : Int) + 1) = ((p + 1 : Nat) : Int) by omega]
  · have g2' : f_X12_readWho N s m = some (v, w) := g2
    have hw75 : w.1 200 75 = p := by rw [g3.2.1 75 (by decide) (by decide) (by decide) (by decide) (by decide) (by decide)]; exact h75
    have hw31 : w.1 31 = m.1 31 := g3.1 31 (by decide) (by decide) (by decide) (by decide) (by decide)
    conv => lhs; unfold f_X12_reckons_L13
    rw [cmpI_ok (by omega), if_neg (by decide)]
    simp only [lt1_k, jn1_k]
    rw [g2', bdL_s, h75, ixI_ok (by omega), Int.toNat_natCast]
    have k1 : (pL w 73 p v).1 200 75 = p := hw75
    have k2 : (pL w 73 p v).1 200 114 = d1 := g4
    have k3 : (pL w 73 p v).1 31 d1 = 3000 + (F : Int) := by rw [pL_I, hw31]; exact htd1
    simp only [k1, k2, Int.toNat_natCast, k3]
    rw [ixI_ok (by omega), ixI_ok (by omega), show (3000 + (F : Int) - 3000) = (F : Int) by omega]
    have k4 : (pI (pL w 73 p v) 74 p (F : Int)).1 200 75 = p := by rw [pI_ne (by decide)]; exact k1
    have k5 : (pI (pI (pL w 73 p v) 74 p (F : Int)) 200 75 ((p : Int) + 1)).1 200 114 = d1 := by rw [pI_nf (by decide), pI_ne (by decide)]; exact k2
    have k6 : (pI (pI (pL w 73 p v) 74 p (F : Int)) 200 75 ((p : Int) + 1)).1 31 (d1 + 1) = m.1 31 (d1 + 1) := by rw [pI_ne (by decide), pI_ne (by decide), pL_I, hw31]
    have e1' : ((d1 : Int) + 1).toNat = d1 + 1 := by omega
    simp only [k4, k5, e1', k6]
    rw [ixI_ok (by omega), cmpI_ok ⟨hnx, by decide, by decide⟩]
    by_cases h9 : m.1 31 (d1 + 1) = 5038
    · rw [if_pos h9, if_pos h9, cmpI_ok (by omega), if_neg (by decide)]
      rfl
    · rw [if_neg h9, if_neg h9, cmpI_ok (by omega), if_pos trivial]
      rfl
/-- all pairs -/
theorem st_gather {M : St} {H : Nat} {cd tk : Nat → Int} {N o n : Nat} {s : Int64} (hH : H ≤ 30) (hM15 : M.1 200 15 ≤ 100) : ∀ (p a e c d : Nat) (t m : St), STq M H cd tk p a e c d → p ≤ 4 → CXr M N o n t m s → agC t cd a e → agT m tk c d → m.1 200 114 = c → inR (m.1 31 d) → d < 10099 → m.1 200 75 = 0 →
    ∃ (u w : St), (∀ (K : Int → Int → St → Option (Int × St)) (q : Nat), f_X1_attempt_L6 N o K s (q + p) a 0 t = f_X1_attempt_L6 N o K s q e p u) ∧ (hk5 t u ∧ u.1 304 = t.1 304 ∧ u.1 378 = t.1 378) ∧ CIk u ∧
      (∀ (K : St → Option (Int × St)) (q : Nat), f_X12_reckons_L13 N K s (q + p) 1 m = (if m.1 31 d = 5038 then f_X12_reckons_L13 N K s q 1 (pI w 200 114 ((d + 1 : Nat) : Int)) else f_X12_reckons_L13 N K s q 0 (pI w 200 114 (d : Int)))) ∧ mk5 m w ∧ w.1 31 = m.1 31 ∧ w.1 200 75 = p ∧ PRs u w n (M.1 200 15) p := by
  intro p
  induction p with
  | zero => intro a e c d t m h; exact h.elim
  | succ p ih =>
    intro a e c d t m h hp hX hC hT hr hi hd h75
    have one : ∀ (a e1 c d1 F j : Nat) (t m : St), WW M H cd tk a e1 c d1 → LFc cd a → cd e1 = (F : Int) * 64 + 17 → tk d1 = 3000 + (F : Int) → (F : Int) < M.1 200 15 → j < 4 → CXr M N o n t m s → agC t cd a (e1 + 1) → agT m tk c (d1 + 1) → True := fun _ _ _ _ _ _ _ _ _ _ _ _ _ _ _ _ _ => trivial
    cases p with
    | zero =>
      obtain ⟨e1, d1, F, rfl, rfl, h3, h4, h5, h6, h7, _⟩ := h
      obtain ⟨v, u, w, g1, g2, g3, g4, g5, g6⟩ := h_pair (p := 0) h3 hH h5 h6 (by omega) hX hC hT hr (by omega) h4 h75 hi (by omega)
      refine ⟨pI (pL u 371 0 v) 372 0 F, pI (pI (pL w 73 0 v) 74 0 F) 200 75 ((0 + 1 : Nat) : Int), fun K q => g1 K q, ⟨g2.k5.tr (hk5.L.tr (hk5.I (by omega))), by rw [pI_ne (by decide), pL_I, g2.1 304 (by decide) (by decide) (by decide) (by decide) (by decide)], by rw [pI_ne (by decide), pL_I, g2.1 378 (by decide) (by decide) (by decide) (by decide) (by decide)]⟩, ?_, fun K q => g4 K q, g5.m5.tr (mk5.L.tr ((mk5.I (by omega)).tr (mk5.F (by omega)))), ?_, pI_at, ?_⟩
      · exact g3.k5 ⟨fun a h1 h2 => by rw [pI_ne (by omega)]; rfl, by show (pL u 371 0 v).2 311 = _; rw [pL_ne (by decide)]⟩
      · rw [pI_ne (by decide), pI_ne (by decide), pL_I, g5.1 31 (by decide) (by decide) (by decide) (by decide) (by decide)]
      · intro j hj
        have : j = 0 := by omega
        subst this
        refine ⟨?_, ?_, ?_, ?_, ?_⟩
        · show (pL u 371 0 v).2 371 0 = (pL w 73 0 v).2 73 0
          rw [pL_at, pL_at]
        · intro e he hb
          have : (pL w 73 0 v).2 73 0 = v := pL_at
          exact g6 e he (by rw [← this]; exact hb)
        · rw [pI_at, pI_ne (by decide), pI_at]
        · rw [pI_ne (by decide), pI_at]; omega
        · rw [pI_ne (by decide), pI_at]; exact h7
    | succ p =>
      obtain ⟨e0, d0, h0, h00, e1, d1, F, rfl, rfl, h3, h4, h5, h6, h7, _⟩ := h
      have hlt := STq.lt h0
      have hab := h3.1
      have hcd := h3.2.1
      have htd0 : m.1 31 d0 = 5038 := by rw [hT.1 d0 (by omega) (by omega)]; exact h00
      obtain ⟨u, w, g1, ⟨g2, g2a, g2b⟩, g3, g4, g5, g6, g7, g8⟩ := ih a e0 c d0 t m h0 (by omega) hX (hC.sub (by omega) (by omega)) (hT.sub (by omega) (by omega)) hr (by rw [htd0]; exact ⟨by decide, by decide⟩) (by omega) h75
      have hm2 : mk5 m (pI w 200 114 ((d0 + 1 : Nat) : Int)) := g5.tr (mk5.F (by omega))
      have hX2 : CXr M N o n u (pI w 200 114 ((d0 + 1 : Nat) : Int)) s := by
        refine ⟨hX.1, hX.2.1.k5 g2 g3 hm2, hX.2.2.1, by rw [g2.1 302 (by decide) (by decide) (by decide)]; exact hX.2.2.2.1, ?_⟩
        refine ⟨by rw [hm2.2.1 14 (by decide) (by decide) (by decide) (by decide) (by decide) (by decide) (by decide) (by decide) (by decide) (by decide)]; exact hX.2.2.2.2.1, fun f hf => ?_⟩
        rw [hm2.1 18 (by decide) (by decide) (by decide) (by decide) (by decide) (by decide) (by decide) (by decide) (by decide) (by decide)]
        exact hX.2.2.2.2.2 f hf
      have hC2 : agC u cd e0 (e1 + 1) := by
        unfold agC
        rw [g2.1 363 (by decide) (by decide) (by decide), g2.1 302 (by decide) (by decide) (by decide)]
        exact hC.sub (by omega) (by omega)
      have hT2 : agT (pI w 200 114 ((d0 + 1 : Nat) : Int)) tk (d0 + 1) (d1 + 1) := by
        unfold agT
        rw [pI_ne (by decide), g6]
        exact hT.sub (by omega) (by omega)
      have hnx : (pI w 200 114 ((d0 + 1 : Nat) : Int)).1 31 (d1 + 1) = m.1 31 (d1 + 1) := by rw [pI_ne (by decide), g6]
      obtain ⟨v, u2, w2, k1, k2, k3, k4, k5, k6⟩ := h_pair (p := p + 1) h3 hH h5 h6 (by omega) hX2 hC2 hT2 pI_at (by omega) h4 (by rw [pI_nf (by decide)]; exact g7) (by rw [hnx]; exact hi) (by omega)
      refine ⟨pI (pL u2 371 (p + 1) v) 372 (p + 1) F, pI (pI (pL w2 73 (p + 1) v) 74 (p + 1) F) 200 75 ((p + 1 + 1 : Nat) : Int), fun K q => ?_, ⟨g2.tr (k2.k5.tr (hk5.L.tr (hk5.I (by omega)))), by rw [pI_ne (by decide), pL_I, k2.1 304 (by decide) (by decide) (by decide) (by decide) (by decide), g2a], by rw [pI_ne (by decide), pL_I, k2.1 378 (by decide) (by decide) (by decide) (by decide) (by decide), g2b]⟩, ?_, fun K q => ?_, hm2.tr (k5.m5.tr (mk5.L.tr ((mk5.I (by omega)).tr (mk5.F (by omega))))), ?_, pI_at, ?_⟩
      · rw [show q + (p + 1 + 1) = (q + 1) + (p + 1) by omega, g1]; exact k1 K q
      · exact k3.k5 ⟨fun a h1 h2 => by rw [pI_ne (by omega)]; rfl, by show (pL u2 371 (p + 1) v).2 311 = _; rw [pL_ne (by decide)]⟩
      · rw [show q + (p + 1 + 1) = (q + 1) + (p + 1) by omega, g4, if_pos htd0, k4, hnx]
      · rw [pI_ne (by decide), pI_ne (by decide), pL_I, k5.1 31 (by decide) (by decide) (by decide) (by decide) (by decide), pI_ne (by decide), g6]
      · intro j hj
        have kL : ∀ x : Nat, (pI (pI (pL w2 73 (p + 1) v) 74 (p + 1) F) 200 75 ((p + 1 + 1 : Nat) : Int)).2 73 x = (pL w2 73 (p + 1) v).2 73 x := fun x => rfl
        have kU : ∀ x : Nat, (pI (pL u2 371 (p + 1) v) 372 (p + 1) F).2 371 x = (pL u2 371 (p + 1) v).2 371 x := fun x => rfl
        by_cases hjp : j = p + 1
        · subst hjp
          refine ⟨?_, ?_, ?_, ?_, ?_⟩
          · rw [kL, kU, pL_at, pL_at]
          · intro e he hb
            rw [kL, pL_at] at hb
            exact k6 e he hb
          · rw [pI_at, pI_ne (by decide), pI_at]
          · rw [pI_ne (by decide), pI_at]; omega
          · rw [pI_ne (by decide), pI_at]; exact h7
        · obtain ⟨q1, q2, q3, q4, q5⟩ := g8 j (by omega)
          have w73 : w2.2 73 j = w.2 73 j := by rw [k5.2.2]; rfl
          have w74 : w2.1 74 j = w.1 74 j := by rw [k5.1 74 (by decide) (by decide) (by decide) (by decide) (by decide), pI_ne (by decide)]
          have u371 : u2.2 371 j = u.2 371 j := by rw [k2.2.2 371 (by decide) (by decide) (by decide)]
          have u372 : u2.1 372 j = u.1 372 j := by rw [k2.1 372 (by decide) (by decide) (by decide) (by decide) (by decide)]
          refine ⟨?_, ?_, ?_, ?_, ?_⟩
          · rw [kL, kU, pL_nf hjp, pL_nf hjp, w73, u371]; exact q1
          · intro e he hb
            rw [kL, pL_nf hjp, w73] at hb
            exact q2 e he hb
          · rw [pI_nf hjp, pL_I, pI_ne (by decide), pI_nf hjp, pL_I, w74, u372]; exact q3
          · rw [pI_ne (by decide), pI_nf hjp, pL_I, w74]; exact q4
          · rw [pI_ne (by decide), pI_nf hjp, pL_I, w74]; exact q5
