/-! call, both sides: all -/
section
variable {N n c : Nat} {t m u v w μ : St} {i B : Nat} {len : Nat → Nat}
/-- behind the text of a call -/
theorem GR0.tc {T V : St} {a : Nat} (h : GR0 n c t m) (ha : t.1 302 18 = a) (hT : TXt T V) (hf : T.1 300 13 = V.1 200 8 ∧ 0 ≤ V.1 200 8 ∧ V.1 200 8 ≤ 7) (g : ∀ x y, x ≠ 300 → x ≠ 301 → x ≠ 303 → (x < 332 ∨ 335 < x) → (x ≠ 363 ∨ y < a) → T.1 x y = t.1 x y) (g3 : ∀ b, b ≠ 13 → T.1 300 b = t.1 300 b) (gL : ∀ x, x ≠ 335 → T.2 x = t.2 x) (e : ∀ x y, (x ≠ 31 ∨ y < 6000) → (x ≠ 32 ∨ y < 6000) → (x ≠ 200 ∨ (8 < y ∧ (y < 34 ∨ 36 < y) ∧ (y < 110 ∨ 113 < y))) → V.1 x y = m.1 x y) (eL : V.2 = m.2) : GR0 n c T V ∧ HKf t m T V := by
  obtain ⟨hb, hF, hr, hn, ht, hs⟩ := h
  have c6 : m.1 200 33 ≤ 6000 := by
    obtain ⟨a9, c9, n1, n2, n3, n4, n5⟩ := hb.1.2.1.1
    omega
  have gg : ∀ x, (x = 302 ∨ (304 ≤ x ∧ x ≤ 331) ∨ 336 ≤ x) → x ≠ 363 → T.1 x = t.1 x := fun x hx h3 => funext fun y => g x y (by omega) (by omega) (by omega) (by omega) (Or.inl h3)
  have ee : ∀ x, x ≠ 31 → x ≠ 32 → x ≠ 200 → V.1 x = m.1 x := fun x h1 h2 h3 => funext fun y => e x y (Or.inl h1) (Or.inl h2) (Or.inl h3)
  have e2' : ∀ b, ((8 < b ∧ b < 34) ∨ (36 < b ∧ b < 110)) → V.1 200 b = m.1 200 b := fun b hb => e 200 b (by omega) (by omega) (Or.inr (by omega))
  have hK : LwK t T := fun x y hx q => by
    obtain ⟨_, _, _, _, _, _, _, _, _, _, q11⟩ := q
    exact g x y (by omega) (by omega) (by omega) (by omega) (q11.imp id (fun z => by omega))
  have hNn : LwN m V := fun x y hx q => by
    obtain ⟨_, _, _, _, _, _, _, _, _, q10⟩ := q
    exact e x y (q10.elim (fun z => Or.inl z.1) (fun z => Or.inr (by omega))) (q10.elim (fun z => Or.inl z.2) (fun z => Or.inr (by omega))) (Or.inl (by omega))
  have hB : BK0 T V := hb.1.mv hK hNn (fun s x hs _ => by rw [gL (340 + s) (by omega)]) ⟨by rw [gg 312 (by omega) (by omega)], by rw [gg 313 (by omega) (by omega)], by rw [gg 314 (by omega) (by omega)]⟩ ⟨by rw [gg 302 (by omega) (by omega)], by rw [gg 302 (by omega) (by omega)], by rw [gg 302 (by omega) (by omega)]⟩ ⟨e2' 13 (by omega), e2' 14 (by omega), e2' 15 (by omega), e2' 16 (by omega), e2' 17 (by omega), e2' 33 (by omega)⟩
  have hG : BGr (XC t m) m (t.1 302 18) (XC T V) V (T.1 302 18) := by
    refine ⟨fun x hx => g 363 x (by omega) (by omega) (by omega) (by omega) (Or.inr (by omega)), fun x hx => ⟨e 31 x (Or.inr (by omega)) (Or.inl (by omega)) (Or.inl (by omega)), e 32 x (Or.inl (by omega)) (Or.inr (by omega)) (Or.inl (by omega))⟩, by rw [gg 302 (by omega) (by omega)]; exact Int.le_refl _, ⟨by rw [e2' 14 (by omega)]; exact Int.le_refl _, fun f hf => by rw [ee 18 (by omega) (by omega) (by omega)]⟩, by rw [e2' 15 (by omega)]; exact Int.le_refl _, by rw [e2' 16 (by omega)]; exact Int.le_refl _, fun p hp => by rw [ee 29 (by omega) (by omega) (by omega)], by rw [e2' 33 (by omega)]; exact Int.le_refl _⟩
  have hCI : CIk T := hF.1.2.2.2.2.2.2.1.ch (fun x hx => gg x (by omega) (by omega)) (gL 311 (by decide))
  exact ⟨⟨⟨hB, by unfold kwOK; rw [gL 331 (by decide)]; exact hb.2.1, hT, hf⟩, hF.mv hB hCI (fun x hx => gg x (by omega) (by omega)) (gL 396 (by decide)) (fun d _ => by rw [ee 38 (by decide) (by decide) (by decide), ee 39 (by decide) (by decide) (by decide), ee 40 (by decide) (by decide) (by decide), ee 41 (by decide) (by decide) (by decide), ee 44 (by decide) (by decide) (by decide), ee 45 (by decide) (by decide) (by decide), ee 46 (by decide) (by decide) (by decide)]; exact ⟨rfl, rfl, rfl, rfl, rfl, rfl, rfl⟩) ⟨ee 47 (by decide) (by decide) (by decide), ee 48 (by decide) (by decide) (by decide), ee 49 (by decide) (by decide) (by decide)⟩ (e2' 37 (by omega)), hr.mv hG (fun b _ => by rw [gg 307 (by omega) (by omega)]) ⟨gL 307 (by decide), gL 410 (by decide)⟩ (fun d _ => by rw [ee 55 (by decide) (by decide) (by decide), ee 56 (by decide) (by decide) (by decide), ee 57 (by decide) (by decide) (by decide), eL]; exact ⟨rfl, rfl, rfl, rfl⟩) (fun b hb => e2' b (by omega)) (by rw [e2' 53 (by omega)]; exact hr.2.2.2.1), hn.mv (fun b _ _ h3 => g3 b h3) (fun b hb => e2' b (by omega)), ht.mv (fun x hx => gg x (by omega) (by omega)) (by rw [gg 310 (by omega) (by omega)]) (e2' 89 (by omega)), hs.mv (gg 433 (by omega) (by omega)) (gg 432 (by omega) (by omega)) (fun i hi => by rw [gg 362 (by omega) (by omega)]) (fun b _ => by rw [gg 310 (by omega) (by omega)]) (gg 435 (by omega) (by omega)) (gL 434 (by decide)) (gg 438 (by omega) (by omega)) (fun a ha => ee a (by omega) (by omega) (by omega)) (by rw [eL]) (fun b hb => e2' b (by omega)) (by rw [e2' 17 (by omega)]; exact Int.le_refl _) (by rw [eL])⟩, gg 309 (by omega) (by omega), ⟨e2' 59 (by omega), e2' 60 (by omega)⟩, fun a h1 h2 => ee a (by omega) (by omega) (by omega), ⟨by rw [eL], by rw [eL]⟩, hG⟩
theorem call_base {u0 v0 t2 v2 V : St} {a : Nat} {f : Int} (h : GR0 n c t m) (hR : RDh t u0) (hF : FRh u0 t2 a) (ha : t.1 302 18 = a) (hS : RDm m v0) (hG : FRm v0 v2 6000) (h19 : t2.1 302 19 = v2.1 200 33) (hf : f = v2.1 200 8 ∧ 0 ≤ v2.1 200 8 ∧ v2.1 200 8 ≤ 7) (hV : ∀ x y, (x ≠ 200 ∨ y ≠ 36) → (x ≠ 31 ∨ y < 6000) → V.1 x y = v2.1 x y) (hVL : V.2 = v2.2) : GR0 n c (pI (pI t2 300 13 f) 302 18 (a : Int)) V ∧ HKf t m (pI (pI t2 300 13 f) 302 18 (a : Int)) V := by
  have e33 : v2.1 200 33 = m.1 200 33 := by rw [hG.1 200 33 (by omega) (by omega) (Or.inr (Or.inr ⟨rfl, Nat.le_refl _⟩)), hS.1 200 33 (by omega)]
  have b19 : t.1 302 19 = m.1 200 33 := by
    obtain ⟨a9, c9, n1, n2, n3, n4, n5⟩ := h.1.1.2.1.1
    omega
  refine h.tc ha ⟨⟨0, by omega, ?_, ?_, fun i hi => by omega⟩, ?_⟩ ⟨?_, ?_⟩ (fun x y z1 z2 z3 z4 z5 => ?_) (fun b hb => ?_) (fun x hx => ?_) (fun x y z1 z2 z3 => ?_) ?_
  · rw [pI_ne (by decide), pI_ne (by decide), hF.1 301 1 (by omega) (by omega) (by omega)]; exact hR.2.2
  · rw [hV 200 1 (by omega) (by omega), hG.1 200 1 (by omega) (by omega) (Or.inr (Or.inl (by unfold PFd; omega)))]; exact hS.2.2
  · unfold mBy
    intro i hi
    rw [hV 0 i (by omega) (by omega), hG.1 0 i (by omega) (by omega) (Or.inl (by omega)), hS.1 0 i (by omega)]
    exact h.1.2.2.1.2 i hi
  · rw [pI_ne (by decide), pI_at, hV 200 8 (by omega) (by omega)]; exact hf.1
  · rw [hV 200 8 (by omega) (by omega)]; exact hf.2
  · by_cases hx : x = 302
    · subst hx
      by_cases hy : y = 18
      · subst hy; rw [pI_at, ha]
      · by_cases hy9 : y = 19
        · subst hy9; rw [pI_nf (by decide), pI_ne (by decide), h19, e33, b19]
        · rw [pI_nf hy, pI_ne (by decide), hF.1 302 y (by omega) (Or.inr ⟨hy, hy9⟩) (by omega), hR.1 302 y (by omega) (by omega) (by omega) (by omega) (by omega)]
    · rw [pI_ne hx, pI_ne z1, hF.1 x y z3 (Or.inl hx) z5, hR.1 x y (by omega) (by omega) (by omega) (by omega) (by omega)]
  · rw [pI_ne (by decide), pI_nf hb, hF.1 300 b (by omega) (by omega) (by omega), hR.1 300 b (by omega) (by omega) (by omega) (by omega) (by omega)]
  · show t2.2 x = t.2 x
    rw [hF.2.1]
    exact hR.2.1 x hx
  · have h3 : x ≠ 200 ∨ ¬ PFd y ∨ (y = 33 ∧ 6000 ≤ 6000) := by
      rcases z3 with z | z
      · exact Or.inl z
      · by_cases hy : y = 33
        · exact Or.inr (Or.inr ⟨hy, Nat.le_refl _⟩)
        · exact Or.inr (Or.inl (by unfold PFd; omega))
    rw [hV x y (by omega) z1, hG.1 x y z1 z2 h3, hS.1 x y (by omega)]
  · exact hVL.trans (hG.2.trans hS.2.1)
theorem keep_eqx {t2 t3 m2 : St} (h1 : t2.1 309 2 = m2.1 200 59 ∧ 0 ≤ m2.1 200 59 ∧ m2.1 200 59 ≤ 200) (h2 : t2.1 309 1 = m2.1 200 60 ∧ 0 ≤ m2.1 200 60 ∧ m2.1 200 60 ≤ 200) (h3 : t3 = pI (pI t2 300 11 (t2.1 300 11 + t2.1 304 13)) 300 12 (t2.1 300 12 + 1)) : f_X11_countStep N t2 = some (kpT t3 m2) ∧ f_X12_keeps N m2 = some (kpM m2) := by
  have kb := keep_both (N := N) (t := t2) (m := m2) (p := m2.1 200 60) (s := m2.1 200 59) ⟨h2.1, rfl, h2.2⟩ ⟨h1.1, rfl, h1.2⟩
  refine ⟨?_, kb.2⟩
  unfold f_X11_countStep
  rw [kb.1, bdV_s]
  simp only [lt1_k]
  rw [h3]
  have q1 : (pI (pI t2 309 1 ((m2.1 200 60 + 1) % 201)) 309 2 (min (m2.1 200 59 + 1) 200)).1 300 = t2.1 300 := by rw [pI_ne (by decide), pI_ne (by decide)]
  have q2 : (pI (pI t2 309 1 ((m2.1 200 60 + 1) % 201)) 309 2 (min (m2.1 200 59 + 1) 200)).1 304 = t2.1 304 := by rw [pI_ne (by decide), pI_ne (by decide)]
  rw [show ∀ (s : St) (x : Int), (pI s 300 11 x).1 300 12 = s.1 300 12 from fun s x => pI_nf (by decide), q1, q2]
  congr 1
  rw [pI_c2 (k := 309) (k2 := 300) (by decide), pI_c2 (k := 309) (k2 := 300) (by decide), pI_c2 (k := 309) (k2 := 300) (by decide), pI_c2 (k := 309) (k2 := 300) (by decide)]
/-- the code of a call stands behind the book's: a step that can be danced is settled -/
theorem settle_gx {tb : St} {a : Int} (hN : 100000 ≤ N) (hc : c ≤ 600) (h : GR0 n c (pI tb 302 18 a) m) (k1 : hk5 tb u) (k2 : CIk u) (k3 : mk5 m w) (k4 : LIn u) (k5 : u.1 304 11 ≤ tb.1 304 11 + 64) (hD : DNC u w n) (hp : ∃ p : Nat, 1 ≤ p ∧ p ≤ 4 ∧ w.1 200 75 = p ∧ u.1 304 13 = mxc w p ∧ ∀ j, j < p → 0 ≤ w.1 74 j ∧ w.1 74 j < m.1 200 15) : ∃ t2 m2 : St, f_X1_settle N 0 u = some t2 ∧ f_X12_settles N w = some m2 ∧ t2.1 309 = tb.1 309 ∧ (∀ b, (b < 42 ∨ (89 ≤ b ∧ b ≤ 113)) → m2.1 200 b = m.1 200 b) ∧ GR0 n (c + 1) (pI (pI (pI t2 300 11 (t2.1 300 11 + t2.1 304 13)) 300 12 (t2.1 300 12 + 1)) 302 18 a) m2 ∧ HKf (pI tb 302 18 a) m (pI (pI (pI t2 300 11 (t2.1 300 11 + t2.1 304 13)) 300 12 (t2.1 300 12 + 1)) 302 18 a) m2 := by
  obtain ⟨p, p0, p1, p2, p3, p4⟩ := hp
  have hB := h.1.1
  have hE := h.2.1.1.2
  obtain ⟨⟨a9, c9, x1, x2, _, _, x5⟩, ⟨y1, y2, y3, y4⟩, y5, _⟩ := id hB.2.1
  have tq : ∀ y, y ≠ 302 → (pI tb 302 18 a).1 y = tb.1 y := fun y hy => pI_ne hy
  have hq5 : hk5 (pI tb 302 18 a) (pI u 302 18 a) := by
    refine ⟨fun x z1 z2 z3 => ?_, fun b hb => ?_, fun b z1 z2 z3 => ?_, fun x z1 z2 z3 z4 => k1.2.2.2 x z1 z2 z3 z4⟩
    · by_cases hx : x = 302
      · subst hx
        funext y
        by_cases hy : y = 18
        · subst hy; rw [pI_at, pI_at]
        · rw [pI_nf hy, pI_nf hy, k1.1 302 z1 z2 z3]
      · rw [pI_ne hx, pI_ne hx, k1.1 x z1 z2 z3]
    · rw [pI_ne (by decide), pI_ne (by decide)]; exact k1.2.1 b hb
    · rw [pI_ne (by decide), pI_ne (by decide)]; exact k1.2.2.1 b z1 z2 z3
  have hCx : CIk (pI u 302 18 a) := k2.ch (fun x hx => pI_ne (by omega)) rfl
  have hEx : EVr 0 (pI u 302 18 a) w n := hE.k5 hq5 hCx k3
  have hEu : EVr 0 u w n := hEx.ch (fun x hx => (pI_ne (by omega)).symm) rfl k2 (fun _ _ => ⟨rfl, rfl, rfl⟩) (fun q => ⟨q, fun _ _ => ⟨rfl, rfl, rfl⟩⟩) (fun _ _ _ => rfl) rfl rfl
  have wo : ∀ x, (x < 74 ∨ 88 ≤ x) → x ≠ 200 → w.1 x = m.1 x := fun x z1 z2 => k3.1 x (by omega) (by omega) (by omega) (by omega) (by omega) (by omega) (by omega) (by omega) (by omega) z2
  have wb : ∀ b, (b < 70 ∨ 75 < b) → (b < 82 ∨ 85 < b) → b ≠ 88 → b ≠ 114 → w.1 200 b = m.1 200 b := fun b z1 z2 z3 z4 => k3.2.1 b (by omega) (by omega) (by omega) (by omega) (by omega) (by omega) (by omega) (by omega) z3 z4
  have h24 : ∀ F : Nat, (F : Int) < m.1 200 15 → 0 ≤ w.1 24 F ∧ w.1 24 F ≤ 64 := fun F hF => by
    rw [wo 24 (by decide) (by decide)]
    obtain ⟨f, k, _, _, _, z4, _⟩ := hB.2.2.2.1 F hF
    omega
  have h9 : tb.1 305 9 ≤ 1 + (c : Int) := by have := h.2.1.2.2.2.2.2.2; rw [tq 305 (by decide)] at this; exact this
  obtain ⟨t2, m2, s1, s2, s3, s4, s5, s6, s7, s8, s9, s10, s11, s12, s13, s14, s15⟩ := settle_both (N := N) (o := 0) (n := n) (p := p) (u := u) (w := w) (Fg := m.1 200 15) hEu hD p1 p2 p4 (by omega) h24 (by rw [k1.1 (305 + 0) (by omega) (by omega) (by omega)]; show tb.1 305 9 < 2000000000; omega) (by omega)
  have to : ∀ y, y ≠ 305 → (y < 390 ∨ 397 < y) → t2.1 y = u.1 y := fun y z1 z2 => s12 y (by omega) (by omega) (by omega) (by omega) (by omega) (by omega) (by omega)
  have t300 : t2.1 300 = tb.1 300 := by rw [to 300 (by omega) (by omega), k1.1 300 (by omega) (by omega) (by omega)]
  refine ⟨t2, m2, s1, s2, by rw [to 309 (by omega) (by omega), k1.1 309 (by omega) (by omega) (by omega)], fun b hb => by rw [s7 b (by omega) (by omega), wb b (by omega) (by omega) (by omega) (by omega)], ?_⟩
  generalize h3 : pI (pI (pI t2 300 11 (t2.1 300 11 + t2.1 304 13)) 300 12 (t2.1 300 12 + 1)) 302 18 a = t3
  have t3o : ∀ y, y ≠ 300 → y ≠ 302 → t3.1 y = t2.1 y := fun y hy h2 => by rw [← h3, pI_ne h2, pI_ne hy, pI_ne hy]
  have t32 : t3.1 302 = (pI tb 302 18 a).1 302 := by
    rw [← h3]
    funext y
    by_cases hy : y = 18
    · subst hy; rw [pI_at, pI_at]
    · rw [pI_nf hy, pI_nf hy, pI_ne (by decide), pI_ne (by decide), to 302 (by omega) (by omega), k1.1 302 (by omega) (by omega) (by omega)]
  have t3L : t3.2 = t2.2 := by rw [← h3]; rfl
  have t11 : t3.1 300 11 = tb.1 300 11 + u.1 304 13 := by rw [← h3, pI_ne (by decide), pI_nf (by decide), pI_at, t300, to 304 (by omega) (by omega)]
  have t12 : t3.1 300 12 = tb.1 300 12 + 1 := by rw [← h3, pI_ne (by decide), pI_at, t300]
  have hn := h.2.2.2.1
  have hn1 := hn.1
  have hn2 := hn.2.1
  rw [tq 300 (by decide)] at hn1 hn2
  have m42 : m2.1 200 42 = m.1 200 42 + mxc w p := by rw [s8, wb 42 (by omega) (by omega) (by omega) (by omega)]
  have m43 : m2.1 200 43 = m.1 200 43 + 1 := by rw [s9, wb 43 (by omega) (by omega) (by omega) (by omega)]
  have t3t : ∀ x, x ≠ 300 → x ≠ 304 → x ≠ 305 → x ≠ 311 → (x < 372 ∨ 383 < x) → (x < 390 ∨ 397 < x) → t3.1 x = (pI tb 302 18 a).1 x := fun x z1 z2 z3 z4 z5 z6 => by
    by_cases hx : x = 302
    · rw [hx]; exact t32
    · rw [t3o x z1 hx, to x z3 z6, k1.1 x z2 z4 z5, tq x hx]
  have hC3 : CIk t3 := s3.2.2.2.2.2.1.ch (fun x hx => t3o x (by omega) (by omega)) (by rw [t3L])
  have hE3 : EVr 0 t3 m2 n := s3.ch (fun x hx => t3o x (by omega) (by omega)) (by rw [t3L]) hC3 (fun _ _ => ⟨rfl, rfl, rfl⟩) (fun q => ⟨q, fun _ _ => ⟨rfl, rfl, rfl⟩⟩) (fun _ _ _ => rfl) rfl rfl
  refine h.st hE3 (k4.f (by rw [t3o 304 (by decide) (by decide), to 304 (by omega) (by omega)]) (by rw [t3o 378 (by decide) (by decide), to 378 (by omega) (by omega)])) (by rw [t3o 304 (by decide) (by decide), to 304 (by omega) (by omega), tq 304 (by decide)]; exact k5) t3t (fun b z1 z2 => by rw [← h3, pI_ne (by decide), pI_nf z2, pI_nf z1, t300, tq 300 (by decide)]) (fun x z1 z2 z3 z4 z5 => by rw [t3L, s14 x (by omega), k1.2.2.2 x z1 z2 z3 z4]; rfl) (fun x z1 z2 z3 z4 z5 => by rw [s6 x z1 z5, k3.1 x (by omega) (by omega) (by omega) (by omega) (by omega) (by omega) (by omega) z3 z4 z5]) (fun b z1 z2 z3 z4 z5 z6 => by rw [s7 b z1 z2, wb b z3 z4 z5 z6]) (fun x z1 => by rw [s10, k3.2.2 x z1]) ⟨⟨by rw [t11, m42, p3]; omega, by rw [m42]; have := s15.1; omega, by rw [m42]; have := s15.2; omega⟩, by rw [t12, m43]; omega, m43⟩ (fun d hd => ?_) (fun d hd => ?_) (by rw [t3o 305 (by decide) (by decide), tq 305 (by decide)]; exact s11.trans (by rw [k1.1 (305 + 0) (by omega) (by omega) (by omega)]))
  · have z1 := s4 d hd
    have z2 := (hD.1 d hd).2.1
    have z3 := (hD.1 d hd).2.2.1
    have z4 := (h.2.1.2.1 d hd).1
    rw [tq 393 (by decide)] at z4
    have z5 : t3.1 393 d = u.1 393 d + u.1 375 d := by rw [t3o 393 (by decide) (by decide)]; exact z1.1
    have z6 : u.1 393 d = tb.1 393 d := by rw [k1.1 393 (by omega) (by omega) (by omega)]
    rw [z1.2, z2, z5, z6, wo 41 (by omega) (by omega), z4]
    omega
  · exact hD.sm s3.2.1.1 (s5 d hd) hd
theorem dance_okx {w0 w1 tb : St} {a : Int} (hN : 100000 ≤ N) (hc : c ≤ 600) (h : GR0 n c (pI tb 302 18 a) m) (hH : HISr n c (pI tb 302 18 a) m μ B len) (hi : m.1 200 60 = i) (hw : WRm n i m w0) (hwc : WRc n i m w0) (h0 : GR0 n c (pI tb 302 18 a) w0) (k1 : hk5 tb u) (k2 : CIk u) (k3 : mk5 w0 w1) (k4 : LIn u) (k5 : u.1 304 11 ≤ tb.1 304 11 + 64) (hD : DNC u w1 n) (hp : ∃ p : Nat, 1 ≤ p ∧ p ≤ 4 ∧ w1.1 200 75 = p ∧ u.1 304 13 = mxc w1 p ∧ ∀ j, j < p → 0 ≤ w1.1 74 j ∧ w1.1 74 j < w0.1 200 15) : ∃ z t2 m2 t4 m4 : St, NTh N u μ B i len z ∧ f_X1_settle N 0 u = some t2 ∧ f_X12_settles N w1 = some m2 ∧ f_X11_countStep N t2 = some t4 ∧ f_X12_keeps N m2 = some m4 ∧ GR0 n (c + 1) (pI t4 302 18 a) m4 ∧ ∀ (r : Nat → Nat) (r2 : (Nat → Nat) × (Nat → Nat)), NPo r len i z r2 → HISr n (c + 1) (pI t4 302 18 a) m4 (mU μ i z (u.1 300 11) (u.1 300 12)) (if i < B then B else B + 1) r2.2 := by
  obtain ⟨t2, m2, s1, s2, s3, s6, s7, s8⟩ := settle_gx (N := N) hN hc h0 k1 k2 k3 k4 k5 hD hp
  obtain ⟨g1, g2, g4, g5, g6⟩ := id hH
  have hi2 : i < 201 := by omega
  have tq : ∀ y, y ≠ 302 → (pI tb 302 18 a).1 y = tb.1 y := fun y hy => pI_ne hy
  obtain ⟨z, z1, z2⟩ := nt_of (N := N) (t5 := u) h hH hi hc (by omega) (fun x hx => by rw [tq x (by omega)]; exact k1.1 x (by omega) (by omega) (by omega)) ⟨k1.2.2.2 307 (by decide) (by decide) (by decide) (by decide), k1.2.2.2 410 (by decide) (by decide) (by decide) (by decide)⟩ k2
  generalize h3 : pI (pI t2 300 11 (t2.1 300 11 + t2.1 304 13)) 300 12 (t2.1 300 12 + 1) = t3 at s7 s8
  have hH3 : HISr n (c + 1) (pI t3 302 18 a) m2 μ B len := (hH.wr hi hw).mv s8 (by omega)
  have e9 : (pI t3 302 18 a).1 309 = t2.1 309 := by rw [pI_ne (by decide), ← h3, pI_ne (by decide), pI_ne (by decide)]
  have q1 := hH3.1
  have q2 := hH3.2.1
  rw [e9] at q1 q2
  have ke := keep_eqx (N := N) q1 q2 h3.symm
  have e300 : u.1 300 = tb.1 300 := k1.1 300 (by omega) (by omega) (by omega)
  have ek : pI (kpT t3 m2) 302 18 a = kpT (pI t3 302 18 a) m2 := by
    unfold kpT
    rw [pI_c2 (k := 309) (k2 := 302) (by decide), pI_c2 (k := 309) (k2 := 302) (by decide)]
  refine ⟨z, t2, m2, kpT t3 m2, kpM m2, z1, s1, s2, ke.1, ke.2, by rw [ek]; exact keep_rel s7, fun r r2 hr => ?_⟩
  rw [ek, e300, ← tq 300 (by decide)]
  have hM := (((MOMr.new (μ := μ) h z2 hw hwc hi2).mv s8).up (c2 := c + 1) (by omega))
  have hN2 := ((hH.nt (len2 := len) (b := (pI tb 302 18 a).1 300 11) (st := (pI tb 302 18 a).1 300 12) hi hw hr).mv s8 (c2 := c + 1) (by omega))
  have e60 : m2.1 200 60 = i := by rw [s8.2.1.2, hw.1 200 (by omega)]; exact hi
  refine hN2.kp e60 hM (by split <;> omega) ?_
  have hU := mU_c (μ := μ) (z := z) (b := (pI tb 302 18 a).1 300 11) (st := (pI tb 302 18 a).1 300 12) hi2
  rw [hU.1]
  exact hr.2.2.2
end
