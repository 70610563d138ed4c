/-! a danced step on the floor, counted and kept, both sides -/
theorem pI_c2 {t : St} {k k2 i j : Nat} {a b : Int} (h : k ≠ k2) : pI (pI t k i a) k2 j b = pI (pI t k2 j b) k i a := by
  refine Prod.ext (funext fun x => ?_) rfl
  by_cases h1 : x = k
  · subst h1
    rw [pI_ne h]
    funext d
    by_cases hd : d = i
    · rw [hd, pI_at, pI_at]
    · rw [pI_nf hd, pI_nf hd, pI_ne h]
  · rw [pI_ne (t := pI t k2 j b) h1]
    by_cases h2 : x = k2
    · subst h2
      funext d
      by_cases hd : d = j
      · rw [hd, pI_at, pI_at]
      · rw [pI_nf hd, pI_nf hd, pI_ne h1]
    · rw [pI_ne h2, pI_ne h2, pI_ne h1]
section
variable {N n c : Nat} {t m u v w μ : St} {i B : Nat} {len : Nat → Nat}
theorem GR0.st (h : GR0 n c t m) (hE : EVr 0 u v n) (gI : LIn u) (gB : u.1 304 11 ≤ t.1 304 11 + 64) (g : ∀ x, x ≠ 300 → x ≠ 304 → x ≠ 305 → x ≠ 311 → (x < 372 ∨ 383 < x) → (x < 390 ∨ 397 < x) → u.1 x = t.1 x) (g3 : ∀ b, b ≠ 11 → b ≠ 12 → u.1 300 b = t.1 300 b) (gL : ∀ x, x ≠ 384 → x ≠ 370 → x ≠ 371 → x ≠ 311 → x ≠ 396 → u.2 x = t.2 x) (e : ∀ x, (x < 38 ∨ 41 < x) → (x < 74 ∨ 81 < x) → x ≠ 86 → x ≠ 87 → x ≠ 200 → v.1 x = m.1 x) (e2 : ∀ b, b ≠ 42 → b ≠ 43 → (b < 70 ∨ 75 < b) → (b < 82 ∨ 85 < b) → b ≠ 88 → b ≠ 114 → v.1 200 b = m.1 200 b) (eL : ∀ x, x ≠ 73 → v.2 x = m.2 x) (hn2 : (u.1 300 11 = v.1 200 42 ∧ m.1 200 42 ≤ v.1 200 42 ∧ v.1 200 42 ≤ m.1 200 42 + 64) ∧ u.1 300 12 = v.1 200 43 ∧ v.1 200 43 = m.1 200 43 + 1) (h41 : ∀ d, d < n → u.1 393 d = v.1 41 d ∧ m.1 41 d - 8 ≤ v.1 41 d ∧ v.1 41 d ≤ m.1 41 d + 8) (h38 : ∀ d, d < n → v.1 38 d ≤ 4 * ((n : Int) - 1) ∧ v.1 39 d ≤ 4 * ((n : Int) - 1)) (h305 : u.1 305 9 = t.1 305 9 + 1) : GR0 n (c + 1) u v ∧ HKf t m u v := by
  obtain ⟨hb, hF, hr, hn, ht, hs⟩ := h
  have gg : ∀ x, (x < 300 ∨ x = 301 ∨ x = 302 ∨ x = 303 ∨ (306 ≤ x ∧ x ≤ 310) ∨ (312 ≤ x ∧ x ≤ 371) ∨ (384 ≤ x ∧ x < 390) ∨ 397 < x) → u.1 x = t.1 x := fun x hx => g x (by omega) (by omega) (by omega) (by omega) (by omega) (by omega)
  have ee : ∀ x, (x < 38 ∨ (41 < x ∧ x < 74) ∨ (88 ≤ x ∧ x ≠ 200)) → v.1 x = m.1 x := fun x h1 => e x (by omega) (by omega) (by omega) (by omega) (by omega)
  have e2' : ∀ b, (b < 42 ∨ (43 < b ∧ b < 70) ∨ (89 ≤ b ∧ b ≤ 113)) → v.1 200 b = m.1 200 b := fun b hb => e2 b (by omega) (by omega) (by omega) (by omega) (by omega) (by omega)
  have hB : BK0 u v := hb.1.mv (fun x y hx _ => by rw [gg x (by omega)]) (fun x y hx _ => by rw [ee x (by omega)]) (fun s x hs _ => by rw [gL (340 + s) (by omega) (by omega) (by omega) (by omega) (by omega)]) ⟨by rw [gg 312 (by omega)], by rw [gg 313 (by omega)], by rw [gg 314 (by omega)]⟩ ⟨by rw [gg 302 (by omega)], by rw [gg 302 (by omega)], by rw [gg 302 (by omega)]⟩ ⟨e2' 13 (by omega), e2' 14 (by omega), e2' 15 (by omega), e2' 16 (by omega), e2' 17 (by omega), e2' 33 (by omega)⟩
  have hG : BGr (XC t m) m (t.1 302 18) (XC u v) v (u.1 302 18) := BGr.same (gg 363 (by omega)) (by rw [gg 302 (by omega)]) (ee 31 (by omega)) (ee 32 (by omega)) (ee 18 (by omega)) (ee 29 (by omega)) (fun b hb => e2' b (by omega))
  obtain ⟨⟨t1, t2⟩, e9, t3, t4, t5, t6, t7, t8⟩ := ht
  refine ⟨⟨hb.mv hB (gL 331 (by decide) (by decide) (by decide) (by decide) (by decide)) ⟨by rw [gg 301 (by omega)], gg 330 (by omega)⟩ (g3 13 (by omega) (by omega)) (e2' 1 (by omega)) (ee 0 (by omega)) (e2' 8 (by omega)), ⟨⟨hF.1.1, hE⟩, fun d hd => ?_, h38, ?_, by rw [ee 47 (by omega), ee 48 (by omega)]; exact hF.2.2.2.2.1, by rw [h305]; have := hF.2.2.2.2.2; omega, by rw [h305]; have := hF.2.2.2.2.2; omega⟩, (hr.mv hG (fun b _ => by rw [gg 307 (by omega)]) ⟨gL 307 (by decide) (by decide) (by decide) (by decide) (by decide), gL 410 (by decide) (by decide) (by decide) (by decide) (by decide)⟩ (fun d _ => by rw [ee 55 (by omega), ee 56 (by omega), ee 57 (by omega), eL 58 (by decide)]; exact ⟨rfl, rfl, rfl, rfl⟩) (fun b hb => e2' b (by omega)) (by rw [e2' 53 (by omega)]; exact hr.2.2.2.1)).up, ⟨by have := hn.1; omega, by have := hn.2.1; omega, by rw [g3 14 (by omega) (by omega), g3 15 (by omega) (by omega), g3 16 (by omega) (by omega), e2' 67 (by omega), e2' 68 (by omega), e2' 69 (by omega)]; exact hn.2.2⟩, ⟨⟨t1.c (fun x hx => gg x (by omega)), gI⟩, e9, t3, by rw [gg 310 (by omega)]; exact t4, by rw [e2' 89 (by omega)]; exact t5, by omega, by rw [gg 306 (by omega)]; exact t7, by rw [gg 306 (by omega)]; omega⟩, hs.mv (gg 433 (by omega)) (gg 432 (by omega)) (fun i _ => by rw [gg 362 (by omega)]) (fun b _ => by rw [gg 310 (by omega)]) (gg 435 (by omega)) (gL 434 (by decide) (by decide) (by decide) (by decide) (by decide)) (gg 438 (by omega)) (fun a ha => ee a (by omega)) (eL 95 (by decide)) (fun b hb => e2' b (by omega)) (by rw [e2' 17 (by omega)]; exact Int.le_refl _) (by rw [eL 200 (by decide)])⟩, gg 309 (by omega), ⟨e2' 59 (by omega), e2' 60 (by omega)⟩, fun a h1 h2 => ee a (by omega), ⟨eL 65 (by decide), eL 66 (by decide)⟩, hG⟩
  · have q := h41 d hd
    have q2 := hF.2.1 d hd
    exact ⟨q.1, by omega, by omega⟩
  · have q := hF.2.2.2.1
    unfold AIMr at q ⊢
    rw [gg 320 (by omega), ee 47 (by omega), ee 48 (by omega), ee 49 (by omega)]
    exact q
/-- a step that can be danced is settled on the floor -/
theorem settle_go (hN : 100000 ≤ N) (hc : c ≤ 600) (h : GR0 n c t m) (k1 : hk5 t u) (k2 : CIk u) (k3 : mk5 m w) (k4 : LIn u) (k5 : u.1 304 11 ≤ t.1 304 11 + 64) (hD : DNC u w n) (hp : ∃ p : Nat, 1 ≤ p ∧ p ≤ 4 ∧ w.1 200 75 = p ∧ u.1 304 13 = mxc w p ∧ ∀ j, j < p → 0 ≤ w.1 74 j ∧ w.1 74 j < m.1 200 15) : ∃ t2 m2 : St, f_X1_settle N 0 u = some t2 ∧ f_X12_settles N w = some m2 ∧ (t2.1 309 = t.1 309 ∧ t2.1 310 = t.1 310 ∧ t2.1 302 = t.1 302 ∧ ∀ b, (b < 42 ∨ (89 ≤ b ∧ b ≤ 113)) → m2.1 200 b = m.1 200 b) ∧ GR0 n (c + 1) (pI (pI t2 300 11 (t2.1 300 11 + t2.1 304 13)) 300 12 (t2.1 300 12 + 1)) m2 ∧ HKf t m (pI (pI t2 300 11 (t2.1 300 11 + t2.1 304 13)) 300 12 (t2.1 300 12 + 1)) m2 := by
  obtain ⟨p, p0, p1, p2, p3, p4⟩ := hp
  have hB := h.1.1
  have hE := h.2.1.1.2
  obtain ⟨⟨a9, c9, x1, x2, _, _, x5⟩, ⟨y1, y2, y3, y4⟩, y5, _⟩ := id hB.2.1
  have hEu : EVr 0 u w n := hE.k5 k1 k2 k3
  have wo : ∀ x, (x < 74 ∨ 88 ≤ x) → x ≠ 200 → w.1 x = m.1 x := fun x z1 z2 => k3.1 x (by omega) (by omega) (by omega) (by omega) (by omega) (by omega) (by omega) (by omega) (by omega) z2
  have wb : ∀ b, (b < 70 ∨ 75 < b) → (b < 82 ∨ 85 < b) → b ≠ 88 → b ≠ 114 → w.1 200 b = m.1 200 b := fun b z1 z2 z3 z4 => k3.2.1 b (by omega) (by omega) (by omega) (by omega) (by omega) (by omega) (by omega) (by omega) z3 z4
  have h24 : ∀ F : Nat, (F : Int) < m.1 200 15 → 0 ≤ w.1 24 F ∧ w.1 24 F ≤ 64 := fun F hF => by
    rw [wo 24 (by decide) (by decide)]
    obtain ⟨f, k, _, _, _, z4, _⟩ := hB.2.2.2.1 F hF
    omega
  have h9 : t.1 305 9 ≤ 1 + (c : Int) := h.2.1.2.2.2.2.2.2
  obtain ⟨t2, m2, s1, s2, s3, s4, s5, s6, s7, s8, s9, s10, s11, s12, s13, s14, s15⟩ := settle_both (N := N) (o := 0) (n := n) (p := p) (u := u) (w := w) (Fg := m.1 200 15) hEu hD p1 p2 p4 (by omega) h24 (by rw [k1.1 (305 + 0) (by omega) (by omega) (by omega)]; show t.1 305 9 < 2000000000; omega) (by omega)
  have to : ∀ y, y ≠ 305 → (y < 390 ∨ 397 < y) → t2.1 y = u.1 y := fun y z1 z2 => s12 y (by omega) (by omega) (by omega) (by omega) (by omega) (by omega) (by omega)
  generalize h3 : pI (pI t2 300 11 (t2.1 300 11 + t2.1 304 13)) 300 12 (t2.1 300 12 + 1) = t3
  have t3o : ∀ y, y ≠ 300 → t3.1 y = t2.1 y := fun y hy => by rw [← h3, pI_ne hy, pI_ne hy]
  have t3L : t3.2 = t2.2 := by rw [← h3]; rfl
  have t300 : t2.1 300 = t.1 300 := by rw [to 300 (by omega) (by omega), k1.1 300 (by omega) (by omega) (by omega)]
  have t11 : t3.1 300 11 = t.1 300 11 + u.1 304 13 := by rw [← h3, pI_nf (by decide), pI_at, t300, to 304 (by omega) (by omega)]
  have t12 : t3.1 300 12 = t.1 300 12 + 1 := by rw [← h3, pI_at, t300]
  have hn := h.2.2.2.1
  have m42 : m2.1 200 42 = m.1 200 42 + mxc w p := by rw [s8, wb 42 (by omega) (by omega) (by omega) (by omega)]
  have m43 : m2.1 200 43 = m.1 200 43 + 1 := by rw [s9, wb 43 (by omega) (by omega) (by omega) (by omega)]
  have hB2 : BK0 t3 m2 := hB.mv (fun x y hx _ => by rw [t3o x (by omega), to x (by omega) (by omega), k1.1 x (by omega) (by omega) (by omega)]) (fun x y hx _ => by rw [s6 x (by omega) (by omega), wo x (by omega) (by omega)]) (fun s x hs _ => by rw [t3L, s14 (340 + s) (by omega), k1.2.2.2 (340 + s) (by omega) (by omega) (by omega) (by omega)]) ⟨by rw [t3o 312 (by omega), to 312 (by omega) (by omega), k1.1 312 (by omega) (by omega) (by omega)], by rw [t3o 313 (by omega), to 313 (by omega) (by omega), k1.1 313 (by omega) (by omega) (by omega)], by rw [t3o 314 (by omega), to 314 (by omega) (by omega), k1.1 314 (by omega) (by omega) (by omega)]⟩ (by rw [t3o 302 (by omega), to 302 (by omega) (by omega), k1.1 302 (by omega) (by omega) (by omega)]; exact ⟨rfl, rfl, rfl⟩) ⟨by rw [s7 13 (by omega) (by omega), wb 13 (by omega) (by omega) (by omega) (by omega)], by rw [s7 14 (by omega) (by omega), wb 14 (by omega) (by omega) (by omega) (by omega)], by rw [s7 15 (by omega) (by omega), wb 15 (by omega) (by omega) (by omega) (by omega)], by rw [s7 16 (by omega) (by omega), wb 16 (by omega) (by omega) (by omega) (by omega)], by rw [s7 17 (by omega) (by omega), wb 17 (by omega) (by omega) (by omega) (by omega)], by rw [s7 33 (by omega) (by omega), wb 33 (by omega) (by omega) (by omega) (by omega)]⟩
  have hE3 : EVr 0 t3 m2 n := s3.bk hB2 (s3.2.2.2.2.2.1.ch (fun x hx => t3o x (by omega)) (by rw [t3L])) (fun x hx => t3o x (by omega)) (by rw [t3L]) (fun _ _ => ⟨rfl, rfl, rfl⟩) (fun q => ⟨q, fun _ _ => ⟨rfl, rfl, rfl⟩⟩) rfl
  refine ⟨t2, m2, s1, s2, ⟨by rw [to 309 (by omega) (by omega), k1.1 309 (by omega) (by omega) (by omega)], by rw [to 310 (by omega) (by omega), k1.1 310 (by omega) (by omega) (by omega)], by rw [to 302 (by omega) (by omega), k1.1 302 (by omega) (by omega) (by omega)], fun b hb => by rw [s7 b (by omega) (by omega), wb b (by omega) (by omega) (by omega) (by omega)]⟩, ?_⟩
  rw [h3]
  refine h.st hE3 (k4.f (by rw [t3o 304 (by decide), to 304 (by omega) (by omega)]) (by rw [t3o 378 (by decide), to 378 (by omega) (by omega)])) (by rw [t3o 304 (by decide), to 304 (by omega) (by omega)]; exact k5) (fun x z1 z2 z3 z4 z5 z6 => by rw [t3o x z1, to x z3 z6, k1.1 x z2 z4 z5]) (fun b z1 z2 => by rw [← h3, pI_nf z2, pI_nf z1, t300]) (fun x z1 z2 z3 z4 z5 => by rw [t3L, s14 x (by omega), k1.2.2.2 x z1 z2 z3 z4]) (fun x z1 z2 z3 z4 z5 => by rw [s6 x z1 z5, k3.1 x (by omega) (by omega) (by omega) (by omega) (by omega) (by omega) (by omega) z3 z4 z5]) (fun b z1 z2 z3 z4 z5 z6 => by rw [s7 b z1 z2, wb b z3 z4 z5 z6]) (fun x z1 => by rw [s10, k3.2.2 x z1]) ⟨⟨by rw [t11, m42, p3]; have := hn.1.1; omega, by rw [m42]; have := s15.1; omega, by rw [m42]; have := s15.2; omega⟩, by rw [t12, m43]; have := hn.2.1.1; omega, m43⟩ (fun d hd => ?_) (fun d hd => ?_) (by rw [t3o 305 (by decide)]; exact s11.trans (by rw [k1.1 (305 + 0) (by omega) (by omega) (by omega)]))
  · have z1 := s4 d hd
    have z2 := (hD.1 d hd).2.1
    have z3 := (hD.1 d hd).2.2.1
    have z4 := (h.2.1.2.1 d hd).1
    have z5 : t3.1 393 d = u.1 393 d + u.1 375 d := by rw [t3o 393 (by decide)]; exact z1.1
    have z6 : u.1 393 d = t.1 393 d := by rw [k1.1 393 (by omega) (by omega) (by omega)]
    rw [z1.2, z2, z5, z6, wo 41 (by omega) (by omega), z4]
    omega
  · exact hD.sm s3.2.1.1 (s5 d hd) hd
/-- it is counted and kept -/
abbrev kpT (t3 m2 : St) : St := pI (pI t3 309 1 ((m2.1 200 60 + 1) % 201)) 309 2 (min (m2.1 200 59 + 1) 200)
abbrev kpM (m2 : St) : St := pI (pI m2 200 60 ((m2.1 200 60 + 1) % 201)) 200 59 (min (m2.1 200 59 + 1) 200)
theorem keep_eq {t2 t3 m2 : St} (hH : HISr n c t3 m2 μ B len) (h3 : t3 = pI (pI t2 300 11 (t2.1 300 11 + t2.1 304 13)) 300 12 (t2.1 300 12 + 1)) : f_X11_countStep N t2 = some (kpT t3 m2) ∧ f_X12_keeps N m2 = some (kpM m2) := by
  obtain ⟨h1, h2, h4, h5, h6⟩ := id hH
  have e9 : t3.1 309 = t2.1 309 := by rw [h3, pI_ne (by decide), pI_ne (by decide)]
  rw [e9] at h1 h2
  have kb := keep_both (N := N) (t := t2) (m := m2) (p := m2.1 200 60) (s := m2.1 200 59) ⟨h2.1, rfl, h2.2⟩ ⟨h1.1, rfl, h1.2⟩
  refine ⟨?_, kb.2⟩
  unfold f_X11_countStep
  rw [kb.1, bdV_s]
  simp only [lt1_k]
  rw [h3]
  have q1 : (pI (pI t2 309 1 ((m2.1 200 60 + 1) % 201)) 309 2 (min (m2.1 200 59 + 1) 200)).1 300 = t2.1 300 := by rw [pI_ne (by decide), pI_ne (by decide)]
  have q2 : (pI (pI t2 309 1 ((m2.1 200 60 + 1) % 201)) 309 2 (min (m2.1 200 59 + 1) 200)).1 304 = t2.1 304 := by rw [pI_ne (by decide), pI_ne (by decide)]
  rw [show ∀ (s : St) (x : Int), (pI s 300 11 x).1 300 12 = s.1 300 12 from fun s x => pI_nf (by decide), q1, q2]
  congr 1
  rw [pI_c2 (k := 309) (k2 := 300) (by decide), pI_c2 (k := 309) (k2 := 300) (by decide), pI_c2 (k := 309) (k2 := 300) (by decide), pI_c2 (k := 309) (k2 := 300) (by decide)]
theorem keep_rel {t3 m2 : St} (h : GR0 n c t3 m2) : GR0 n c (kpT t3 m2) (kpM m2) :=
  (h.hm (u := pI (pI t3 309 1 ((m2.1 200 60 + 1) % 201)) 309 2 (min (m2.1 200 59 + 1) 200)) (v := pI (pI m2 200 60 ((m2.1 200 60 + 1) % 201)) 200 59 (min (m2.1 200 59 + 1) 200)) (fun x hx => by rw [pI_ne hx, pI_ne hx]) rfl (fun x _ hx _ => by rw [pI_ne hx, pI_ne hx]) (fun j r _ hj => by rw [pI_ne (by decide), pI_ne (by decide)]; exact hj) (fun b _ z2 z3 => by rw [pI_nf z2, pI_nf z3]) (fun k _ hk => by rw [pI_nf (by decide), pI_nf (by decide)]; exact hk) (fun _ _ _ => rfl)).1
/-- the model writes down how all stand -/
theorem wr_go (hN : 1700 ≤ N) (h : GR0 n c t m) (hH : HISr n c t m μ B len) (h57 : ∀ j, inR (m.1 57 j)) (h51 : inR (m.1 200 51)) (hi : m.1 200 60 = i) : ∃ w0 : St, f_X12_writes N m = some w0 ∧ WRm n i m w0 ∧ WRc n i m w0 ∧ GR0 n c t w0 ∧ HISr n c t w0 μ B len := by
  obtain ⟨h1, h2, h4, h5, h6⟩ := id hH
  have hr := h.2.2.1.1
  obtain ⟨w0, k1, k2, k3⟩ := m_writes (N := N) (n := n) (m := m) (i := i) h.2.1.1.2.n64 h.2.1.1.2.2.1.1.1 (by omega) hi hN (by
    rcases hr with ⟨r1, r2⟩ | ⟨r1, r2, r3, k, hh, a, ⟨p1, p2, p3, p4⟩, p5⟩
    · exact Or.inl ⟨r2, h51⟩
    · exact Or.inr ⟨r2, k, p3, p5.kk, fun d hd => ⟨(p5.pq d hd).1, (p5.pq d hd).2, h57 d⟩⟩)
  refine ⟨w0, k1, k2, k3, (h.hm (u := t) (v := w0) (fun _ _ => rfl) rfl (fun x _ _ hx => k2.1 x hx) (fun j r _ hj => by rw [k2.1 57 (by omega)]; exact hj) (fun b _ _ _ => by rw [k2.1 200 (by omega)]) (fun k _ hk => by rw [k2.1 200 (by omega)]; exact hk) (fun x z1 z2 => k2.2.2.2.1 x z1 z2)).1, hH.wr hi k2⟩
/-- a step that can be danced: noted, settled, counted, kept -/
theorem dance_ok {w0 w1 : St} (hN : 100000 ≤ N) (hc : c ≤ 600) (h : GR0 n c t m) (hH : HISr n c t m μ B len) (hi : m.1 200 60 = i) (hw : WRm n i m w0) (hwc : WRc n i m w0) (h0 : GR0 n c t w0) (k1 : hk5 t u) (k2 : CIk u) (k3 : mk5 w0 w1) (k4 : LIn u) (k5 : u.1 304 11 ≤ t.1 304 11 + 64) (hD : DNC u w1 n) (hp : ∃ p : Nat, 1 ≤ p ∧ p ≤ 4 ∧ w1.1 200 75 = p ∧ u.1 304 13 = mxc w1 p ∧ ∀ j, j < p → 0 ≤ w1.1 74 j ∧ w1.1 74 j < w0.1 200 15) : ∃ z t2 m2 t4 m4 : St, NTh N u μ B i len z ∧ f_X1_settle N 0 u = some t2 ∧ f_X12_settles N w1 = some m2 ∧ f_X11_countStep N t2 = some t4 ∧ f_X12_keeps N m2 = some m4 ∧ (t4.1 310 = t.1 310 ∧ t4.1 302 = t.1 302 ∧ ∀ b, (b < 42 ∨ (89 ≤ b ∧ b ≤ 113)) → m4.1 200 b = m.1 200 b) ∧ GR0 n (c + 1) t4 m4 ∧ ∀ (r : Nat → Nat) (r2 : (Nat → Nat) × (Nat → Nat)), NPo r len i z r2 → HISr n (c + 1) t4 m4 (mU μ i z (u.1 300 11) (u.1 300 12)) (if i < B then B else B + 1) r2.2 := by
  obtain ⟨t2, m2, s1, s2, ⟨s3, s4, s5, s6⟩, s7, s8⟩ := settle_go (N := N) hN hc h0 k1 k2 k3 k4 k5 hD hp
  obtain ⟨g1, g2, g4, g5, g6⟩ := id hH
  have hi2 : i < 201 := by omega
  obtain ⟨z, z1, z2⟩ := nt_of (N := N) (t5 := u) h hH hi hc (by omega) (fun a ha => k1.1 a (by omega) (by omega) (by omega)) ⟨k1.2.2.2 307 (by decide) (by decide) (by decide) (by decide), k1.2.2.2 410 (by decide) (by decide) (by decide) (by decide)⟩ k2
  generalize h3 : pI (pI t2 300 11 (t2.1 300 11 + t2.1 304 13)) 300 12 (t2.1 300 12 + 1) = t3 at s7 s8
  have hH3 : HISr n (c + 1) t3 m2 μ B len := (hH.wr hi hw).mv s8 (by omega)
  have ke := keep_eq (N := N) hH3 h3.symm
  have e300 : u.1 300 = t.1 300 := k1.1 300 (by omega) (by omega) (by omega)
  have t3o : ∀ y, y ≠ 300 → t3.1 y = t2.1 y := fun y hy => by rw [← h3, pI_ne hy, pI_ne hy]
  refine ⟨z, t2, m2, kpT t3 m2, kpM m2, z1, s1, s2, ke.1, ke.2, ⟨by rw [pI_ne (by decide), pI_ne (by decide), t3o 310 (by decide), s4], by rw [pI_ne (by decide), pI_ne (by decide), t3o 302 (by decide), s5], fun b hb => by rw [pI_nf (by omega), pI_nf (by omega), s6 b hb, hw.1 200 (by omega)]⟩, keep_rel s7, fun r r2 hr => ?_⟩
  rw [e300]
  have hM := (((MOMr.new (μ := μ) h z2 hw hwc hi2).mv s8).up (c2 := c + 1) (by omega))
  have hN2 := ((hH.nt (len2 := len) (b := t.1 300 11) (st := t.1 300 12) hi hw hr).mv s8 (c2 := c + 1) (by omega))
  have e60 : m2.1 200 60 = i := by rw [s8.2.1.2, hw.1 200 (by omega)]; exact hi
  refine hN2.kp e60 hM (by split <;> omega) ?_
  have hU := mU_c (μ := μ) (z := z) (b := t.1 300 11) (st := t.1 300 12) hi2
  rw [hU.1]
  exact hr.2.2.2
end
