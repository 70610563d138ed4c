/-! times, resolve, load, set -/
section
variable {N n c : Nat} {t m u v : St}
theorem q_times {a0 a1 a2 : Int} (h0 : inR a0) (h1 : inR a1) (h2 : inR a2) (hN : 100000 ≤ N) (hc : c ≤ 600) (h : GR0 n c t m) : ∃ (r : Int) (u v : St), f_X11_times N a0 a1 a2 t = some (r, u) ∧ f_X12_times N a0 a1 a2 m = some (r, v) ∧ GR0 n (c + 1) u v ∧ HKf t m u v := by
  obtain ⟨hb, hF, hr, hn, ht, hs⟩ := h
  obtain ⟨⟨t1, t2⟩, e9, t3, t4, t5, t6, t7, t8⟩ := ht
  obtain ⟨r, u, v, k0, k1, k2, ⟨g, ⟨g2, g3, g4⟩, gL⟩, ⟨k4, k5, k6⟩, ⟨k7, k8⟩, ⟨e1, e2, e3, e4, e5⟩, k10⟩ := times_both (N := N) hN hb.1 hF.1.2 t1 t2 (by omega) (by omega) hr.2.1.2 h0 h1 h2
  have gg : ∀ x, (x < 304 ∨ x = 305 ∨ x = 307 ∨ x = 309 ∨ x = 310 ∨ (312 ≤ x ∧ x ≤ 371) ∨ (384 ≤ x ∧ x ≤ 399) ∨ 408 ≤ x) → u.1 x = t.1 x := fun x hx => g x (by omega) (by omega) (by omega) (by omega) (by omega) (by omega)
  have ggL : ∀ x, (x < 308 ∨ (331 ≤ x ∧ x ≤ 369) ∨ (385 ≤ x ∧ x ≤ 405) ∨ x = 410 ∨ 412 ≤ x) → u.2 x = t.2 x := fun x hx => gL x (by omega) (by omega) (by omega) (by omega) (by omega) (by omega) (by omega)
  have ee : ∀ x, (x < 38 ∨ x = 42 ∨ x = 43 ∨ (47 ≤ x ∧ x ≤ 54) ∨ (58 ≤ x ∧ x ≤ 73) ∨ (88 ≤ x ∧ x ≤ 103)) → v.1 x = m.1 x := fun x hx => e3 x (by omega) (by omega) (by omega) (by omega) (by omega) (by omega) (by omega) (by omega)
  have e2' : ∀ b, (b < 53 ∨ b = 54 ∨ (55 ≤ b ∧ b ≤ 69) ∨ (89 ≤ b ∧ b ≤ 113)) → v.1 200 b = m.1 200 b := fun b hb => e4 b (by omega) (by omega) (by omega) (by omega) (by omega) (by omega)
  have eL : ∀ x, x ≠ 58 → x ≠ 73 → x ≠ 109 → v.2 x = m.2 x := e5
  have hB : BK0 u v := hb.1.mv (fun x y hx _ => by rw [gg x (by omega)]) (fun x y hx _ => by rw [ee x (by omega)]) (fun s x hs _ => by rw [ggL (340 + s) (by omega)]) ⟨by rw [gg 312 (by omega)], by rw [gg 313 (by omega)], by rw [gg 314 (by omega)]⟩ ⟨by rw [gg 302 (by omega)], by rw [gg 302 (by omega)], by rw [gg 302 (by omega)]⟩ ⟨e2' 13 (by omega), e2' 14 (by omega), e2' 15 (by omega), e2' 16 (by omega), e2' 17 (by omega), e2' 33 (by omega)⟩
  have hG : BGr (XC t m) m (t.1 302 18) (XC u v) v (u.1 302 18) := BGr.same (gg 363 (by omega)) (by rw [gg 302 (by omega)]) (ee 31 (by omega)) (ee 32 (by omega)) (ee 18 (by omega)) (ee 29 (by omega)) (fun b hb => e2' b (by omega))
  have h306 := k6
  refine ⟨r, u, v, k1, k2, ⟨hb.mv hB (ggL 331 (by omega)) ⟨by rw [gg 301 (by omega)], gg 330 (by omega)⟩ (by rw [gg 300 (by omega)]) (e2' 1 (by omega)) (ee 0 (by omega)) (e2' 8 (by omega)), (hF.mv hB k4 (fun x hx => gg x (by omega)) (ggL 396 (by omega)) (fun d hd => e1 d hd) ⟨ee 47 (by omega), ee 48 (by omega), ee 49 (by omega)⟩ (e2' 37 (by omega))).up, (hr.mv hG (fun b _ => by rw [gg 307 (by omega)]) ⟨ggL 307 (by omega), ggL 410 (by omega)⟩ (fun d hd => e2 d hd) (fun b hb => e2' b (by omega)) (by
    rcases k10 with k10 | k10
    · rw [k10]; exact hr.2.2.2.1
    · omega)).up, (hn.mv (fun b _ _ _ => by rw [gg 300 (by omega)]) (fun b hb => e2' b (by omega))).up, ⟨⟨k6, k5⟩, e9, t3, by rw [gg 310 (by omega)]; exact t4, by rw [e2' 89 (by omega)]; exact t5, by omega, by omega, by omega⟩, hs.mv (gg 433 (by omega)) (gg 432 (by omega)) (fun i _ => by rw [gg 362 (by omega)]) (fun b _ => by rw [gg 310 (by omega)]) (gg 435 (by omega)) (ggL 434 (by omega)) (gg 438 (by omega)) (fun a ha => ee a (by omega)) (eL 95 (by decide) (by decide) (by decide)) (fun b hb => e2' b (by omega)) (by rw [e2' 17 (by omega)]; exact Int.le_refl _) (by rw [eL 200 (by decide) (by decide) (by decide)])⟩, gg 309 (by omega), ⟨e2' 59 (by omega), e2' 60 (by omega)⟩, fun a h1 h2 => ee a (by omega), ⟨eL 65 (by decide) (by decide) (by decide), eL 66 (by decide) (by decide) (by decide)⟩, hG⟩
theorem q_resolve {a0 : Int} (h0 : inR a0) (hN : 100000 ≤ N) (hc : c ≤ 600) (h : GR0 n c t m) : ∃ (r : Int) (u v : St), f_X11_resolve N a0 t = some (r, u) ∧ f_X12_resolve N a0 m = some (r, v) ∧ GR0 n (c + 1) u v ∧ HKf t m u v := by
  have hh := h
  obtain ⟨hb, hF, hr, hn, ht, hs⟩ := h
  obtain ⟨⟨t1, t2⟩, e9, t3, t4, t5, t6, t7, t8⟩ := ht
  obtain ⟨⟨f0, hE⟩, f2, f3, f4, f5, f6⟩ := hF
  have hF : Gf n c t m := ⟨⟨f0, hE⟩, f2, f3, f4, f5, f6⟩
  rcases resolve_both (N := N) (e := e9) hN f0 hE (fun h16 => ⟨⟨hb.1, t2, t1, hE⟩, ⟨t4, t5, t3⟩, hr.2.1.2, fun d hd => by have := f3 d hd; omega, f4, fun d hd => by have := f5 d hd; omega, by omega, t7, by omega⟩) h0 hs with ⟨k1, k2⟩ | ⟨u, v, S, r, k16, k1, k2, ⟨g, g2, g3, g4, g5, gL⟩, ⟨e, e1, e2, eL, eL2⟩, ⟨k5, k6, k7⟩, ⟨k8, k9, k10⟩, ⟨k11, k12, k13⟩, k14⟩
  · exact ⟨-3, t, m, k1, k2, hh.up, HKf.rf⟩
  · have gg : ∀ x, (x < 304 ∨ x = 305 ∨ x = 307 ∨ x = 308 ∨ x = 309 ∨ (312 ≤ x ∧ x ≤ 371) ∨ (384 ≤ x ∧ x ≤ 399) ∨ (408 ≤ x ∧ x ≤ 429)) → u.1 x = t.1 x := fun x hx => g x (by omega) (by omega) (by omega) (by omega) (by omega) (by omega) (by omega)
    have ggL : ∀ x, (x < 310 ∨ (331 ≤ x ∧ x ≤ 369) ∨ (385 ≤ x ∧ x ≤ 405) ∨ (407 ≤ x ∧ x ≤ 429)) → u.2 x = t.2 x := fun x hx => gL x (by omega) (by omega) (by omega) (by omega) (by omega) (by omega) (by omega) (by omega)
    have ee : ∀ x, (x < 38 ∨ (42 ≤ x ∧ x ≤ 73) ∨ (88 ≤ x ∧ x ≤ 91) ∨ (98 ≤ x ∧ x ≤ 103)) → v.1 x = m.1 x := fun x hx => e x (by omega) (by omega) (by omega) (by omega) (by omega) (by omega) (by omega)
    have e2' : ∀ b, (b < 70 ∨ b = 102) → v.1 200 b = m.1 200 b := fun b hb => e2 b (by omega) (by omega) (by omega) (by omega) (by omega) (by omega) (by omega)
    have hB : BK0 u v := hb.1.rs ⟨g, g2, g3, g4, g5, gL⟩ ⟨e, e1, e2, eL, eL2⟩
    have hG : BGr (XC t m) m (t.1 302 18) (XC u v) v (u.1 302 18) := BGr.same (gg 363 (by omega)) (by rw [gg 302 (by omega)]) (ee 31 (by omega)) (ee 32 (by omega)) (ee 18 (by omega)) (ee 29 (by omega)) (fun b hb => e2' b (by omega))
    exact ⟨r, u, v, k1, k2, ⟨hb.mv hB (ggL 331 (by omega)) ⟨by rw [gg 301 (by omega)], gg 330 (by omega)⟩ (by rw [gg 300 (by omega)]) (e2' 1 (by omega)) (ee 0 (by omega)) (e2' 8 (by omega)), (hF.mv hB k5 (fun x hx => gg x (by omega)) (ggL 396 (by omega)) (fun d hd => ⟨(e1 d hd).1, (e1 d hd).2.1, (e1 d hd).2.2.1, (e1 d hd).2.2.2, by rw [ee 44 (by omega)], by rw [ee 45 (by omega)], by rw [ee 46 (by omega)]⟩) ⟨ee 47 (by omega), ee 48 (by omega), ee 49 (by omega)⟩ (e2' 37 (by omega))).up, (hr.mv hG (fun b _ => by rw [gg 307 (by omega)]) ⟨ggL 307 (by omega), ggL 410 (by omega)⟩ (fun d hd => by rw [ee 55 (by omega), ee 56 (by omega), ee 57 (by omega), eL 58 (by decide) (by decide) (by decide)]; exact ⟨rfl, rfl, rfl, rfl⟩) (fun b hb => e2' b (by omega)) (by rw [e2' 53 (by omega)]; exact hr.2.2.2.1)).up, (hn.mv (fun b _ _ _ => by rw [gg 300 (by omega)]) (fun b hb => e2' b (by omega))).up, ⟨⟨k6, k7⟩, e9 + S, k13, k11, k12, by omega, k9, by omega⟩, k14⟩, gg 309 (by omega), ⟨e2' 59 (by omega), e2' 60 (by omega)⟩, fun a h1 h2 => ee a (by omega), ⟨eL 65 (by decide) (by decide) (by decide), eL 66 (by decide) (by decide) (by decide)⟩, hG⟩
/-- the cache, where the book has grown -/
theorem CIk.ld (h : CIk t) (g : ∀ x, (x = 305 ∨ x = 306 ∨ x = 311 ∨ x = 380 ∨ x = 381 ∨ (390 ≤ x ∧ x ≤ 397) ∨ (400 ≤ x ∧ x ≤ 407)) → u.1 x = t.1 x) (g2 : u.2 311 = t.2 311) (g3 : t.1 312 2 ≤ u.1 312 2) (g4 : ∀ f : Nat, (f : Int) < t.1 312 2 → u.1 350 f = t.1 350 f) (g5 : ∀ y : Nat, (y : Int) < 32 * t.1 312 2 → u.1 351 y = t.1 351 y ∧ u.1 352 y = t.1 352 y) (g6 : ∀ y : Nat, (y : Int) < 8 * t.1 312 2 → u.1 353 y = t.1 353 y) : CIk u := by
  obtain ⟨c1, c2, c3, c4⟩ := h
  refine ⟨by rw [g 311 (by omega)]; exact c1, by rw [g 311 (by omega)]; exact c2, fun f hf => by rw [g 381 (by omega)]; exact c3 f hf, fun o2 ho2 h9 => ?_⟩
  rw [g 311 (by omega)] at h9
  rw [g 311 (by omega), g (305 + o2) (by omega), g 381 (by omega), g 380 (by omega), g2]
  refine ⟨(c4 o2 ho2 h9).1, fun h10 f hf h11 => ?_⟩
  obtain ⟨q1, M, n, k, q2, q3, q4, q5⟩ := (c4 o2 ho2 h9).2 h10 f hf h11
  refine ⟨by omega, M, n, k, ⟨q2.1, ?_⟩, q3, ?_, q5⟩
  · unfold FH
    rw [g (305 + o2) (by omega), g (390 + 10 * o2) (by omega), g (391 + 10 * o2) (by omega), g (392 + 10 * o2) (by omega), g (397 + 10 * o2) (by omega)]
    exact q2.2
  · have hk := q3.2.2.2.1
    refine ⟨by rw [g4 f q1]; exact q4.1, fun j hj => ?_⟩
    rw [g6 (8 * f + j) (by omega)]
    refine ⟨fun r hr => ?_, (q4.2 j hj).2⟩
    rw [(g5 (4 * (8 * f + j) + r) (by omega)).1, (g5 (4 * (8 * f + j) + r) (by omega)).2]
    exact (q4.2 j hj).1 r hr
theorem q_load (hN : 5000 ≤ N) (h : GR0 n c t m) : ∃ (r : Int) (u v : St), f_X11_load N t = some (r, u) ∧ f_X12_load N m = some (r, v) ∧ GR0 n c u v ∧ HKf t m u v := by
  obtain ⟨hb, hF, hr, hn, ht, hs⟩ := h
  obtain ⟨r, u, v, k1, k2, _, hB, ⟨k5, k6⟩, k7, ⟨g, gL⟩, ⟨e, eL⟩, hC, hM⟩ := load_both (N := N) hN hb.1 hb.2.2.1 hb.2.1
  obtain ⟨_, ⟨y1, y2, y3, y4⟩, y5, _⟩ := hb.1.2.1
  have gg : ∀ x, (x < 300 ∨ (304 ≤ x ∧ x ≤ 311) ∨ (315 ≤ x ∧ x ≤ 331) ∨ (336 ≤ x ∧ x ≤ 349) ∨ 366 ≤ x) → u.1 x = t.1 x := fun x hx => by
    funext y
    exact g x y (by omega) (by omega) (by omega) (by omega) (Or.inl (by omega)) (Or.inl (by omega)) ⟨by omega, by omega, by omega, by omega, by omega, by omega, by omega, by omega, by omega, by omega, by omega⟩
  have g300 : ∀ b, b ≠ 13 → u.1 300 b = t.1 300 b := fun b hb => g 300 b (by omega) (by omega) (by omega) (by omega) (Or.inl (by omega)) (Or.inr hb) ⟨by omega, by omega, by omega, by omega, by omega, by omega, by omega, by omega, by omega, by omega, by omega⟩
  have g36 : ∀ x y : Nat, 350 ≤ x → x ≤ 363 → LwA x y (t.1 312 2) (t.1 313 2) (t.1 314 2) (t.1 302 16) (t.1 302 18) → u.1 x y = t.1 x y := fun x y h1 h2 hl => g x y (by omega) (by omega) (by omega) (by omega) (Or.inl (by omega)) (Or.inl (by omega)) hl
  have ggL : ∀ x, x ≠ 335 → (x < 340 ∨ 342 < x) → u.2 x = t.2 x := fun x h1 h2 => by
    funext y
    exact gL x y h1 ⟨Or.inl (by omega), Or.inl (by omega), Or.inl (by omega)⟩
  have ee : ∀ x, (x < 9 ∨ 33 ≤ x) → x ≠ 200 → v.1 x = m.1 x := fun x h1 h2 => by
    funext y
    exact e x y (Or.inl h2) ⟨Or.inl h2, by omega, by omega, by omega, by omega, by omega, by omega, by omega, by omega, by omega⟩
  have e2' : ∀ b, (37 ≤ b ∧ b ≤ 109) → v.1 200 b = m.1 200 b := fun b hb => e 200 b (Or.inr (Or.inr (by omega))) ⟨Or.inr ⟨by unfold PFd; omega, by omega⟩, by omega, by omega, by omega, by omega, by omega, by omega, by omega, by omega, by omega⟩
  have hG : BGr (XC t m) m (t.1 302 18) (XC u v) v (u.1 302 18) := by
    refine ⟨fun x hx => g36 363 x (by omega) (by omega) ⟨by omega, by omega, by omega, by omega, by omega, by omega, by omega, by omega, by omega, by omega, by omega⟩, fun x hx => ⟨e 31 x (Or.inl (by omega)) ⟨Or.inl (by omega), by omega, by omega, by omega, by omega, by omega, by omega, by omega, by omega, by omega⟩, e 32 x (Or.inl (by omega)) ⟨Or.inl (by omega), by omega, by omega, by omega, by omega, by omega, by omega, by omega, by omega, by omega⟩⟩, hC.2.2.2.2, ⟨hM.2.1, fun f hf => e 18 f (Or.inl (by omega)) ⟨Or.inl (by omega), by omega, by omega, by omega, by omega, by omega, by omega, by omega, by omega, by omega⟩⟩, hM.2.2.1, hM.2.2.2.1, fun p hp => e 29 p (Or.inl (by omega)) ⟨Or.inl (by omega), by omega, by omega, by omega, by omega, by omega, by omega, by omega, by omega, by omega⟩, hM.2.2.2.2.2⟩
  have hCI : CIk u := hF.1.2.2.2.2.2.2.1.ld (fun x hx => gg x (by omega)) (ggL 311 (by decide) (by omega)) hC.1 (fun f hf => g36 350 f (by omega) (by omega) ⟨by omega, by omega, by omega, by omega, by omega, by omega, by omega, by omega, by omega, by omega, by omega⟩) (fun y hy => ⟨g36 351 y (by omega) (by omega) ⟨by omega, by omega, by omega, by omega, by omega, by omega, by omega, by omega, by omega, by omega, by omega⟩, g36 352 y (by omega) (by omega) ⟨by omega, by omega, by omega, by omega, by omega, by omega, by omega, by omega, by omega, by omega, by omega⟩⟩) (fun y hy => g36 353 y (by omega) (by omega) ⟨by omega, by omega, by omega, by omega, by omega, by omega, by omega, by omega, by omega, by omega, by omega⟩)
  refine ⟨r, u, v, k1, k2, ⟨⟨hB, by unfold kwOK; rw [ggL 331 (by decide) (by omega)]; exact hb.2.1, ⟨⟨0, by omega, k5, k6, fun i hi => by omega⟩, by unfold mBy; rw [ee 0 (by omega) (by decide)]; exact hb.2.2.1.2⟩, k7⟩, hF.mv hB hCI (fun x hx => gg x (by omega)) (ggL 396 (by decide) (by omega)) (fun d _ => by rw [ee 38 (by omega) (by decide), ee 39 (by omega) (by decide), ee 40 (by omega) (by decide), ee 41 (by omega) (by decide), ee 44 (by omega) (by decide), ee 45 (by omega) (by decide), ee 46 (by omega) (by decide)]; exact ⟨rfl, rfl, rfl, rfl, rfl, rfl, rfl⟩) ⟨ee 47 (by omega) (by decide), ee 48 (by omega) (by decide), ee 49 (by omega) (by decide)⟩ (e2' 37 (by omega)), hr.mv hG (fun b _ => by rw [gg 307 (by omega)]) ⟨ggL 307 (by decide) (by omega), ggL 410 (by decide) (by omega)⟩ (fun d _ => by rw [ee 55 (by omega) (by decide), ee 56 (by omega) (by decide), ee 57 (by omega) (by decide), eL]; exact ⟨rfl, rfl, rfl, rfl⟩) (fun b hb => e2' b (by omega)) (by rw [e2' 53 (by omega)]; exact hr.2.2.2.1), hn.mv (fun b _ _ h3 => g300 b h3) (fun b hb => e2' b (by omega)), ht.mv (fun x hx => gg x (by omega)) (by rw [gg 310 (by omega)]) (e2' 89 (by omega)), hs.mv (gg 433 (by omega)) (gg 432 (by omega)) (fun i hi => g36 362 i (by omega) (by omega) ⟨by omega, by omega, by omega, by omega, by omega, by omega, by omega, by omega, by omega, by omega, by omega⟩) (fun b _ => by rw [gg 310 (by omega)]) (gg 435 (by omega)) (ggL 434 (by decide) (by omega)) (gg 438 (by omega)) (fun a ha => ee a (by omega) (by omega)) (by rw [eL]) (fun b hb => e2' b (by omega)) hM.2.2.2.2.1 (by rw [eL])⟩, gg 309 (by omega), ⟨e2' 59 (by omega), e2' 60 (by omega)⟩, fun a h1 h2 => ee a (by omega) (by omega), ⟨by rw [eL], by rw [eL]⟩, hG⟩
end
