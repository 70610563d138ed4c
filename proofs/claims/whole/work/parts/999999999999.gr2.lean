/-! calls that choose rows, begin, try, search -/
section
variable {N n c : Nat} {t m u v : St}
/-- a row was chosen -/
theorem GR0.rw1 (h : GR0 n c t m) (hS : GRs u v) (g : RWh t u) (e : RWm m v) : GR0 n c u v ∧ HKf t m u v := by
  obtain ⟨hb, hF, hr, hn, ht, hs⟩ := h
  obtain ⟨g1, g2, g3⟩ := g
  obtain ⟨e1, e2, e3⟩ := e
  have hB : BK0 u v := hb.1.mv (fun x y hx _ => by rw [g1 x (by omega) (by omega)]) (fun x y hx _ => by rw [e1 x (by omega) (by omega)]) (fun s x hs _ => by rw [g3]) ⟨by rw [g1 312 (by omega) (by omega)], by rw [g1 313 (by omega) (by omega)], by rw [g1 314 (by omega) (by omega)]⟩ ⟨by rw [g1 302 (by omega) (by omega)], by rw [g1 302 (by omega) (by omega)], by rw [g1 302 (by omega) (by omega)]⟩ ⟨e2 13 (by omega) (by omega), e2 14 (by omega) (by omega), e2 15 (by omega) (by omega), e2 16 (by omega) (by omega), e2 17 (by omega) (by omega), e2 33 (by omega) (by omega)⟩
  have hG : BGr (XC t m) m (t.1 302 18) (XC u v) v (u.1 302 18) := BGr.same (g1 363 (by omega) (by omega)) (by rw [g1 302 (by omega) (by omega)]) (e1 31 (by omega) (by omega)) (e1 32 (by omega) (by omega)) (e1 18 (by omega) (by omega)) (e1 29 (by omega) (by omega)) (fun b hb => e2 b (by omega) (by omega))
  exact ⟨⟨hb.mv hB (by rw [g3]) ⟨by rw [g1 301 (by omega) (by omega)], g1 330 (by omega) (by omega)⟩ (by rw [g1 300 (by omega) (by omega)]) (e2 1 (by omega) (by omega)) (e1 0 (by omega) (by omega)) (e2 8 (by omega) (by omega)), hF.mv hB (hF.1.2.2.2.2.2.2.1.ch (fun x hx => g1 x (by omega) (by omega)) (by rw [g3])) (fun x hx => g1 x (by omega) (by omega)) (by rw [g3]) (fun d _ => by rw [e1 38 (by omega) (by omega), e1 39 (by omega) (by omega), e1 40 (by omega) (by omega), e1 41 (by omega) (by omega), e1 44 (by omega) (by omega), e1 45 (by omega) (by omega), e1 46 (by omega) (by omega)]; exact ⟨rfl, rfl, rfl, rfl, rfl, rfl, rfl⟩) ⟨e1 47 (by omega) (by omega), e1 48 (by omega) (by omega), e1 49 (by omega) (by omega)⟩ (e2 37 (by omega) (by omega)), hr.mv hG (fun b _ => by rw [g1 307 (by omega) (by omega)]) ⟨by rw [g3], by rw [g3]⟩ (fun d _ => by rw [e1 55 (by omega) (by omega), e1 56 (by omega) (by omega), e1 57 (by omega) (by omega), e3]; exact ⟨rfl, rfl, rfl, rfl⟩) (fun b hb => e2 b (by omega) (by omega)) (by rw [e2 53 (by omega) (by omega)]; exact hr.2.2.2.1), hn.mv (fun b _ _ _ => by rw [g1 300 (by omega) (by omega)]) (fun b hb => e2 b (by omega) (by omega)), ht.mv (fun x hx => g1 x (by omega) (by omega)) (g2 13 (by omega) (by omega)) (e2 89 (by omega) (by omega)), hS⟩, g1 309 (by omega) (by omega), ⟨e2 59 (by omega) (by omega), e2 60 (by omega) (by omega)⟩, fun a h1 h2 => e1 a (by omega) (by omega), ⟨by rw [e3], by rw [e3]⟩, hG⟩
theorem q_row {a0 : Int} (ha : inR a0) (hN : 1000 ≤ N) (h : GR0 n c t m) : ∃ (r : Int) (u v : St), f_X11_row N a0 t = some (r, u) ∧ f_X12_row N a0 m = some (r, v) ∧ GR0 n c u v ∧ HKf t m u v := by
  obtain ⟨r, u, v, k1, k2, k3, k4, k5⟩ := row_both (N := N) ha hN h.2.2.2.2.2
  exact ⟨r, u, v, k1, k2, h.rw1 k3 k4 k5⟩
theorem q_draw {a0 a1 : Int} (ha : inR a0) (ha1 : inR a1) (hN : 1000 ≤ N) (h : GR0 n c t m) : ∃ (r : Int) (u v : St), f_X11_draw N a0 a1 t = some (r, u) ∧ f_X12_draw N a0 a1 m = some (r, v) ∧ GR0 n c u v ∧ HKf t m u v := by
  obtain ⟨r, u, v, k1, k2, k3, k4, k5⟩ := draw_both (N := N) ha ha1 hN h.2.2.2.2.2
  exact ⟨r, u, v, k1, k2, h.rw1 k3 k4 k5⟩
theorem q_cheapest (hN : 1000 ≤ N) (h : GR0 n c t m) : ∃ (r : Int) (u v : St), f_X11_cheapest N t = some (r, u) ∧ f_X12_cheapest N m = some (r, v) ∧ GR0 n c u v ∧ HKf t m u v := by
  obtain ⟨r, u, v, k1, k2, k3, k4, k5⟩ := cheapest_both (N := N) hN h.2.2.2.2.2
  exact ⟨r, u, v, k1, k2, h.rw1 k3 k4 k5⟩
theorem q_begin {a0 : Int} (ha : inR a0) (h : GR0 n c t m) : ∃ (r : Int) (u v : St), f_X11_begin N a0 t = some (r, u) ∧ f_X12_begin N a0 m = some (r, v) ∧ GR0 n c u v ∧ HKf t m u v := by
  obtain ⟨r, u, v, k1, k2, k3⟩ := begin_both (N := N) h.1.1 h.2.1.1.2 ha
  rcases k3 with ⟨_, rfl, rfl⟩ | ⟨_, ⟨a, kR⟩, ⟨l1, l2, l3⟩, ⟨g1, g2, g3⟩, ⟨e1, e2, e3⟩⟩
  · exact ⟨r, _, _, k1, k2, h, HKf.rf⟩
  · obtain ⟨hb, hF, hr, hn, ht, hs⟩ := h
    have ee : ∀ x, (x < 55 ∨ 57 < x) → x ≠ 200 → v.1 x = m.1 x := fun x h1 h2 => e1 x (by omega) (by omega) (by omega) h2
    have e2' : ∀ b, (b < 50 ∨ 52 < b) → v.1 200 b = m.1 200 b := fun b hb => e2 b (by omega) (by omega) (by omega)
    have hB : BK0 u v := hb.1.mv (fun x y hx _ => by rw [g1 x (by omega)]) (fun x y hx _ => by rw [ee x (by omega) (by omega)]) (fun s x hs _ => by rw [g3 (340 + s) (by omega)]) ⟨by rw [g1 312 (by omega)], by rw [g1 313 (by omega)], by rw [g1 314 (by omega)]⟩ ⟨by rw [g1 302 (by omega)], by rw [g1 302 (by omega)], by rw [g1 302 (by omega)]⟩ ⟨e2' 13 (by omega), e2' 14 (by omega), e2' 15 (by omega), e2' 16 (by omega), e2' 17 (by omega), e2' 33 (by omega)⟩
    have hG : BGr (XC t m) m (t.1 302 18) (XC u v) v (u.1 302 18) := BGr.same (g1 363 (by omega)) (by rw [g1 302 (by omega)]) (ee 31 (by omega) (by omega)) (ee 32 (by omega) (by omega)) (ee 18 (by omega) (by omega)) (ee 29 (by omega) (by omega)) (fun b hb => e2' b (by omega))
    refine ⟨r, u, v, k1, k2, ⟨hb.mv hB (g3 331 (by decide)) ⟨by rw [g1 301 (by omega)], g1 330 (by omega)⟩ (by rw [g1 300 (by omega)]) (e2' 1 (by omega)) (ee 0 (by omega) (by omega)) (e2' 8 (by omega)), hF.mv hB (hF.1.2.2.2.2.2.2.1.ch (fun x hx => g1 x (by omega)) (g3 311 (by decide))) (fun x hx => g1 x (by omega)) (g3 396 (by decide)) (fun d _ => by rw [ee 38 (by omega) (by omega), ee 39 (by omega) (by omega), ee 40 (by omega) (by omega), ee 41 (by omega) (by omega), ee 44 (by omega) (by omega), ee 45 (by omega) (by omega), ee 46 (by omega) (by omega)]; exact ⟨rfl, rfl, rfl, rfl, rfl, rfl, rfl⟩) ⟨ee 47 (by omega) (by omega), ee 48 (by omega) (by omega), ee 49 (by omega) (by omega)⟩ (e2' 37 (by omega)), ⟨Or.inr ⟨l1, l2, l3, 0, 0, a, kR⟩, by rw [g2 8 (by decide) (by decide) (by decide), e2' 54 (by omega)]; exact hr.2.1, by rw [g2 9 (by decide) (by decide) (by decide)]; exact hr.2.2.1, by rw [e2' 53 (by omega)]; exact hr.2.2.2.1, by rw [g2 10 (by decide) (by decide) (by decide)]; exact hr.2.2.2.2⟩, hn.mv (fun b _ _ _ => by rw [g1 300 (by omega)]) (fun b hb => e2' b (by omega)), ht.mv (fun x hx => g1 x (by omega)) (by rw [g1 310 (by omega)]) (e2' 89 (by omega)), hs.mv (g1 433 (by omega)) (g1 432 (by omega)) (fun i _ => by rw [g1 362 (by omega)]) (fun b _ => by rw [g1 310 (by omega)]) (g1 435 (by omega)) (g3 434 (by decide)) (g1 438 (by omega)) (fun a ha => ee a (by omega) (by omega)) (e3 95 (by decide)) (fun b hb => e2' b (by omega)) (by rw [e2' 17 (by omega)]; exact Int.le_refl _) (by rw [e3 200 (by decide)])⟩, g1 309 (by omega), ⟨e2' 59 (by omega), e2' 60 (by omega)⟩, fun a h1 h2 => ee a (by omega) (by omega), ⟨e3 65 (by decide), e3 66 (by decide)⟩, hG⟩
/-- a step was tried on the floor -/
theorem GR0.k5 (h : GR0 n c t m) (gC : CIk u) (gI : LIn u) (gB : u.1 304 11 ≤ t.1 304 11 + 64) (g : ∀ x, x ≠ 300 → x ≠ 304 → x ≠ 311 → (x < 372 ∨ 383 < x) → u.1 x = t.1 x) (g3 : ∀ b, b < 14 → u.1 300 b = t.1 300 b) (gL : ∀ x, x ≠ 384 → x ≠ 370 → x ≠ 371 → x ≠ 311 → u.2 x = t.2 x) (e : ∀ x, (x < 74 ∨ 81 < x) → x ≠ 86 → x ≠ 87 → x ≠ 200 → v.1 x = m.1 x) (e2 : ∀ b, (b < 67 ∨ 75 < b) → (b < 82 ∨ 85 < b) → b ≠ 88 → b ≠ 114 → v.1 200 b = m.1 200 b) (eL : ∀ x, x ≠ 73 → v.2 x = m.2 x) (hf : (u.1 300 14 = v.1 200 67 ∧ u.1 300 15 = v.1 200 68 ∧ u.1 300 16 = v.1 200 69) ∧ inR (v.1 200 67) ∧ inR (v.1 200 68) ∧ inR (v.1 200 69)) : GR0 n (c + 1) u v ∧ HKf t m u v := by
  obtain ⟨hb, hF, hr, hn, ht, hs⟩ := h
  have gg : ∀ x, (x < 300 ∨ x = 301 ∨ x = 302 ∨ (305 ≤ x ∧ x ≤ 310) ∨ (312 ≤ x ∧ x ≤ 371) ∨ 384 ≤ x) → u.1 x = t.1 x := fun x hx => g x (by omega) (by omega) (by omega) (by omega)
  have ee : ∀ x, (x < 74 ∨ 88 ≤ x) → x ≠ 200 → v.1 x = m.1 x := fun x h1 h2 => e x (by omega) (by omega) (by omega) h2
  have e2' : ∀ b, (b < 67 ∨ (89 ≤ b ∧ b ≤ 113)) → v.1 200 b = m.1 200 b := fun b hb => e2 b (by omega) (by omega) (by omega) (by omega)
  have hB : BK0 u v := hb.1.mv (fun x y hx _ => by rw [gg x (by omega)]) (fun x y hx _ => by rw [ee x (by omega) (by omega)]) (fun s x hs _ => by rw [gL (340 + s) (by omega) (by omega) (by omega) (by omega)]) ⟨by rw [gg 312 (by omega)], by rw [gg 313 (by omega)], by rw [gg 314 (by omega)]⟩ ⟨by rw [gg 302 (by omega)], by rw [gg 302 (by omega)], by rw [gg 302 (by omega)]⟩ ⟨e2' 13 (by omega), e2' 14 (by omega), e2' 15 (by omega), e2' 16 (by omega), e2' 17 (by omega), e2' 33 (by omega)⟩
  have hG : BGr (XC t m) m (t.1 302 18) (XC u v) v (u.1 302 18) := BGr.same (gg 363 (by omega)) (by rw [gg 302 (by omega)]) (ee 31 (by omega) (by omega)) (ee 32 (by omega) (by omega)) (ee 18 (by omega) (by omega)) (ee 29 (by omega) (by omega)) (fun b hb => e2' b (by omega))
  obtain ⟨⟨t1, t2⟩, e9, t3, t4, t5, t6, t7, t8⟩ := ht
  refine ⟨⟨hb.mv hB (gL 331 (by decide) (by decide) (by decide) (by decide)) ⟨by rw [gg 301 (by omega)], gg 330 (by omega)⟩ (g3 13 (by omega)) (e2' 1 (by omega)) (ee 0 (by omega) (by omega)) (e2' 8 (by omega)), (hF.mv hB gC (fun x hx => gg x (by omega)) (gL 396 (by decide) (by decide) (by decide) (by decide)) (fun d _ => by rw [ee 38 (by omega) (by omega), ee 39 (by omega) (by omega), ee 40 (by omega) (by omega), ee 41 (by omega) (by omega), ee 44 (by omega) (by omega), ee 45 (by omega) (by omega), ee 46 (by omega) (by omega)]; exact ⟨rfl, rfl, rfl, rfl, rfl, rfl, rfl⟩) ⟨ee 47 (by omega) (by omega), ee 48 (by omega) (by omega), ee 49 (by omega) (by omega)⟩ (e2' 37 (by omega))).up, (hr.mv hG (fun b _ => by rw [gg 307 (by omega)]) ⟨gL 307 (by decide) (by decide) (by decide) (by decide), gL 410 (by decide) (by decide) (by decide) (by decide)⟩ (fun d _ => by rw [ee 55 (by omega) (by omega), ee 56 (by omega) (by omega), ee 57 (by omega) (by omega), eL 58 (by decide)]; exact ⟨rfl, rfl, rfl, rfl⟩) (fun b hb => e2' b (by omega)) (by rw [e2' 53 (by omega)]; exact hr.2.2.2.1)).up, ⟨by rw [g3 11 (by omega), e2' 42 (by omega)]; have := hn.1; omega, by rw [g3 12 (by omega), e2' 43 (by omega)]; have := hn.2.1; omega, hf.1, hf.2⟩, ⟨⟨t1.c (fun x hx => gg x (by omega)), gI⟩, e9, t3, by rw [gg 310 (by omega)]; exact t4, by rw [e2' 89 (by omega)]; exact t5, by omega, by rw [gg 306 (by omega)]; exact t7, by rw [gg 306 (by omega)]; omega⟩, hs.mv (gg 433 (by omega)) (gg 432 (by omega)) (fun i _ => by rw [gg 362 (by omega)]) (fun b _ => by rw [gg 310 (by omega)]) (gg 435 (by omega)) (gL 434 (by decide) (by decide) (by decide) (by decide)) (gg 438 (by omega)) (fun a ha => ee a (by omega) (by omega)) (eL 95 (by decide)) (fun b hb => e2' b (by omega)) (by rw [e2' 17 (by omega)]; exact Int.le_refl _) (by rw [eL 200 (by decide)])⟩, gg 309 (by omega), ⟨e2' 59 (by omega), e2' 60 (by omega)⟩, fun a h1 h2 => ee a (by omega) (by omega), ⟨eL 65 (by decide), eL 66 (by decide)⟩, hG⟩
/-- the failure that a try found is noted -/
theorem q_note {r : Int} (hr : inR r) (hbl : blm u v r) : ∃ u2 v2 : St, f_X11_noteFailure N u = some u2 ∧ f_X12_notes N v = some v2 ∧ ((u2.1 300 14 = v2.1 200 67 ∧ u2.1 300 15 = v2.1 200 68 ∧ u2.1 300 16 = v2.1 200 69) ∧ inR (v2.1 200 67) ∧ inR (v2.1 200 68) ∧ inR (v2.1 200 69)) ∧ (∀ x, x ≠ 300 → u2.1 x = u.1 x) ∧ (∀ b, (b < 14 ∨ 16 < b) → u2.1 300 b = u.1 300 b) ∧ u2.2 = u.2 ∧ (∀ x, x ≠ 200 → v2.1 x = v.1 x) ∧ (∀ b, (b < 67 ∨ 69 < b) → v2.1 200 b = v.1 200 b) ∧ v2.2 = v.2 := by
  obtain ⟨b1, b2, b3, b4, b5, b6⟩ := hbl
  refine ⟨pI (pI (pI u 300 14 (u.1 304 14)) 300 15 (u.1 304 15)) 300 16 (u.1 304 16), pI (pI (pI v 200 67 (v.1 200 70)) 200 68 (v.1 200 71)) 200 69 (v.1 200 72), ?_, ?_, ⟨⟨?_, ?_, ?_⟩, ?_, ?_, ?_⟩, fun x hx => by rw [pI_ne hx, pI_ne hx, pI_ne hx], fun b hb => by rw [pI_nf (by omega), pI_nf (by omega), pI_nf (by omega)], rfl, fun x hx => by rw [pI_ne hx, pI_ne hx, pI_ne hx], fun b hb => by rw [pI_nf (by omega), pI_nf (by omega), pI_nf (by omega)], rfl⟩
  · unfold f_X11_noteFailure
    simp only [lt1_k]
    rw [pI_ne (show (304 : Nat) ≠ 300 by decide), pI_ne (show (304 : Nat) ≠ 300 by decide), pI_ne (show (304 : Nat) ≠ 300 by decide)]
  · unfold f_X12_notes
    simp only [lt1_k]
    rw [pI_nf (show (71 : Nat) ≠ 67 by decide), pI_nf (show (72 : Nat) ≠ 68 by decide), pI_nf (show (72 : Nat) ≠ 67 by decide)]
  · rw [pI_nf (by decide), pI_nf (by decide), pI_at, pI_nf (by decide), pI_nf (by decide), pI_at, b1, b2]
  · rw [pI_nf (by decide), pI_at, pI_nf (by decide), pI_at, b3]
  · rw [pI_at, pI_at, b4]
  · rw [pI_nf (by decide), pI_nf (by decide), pI_at, b2]; exact hr
  · rw [pI_nf (by decide), pI_at, ← b3]; exact b5
  · rw [pI_at, ← b4]; exact b6
theorem q_may {a0 : Int} (ha : inR a0) (hN : 100000 ≤ N) (hc : c ≤ 600) (h : GR0 n c t m) : ∃ (r : Int) (u v : St), f_X11_may N a0 t = some (r, u) ∧ f_X12_may N a0 m = some (r, v) ∧ GR0 n (c + 1) u v ∧ HKf t m u v := by
  obtain ⟨⟨a9, c9, x1, x2, _, _, x5⟩, ⟨y1, y2, y3, y4⟩, y5, _⟩ := h.1.1.2.1
  obtain ⟨⟨t1, t2⟩, e9, t3, t4, t5, t6, t7, t8⟩ := h.2.2.2.2.1
  have hE := h.2.1.1.2
  have hev := hE.ev (N := N)
  by_cases c0 : a0 < 0 ∨ m.1 200 17 ≤ a0
  · refine ⟨-1, t, m, ?_, ?_, h.up, HKf.rf⟩
    · unfold f_X11_may
      simp only [lt1_k]
      rw [cmpI_ok (by omega)]
      by_cases c1 : a0 < 0
      · rw [if_pos c1]
      · rw [if_neg c1, y4, cmpI_ok (by omega), if_neg (by omega)]
    · unfold f_X12_may
      simp only [lt1_k]
      rw [in_k ha (by omega) (by omega), bdI_s, if_pos (by omega), cmpI_ok (by omega), if_pos rfl]
  · obtain ⟨i, hi⟩ : ∃ i : Nat, a0 = i := ⟨a0.toNat, by omega⟩
    subst hi
    obtain ⟨a, c2, ⟨q1, q2, q3⟩, u, w, ⟨k1, k2, k3, k4, k5⟩, k6⟩ := al_both (N := N) (o := 0) (i := i) hN h.1.1 hE h.2.1.1.1 (by omega) t2 (by omega)
    have hun : f_X11_may N i t = (bdI (f_X1_attempt N 0 a (evb n) t) fun v6 t5 => cmpI v6 0 (if v6 = 0 then (some (v6, t5)) else (bdV (f_X11_noteFailure N t5) fun t7 => some (v6, t7)))) := by
      unfold f_X11_may
      simp only [lt1_k]
      rw [cmpI_ok (by omega), if_neg (by omega), y4, cmpI_ok (by omega), if_pos (by omega), ixI_ok (by omega), Int.toNat_natCast, q1, hev.1, bdL_s]
    have hmu : f_X12_may N i m = (bdI (f_X12_reckons N c2 (evb n) m) fun v8 t7 => cmpI v8 0 (if v8 = 0 then (bdV (f_X12_notes N t7) fun t9 => some (t9.1 200 70, t9)) else (some (0, t7)))) := by
      unfold f_X12_may
      simp only [lt1_k]
      rw [in_k ha (by omega) (by omega), bdI_s, if_neg (by omega), cmpI_ok (by omega), if_neg (by decide), ixI_ok (by omega), Int.toNat_natCast, q2, hev.2, bdL_s]
    rcases k6 with ⟨r, r1, r2, r3, r4⟩ | ⟨r1, r2, _, _⟩
    · obtain ⟨u2, v2, z1, z2, z3, z4, z5, z6, z7, z8, z9⟩ := q_note (N := N) (show inR r by omega) r4
      refine ⟨r, u2, v2, ?_, ?_, h.k5 (k2.ch (fun x hx => z4 x (by omega)) (by rw [z6])) (k4.f (by rw [z4 304 (by decide)]) (z4 378 (by decide))) (by rw [z4 304 (by decide)]; exact k5) (fun x h1 h2 h3 h4 => by rw [z4 x h1, k1.1 x h2 h3 h4]) (fun b hb => by rw [z5 b (by omega), k1.1 300 (by decide) (by decide) (by decide)]) (fun x h1 h2 h3 h4 => by rw [z6, k1.2.2.2 x h1 h2 h3 h4]) (fun x h1 h2 h3 h4 => by rw [z7 x h4, k3.1 x (by omega) (by omega) (by omega) (by omega) (by omega) (by omega) (by omega) h2 h3 h4]) (fun b h1 h2 h3 h4 => by rw [z8 b (by omega), k3.2.1 b (by omega) (by omega) (by omega) (by omega) (by omega) (by omega) (by omega) (by omega) h3 h4]) (fun x h1 => by rw [z9, k3.2.2 x h1]) z3⟩
      · rw [hun, r2, bdI_s, cmpI_ok (by omega), if_neg (by omega), z1, bdV_s]
      · rw [hmu, r3, bdI_s, cmpI_ok (by omega), if_pos rfl, z2, bdV_s, z8 70 (by omega), r4.2.1]
    · have hf := h.2.2.2.1.2.2
      refine ⟨0, u, w, ?_, ?_, h.k5 k2 k4 k5 (fun x h1 h2 h3 h4 => k1.1 x h2 h3 h4) (fun b hb => by rw [k1.1 300 (by decide) (by decide) (by decide)]) k1.2.2.2 (fun x h1 h2 h3 h4 => k3.1 x (by omega) (by omega) (by omega) (by omega) (by omega) (by omega) (by omega) h2 h3 h4) (fun b h1 h2 h3 h4 => k3.2.1 b (by omega) (by omega) (by omega) (by omega) (by omega) (by omega) (by omega) (by omega) h3 h4) k3.2.2 (by
        rw [k1.1 300 (by decide) (by decide) (by decide), k3.2.1 67 (by decide) (by decide) (by decide) (by decide) (by decide) (by decide) (by decide) (by decide) (by decide) (by decide), k3.2.1 68 (by decide) (by decide) (by decide) (by decide) (by decide) (by decide) (by decide) (by decide) (by decide) (by decide), k3.2.1 69 (by decide) (by decide) (by decide) (by decide) (by decide) (by decide) (by decide) (by decide) (by decide) (by decide)]
        exact hf)⟩
      · rw [hun, r1, bdI_s, cmpI_ok (by omega), if_pos rfl]
      · rw [hmu, r2, bdI_s, cmpI_ok (by omega), if_neg (by decide)]
end
