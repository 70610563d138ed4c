/-! step, both sides -/
section
variable {N o n : Nat} {t m u v : St}
theorem dn_9 {M : St} {k' h' a' b1 c d1 : Nat} {R : Int} (hN : 100000 ≤ N) (hB : BK0 t m) (gU : GHs o t u) (gV : GMs m v) (hE : EVr o u v n) (hn : 1 ≤ n) (hM : bkG M m ∧ M.1 200 15 ≤ m.1 200 15 ∧ ∀ e, e < 64 → bq (v.2 58 k') e = true → e < n) (hS : STp M (t.1 363) (m.1 31) a' b1 c d1 ∧ m.1 31 d1 = 5059 ∧ (b1 : Int) ≤ t.1 302 18 ∧ d1 < 6000) (hV : v.1 200 115 = c ∧ u.1 (307 + o) 3 = a' ∧ u.1 (307 + o) 6 = h' ∧ v.1 200 51 = ((k' + 1 : Nat) : Int) ∧ u.2 (307 + o) 4 = v.2 58 k' ∧ k' < 1500) (hL : RLm o R u v) (hRF : RF (XC t m) m (t.1 302 18) n (u.2 (410 + o)) (v.1 55) (v.1 56) (v.1 57) (v.2 58) k' h' b1) (hI : LIn t) (hI2 : t.1 304 11 ≤ 1900000000) (hv9 : t.1 (305 + o) 9 < 2000000000) (h10 : 0 ≤ t.1 (307 + o) 10 ∧ t.1 (307 + o) 10 ≤ 1000000000) (hno : ¬ (u.1 (307 + o) 8 = 1 ∧ 2000 < u.1 (307 + o) 10 + 1)) : ∀ u2 : St, f_X8_dance N o o u = some (2, u2) → u2.1 (307 + o) 9 = u.1 (307 + o) 9 := by
  have ho := hE.1
  obtain ⟨hV1, hV2, hV3, hV4, hV5, hV6⟩ := hV
  have hBs := hB.s ho gU gV
  have hBn := hB.2.1.2.2.1
  have hBl := hB.2.1.1
  have h15 : v.1 200 15 = m.1 200 15 := gV.2.1 15 (by omega) (by omega) (by omega) (by omega) (by omega)
  generalize hu1 : pI u (307 + o) 10 (u.1 (307 + o) 10 + 1) = u1
  have u1o : ∀ x, x ≠ 307 + o → u1.1 x = u.1 x := fun x hx => by rw [← hu1, pI_ne hx]
  have u1y : ∀ y, y ≠ 10 → u1.1 (307 + o) y = u.1 (307 + o) y := fun y hy => by rw [← hu1, pI_nf hy]
  have u1L : u1.2 = u.2 := by rw [← hu1]; rfl
  have u1z : u1.1 (307 + o) 10 = u.1 (307 + o) 10 + 1 := by rw [← hu1, pI_at]
  have uo : ∀ x, x ≠ 307 + o → x ≠ 311 → (x < 380 ∨ 383 < x) → u1.1 x = t.1 x := fun x z1 z2 z3 => by rw [u1o x z1, gU.1 x z1 z2 z3]
  have hCI1 : CIk u1 := hE.2.2.2.2.2.1.rn (fun x h1 h2 => u1o x (by omega)) (by rw [u1L])
  have hE1 : EVr o u1 v n := hE.r4 (p := o) ho (fun x h1 _ _ => u1o x h1) (fun x _ _ _ _ _ => by rw [u1L]) hCI1 GMr.rf.s
  have hB1 : BK0 u1 v := hBs.mv (fun x y hx _ => by rw [u1o x (by omega)]) (fun _ _ _ _ => rfl) (fun s x hs _ => by rw [u1L]) ⟨by rw [u1o 312 (by omega)], by rw [u1o 313 (by omega)], by rw [u1o 314 (by omega)]⟩ ⟨by rw [u1o 302 (by omega)], by rw [u1o 302 (by omega)], by rw [u1o 302 (by omega)]⟩ ⟨rfl, rfl, rfl, rfl, rfl, rfl⟩
  obtain ⟨hS1, hS2, hS3, hS4⟩ := hS
  have e31 : v.1 31 = m.1 31 := gV.1 31 (by decide) (by decide) (by decide) (by decide) (by decide) (by decide) (by decide) (by decide)
  have e18 : v.1 18 = m.1 18 := gV.1 18 (by decide) (by decide) (by decide) (by decide) (by decide) (by decide) (by decide) (by decide)
  have e14 : v.1 200 14 = m.1 200 14 := gV.2.1 14 (by omega) (by omega) (by omega) (by omega) (by omega)
  have l302 : u1.1 302 18 = t.1 302 18 := by rw [uo 302 (by omega) (by omega) (by omega)]
  have hl : t.1 302 18 ≤ 10098 := by
    obtain ⟨a9, c9, z1, z2, z3, z4, z5⟩ := hBl
    omega
  have hX : CXr M N o n u1 v (v.2 58 k') := ⟨by omega, hE1, hM.2.2, by rw [l302]; exact hl, hM.1.tr ⟨by rw [e14]; exact Int.le_refl _, fun f _ => by rw [e18]⟩⟩
  have hI1 : LIn u1 := by
    unfold LIn
    rw [uo 304 (by omega) (by omega) (by omega), uo 378 (by omega) (by omega) (by omega)]
    exact hI
  obtain ⟨x, w, q1, q2, q3, q4, q5, q6⟩ := at_both (N := N) (o := o) (n := n) (t := u1) (m := v) (s := v.2 58 k') hS1 (by omega) hX hB1.fg (by omega) hn ⟨fun y z1 z2 => by rw [uo 363 (by omega) (by omega) (by omega)], by rw [l302]; exact hS3⟩ ⟨fun y z1 z2 => by rw [e31], by omega⟩ (by omega) (by rw [e31, hS2]; omega) (by rw [e31, hS2]; omega) hI1 (by rw [uo 304 (by omega) (by omega) (by omega)]; exact hI2)
  have q5' : x.1 304 11 ≤ t.1 304 11 + 64 := by rw [← uo 304 (by omega) (by omega) (by omega)]; exact q5
  have hdn : ∀ F : Option (Int × St), (bdI (f_X1_attempt N o (a' : Int) (v.2 58 k') u1) fun v9 t8 => cmpI v9 0 (if v9 = 0 then (lt1 (t8.1 304 12) fun v10 => lt1 (pI t8 (307 + o) 3 v10) fun t11 => bdV (f_X1_settle N o t11) fun t12 => some (1, t12)) else (some (2, t8)))) = F → f_X8_dance N o o u = F := fun F hF => by
    rw [← hF]
    unfold f_X8_dance
    simp only [lt1_k, jn1_k]
    rw [hu1, u1y 8 (by decide), u1y 3 (by decide), hV2, u1L, hV5, u1z]
    obtain ⟨_, _, l6⟩ := hL
    rcases l6 with ⟨_, z1, _⟩ | ⟨z1, _⟩
    · rw [z1, cmpI_ok (by omega), if_pos rfl]
    · have u10 : u.1 (307 + o) 10 = t.1 (307 + o) 10 := gU.2.1 10 (by omega) (by omega) (by omega) (by omega)
      rw [z1, cmpI_ok (by omega), if_neg (by decide), cmpI_ok (by omega), if_neg (by omega)]
  have x307 : x.1 (307 + o) = u1.1 (307 + o) := q1.1 (307 + o) (by omega) (by omega) (by omega)
  intro u2 hu2
  rcases q6 with ⟨r, r1, r2, r3, r4⟩ | ⟨r2, r3, r4, r5, p, r6, r7, r8, r9, r10⟩
  · have e := hdn _ rfl
    rw [r2, bdI_s, cmpI_ok (by omega), if_neg (by omega), hu2] at e
    have e9 := (Prod.mk.inj (Option.some.inj e)).2
    rw [e9, x307, u1y 9 (by decide)]
  · have e := hdn _ rfl
    rw [r2, bdI_s, cmpI_ok (by omega), if_pos rfl, lt1_k, lt1_k, hu2] at e
    cases hs : f_X1_settle N o (pI x (307 + o) 3 (x.1 304 12)) with
    | none => rw [hs] at e; cases e
    | some t9 =>
      rw [hs, bdV_s] at e
      have e9 := (Prod.mk.inj (Option.some.inj e)).1
      exact absurd e9 (by decide)
end
section
variable {N n c : Nat} {t m u v μ : St} {B : Nat} {len : Nat → Nat}
/-- the run has gone on -/
theorem GR0.ru (h : GR0 n c t m) (hE : EVr 0 u v n) (gI : LIn u) (gB : u.1 304 11 ≤ t.1 304 11 + 64) (g : ∀ x, x ≠ 300 → x ≠ 304 → x ≠ 305 → x ≠ 307 → x ≠ 311 → (x < 372 ∨ 383 < x) → (x < 390 ∨ 397 < x) → u.1 x = t.1 x) (g3 : u.1 300 13 = t.1 300 13) (gL : ∀ x, x ≠ 384 → x ≠ 370 → x ≠ 371 → x ≠ 311 → x ≠ 307 → x ≠ 410 → x ≠ 396 → u.2 x = t.2 x) (e : ∀ x, (x < 38 ∨ 41 < x) → (x < 55 ∨ 57 < x) → (x < 74 ∨ 81 < x) → x ≠ 86 → x ≠ 87 → x ≠ 200 → v.1 x = m.1 x) (e2 : ∀ b, (b < 42 ∨ (53 < b ∧ b < 67) ∨ (89 ≤ b ∧ b ≤ 113)) → v.1 200 b = m.1 200 b) (eL : ∀ x, x ≠ 58 → x ≠ 73 → v.2 x = m.2 x) (hn2 : Gn (c + 1) u v) (h41 : ∀ d, d < n → u.1 393 d = v.1 41 d ∧ m.1 41 d - 8 ≤ v.1 41 d ∧ v.1 41 d ≤ m.1 41 d + 8) (h38 : ∀ d, d < n → v.1 38 d ≤ 4 * ((n : Int) - 1) ∧ v.1 39 d ≤ 4 * ((n : Int) - 1)) (h305 : t.1 305 9 ≤ u.1 305 9 ∧ u.1 305 9 ≤ t.1 305 9 + 1) (hr2 : BGr (XC t m) m (t.1 302 18) (XC u v) v (u.1 302 18) → Gr n (c + 1) u v) : GR0 n (c + 1) u v ∧ HKf t m u v := by
  obtain ⟨hb, hF, hr, hn, ht, hs⟩ := h
  have gg : ∀ x, (x < 300 ∨ x = 301 ∨ x = 302 ∨ x = 303 ∨ x = 306 ∨ (308 ≤ x ∧ x ≤ 310) ∨ (312 ≤ x ∧ x ≤ 371) ∨ (384 ≤ x ∧ x < 390) ∨ 397 < x) → u.1 x = t.1 x := fun x hx => g x (by omega) (by omega) (by omega) (by omega) (by omega) (by omega) (by omega)
  have ee : ∀ x, (x < 38 ∨ (41 < x ∧ x < 55) ∨ (57 < x ∧ x < 74) ∨ (88 ≤ x ∧ x ≠ 200)) → v.1 x = m.1 x := fun x h1 => e x (by omega) (by omega) (by omega) (by omega) (by omega) (by omega)
  have hB : BK0 u v := hb.1.mv (fun x y hx _ => by rw [gg x (by omega)]) (fun x y hx _ => by rw [ee x (by omega)]) (fun s x hs _ => by rw [gL (340 + s) (by omega) (by omega) (by omega) (by omega) (by omega) (by omega) (by omega)]) ⟨by rw [gg 312 (by omega)], by rw [gg 313 (by omega)], by rw [gg 314 (by omega)]⟩ ⟨by rw [gg 302 (by omega)], by rw [gg 302 (by omega)], by rw [gg 302 (by omega)]⟩ ⟨e2 13 (by omega), e2 14 (by omega), e2 15 (by omega), e2 16 (by omega), e2 17 (by omega), e2 33 (by omega)⟩
  have hG : BGr (XC t m) m (t.1 302 18) (XC u v) v (u.1 302 18) := BGr.same (gg 363 (by omega)) (by rw [gg 302 (by omega)]) (ee 31 (by omega)) (ee 32 (by omega)) (ee 18 (by omega)) (ee 29 (by omega)) (fun b hb => e2 b (by omega))
  obtain ⟨⟨t1, t2⟩, e9, t3, t4, t5, t6, t7, t8⟩ := ht
  refine ⟨⟨hb.mv hB (gL 331 (by decide) (by decide) (by decide) (by decide) (by decide) (by decide) (by decide)) ⟨by rw [gg 301 (by omega)], gg 330 (by omega)⟩ g3 (e2 1 (by omega)) (ee 0 (by omega)) (e2 8 (by omega)), ⟨⟨hF.1.1, hE⟩, fun d hd => ?_, h38, ?_, by rw [ee 47 (by omega), ee 48 (by omega)]; exact hF.2.2.2.2.1, by have := hF.2.2.2.2.2; omega, by have := hF.2.2.2.2.2; omega⟩, hr2 hG, hn2, ⟨⟨t1.c (fun x hx => gg x (by omega)), gI⟩, e9, t3, by rw [gg 310 (by omega)]; exact t4, by rw [e2 89 (by omega)]; exact t5, by omega, by rw [gg 306 (by omega)]; exact t7, by rw [gg 306 (by omega)]; omega⟩, hs.mv (gg 433 (by omega)) (gg 432 (by omega)) (fun i _ => by rw [gg 362 (by omega)]) (fun b _ => by rw [gg 310 (by omega)]) (gg 435 (by omega)) (gL 434 (by decide) (by decide) (by decide) (by decide) (by decide) (by decide) (by decide)) (gg 438 (by omega)) (fun a ha => ee a (by omega)) (eL 95 (by decide) (by decide)) (fun b hb => e2 b (by omega)) (by rw [e2 17 (by omega)]; exact Int.le_refl _) (by rw [eL 200 (by decide) (by decide)])⟩, gg 309 (by omega), ⟨e2 59 (by omega), e2 60 (by omega)⟩, fun a h1 h2 => ee a (by omega), ⟨eL 65 (by decide) (by decide), eL 66 (by decide) (by decide)⟩, hG⟩
  · have q := h41 d hd
    have q2 := hF.2.1 d hd
    exact ⟨q.1, by omega, by omega⟩
  · have q := hF.2.2.2.1
    unfold AIMr at q ⊢
    rw [gg 320 (by omega), ee 47 (by omega), ee 48 (by omega), ee 49 (by omega)]
    exact q
/-- the run comes to its end, or there are too many acts -/
theorem step_end (h : GR0 n c t m) (gU : GHs 0 t u) (gC : CIk u) (gV : GMs m v) (hb9 : 0 ≤ u.1 307 9 ∧ u.1 307 9 ≤ 29000 + 9000 * ((c + 1 : Nat) : Int) ∧ 0 ≤ v.1 200 53 ∧ v.1 200 53 ≤ 29000 + 9000 * ((c + 1 : Nat) : Int)) : GR0 n (c + 1) (pI u 307 2 0) (pI v 200 50 0) ∧ HKf t m (pI u 307 2 0) (pI v 200 50 0) := by
  have uo : ∀ x, x ≠ 307 → x ≠ 311 → (x < 380 ∨ 383 < x) → (pI u 307 2 0).1 x = t.1 x := fun x z1 z2 z3 => by rw [pI_ne z1, gU.1 x (by omega) z2 z3]
  have vo : ∀ x, x ≠ 80 → x ≠ 81 → x ≠ 86 → x ≠ 87 → x ≠ 200 → x ≠ 55 → x ≠ 56 → x ≠ 57 → (pI v 200 50 0).1 x = m.1 x := fun x z1 z2 z3 z4 z5 z6 z7 z8 => by rw [pI_ne z5, gV.1 x z1 z2 z3 z4 z5 z6 z7 z8]
  have vb : ∀ b, (b < 50 ∨ (53 < b ∧ b < 82) ∨ (89 ≤ b ∧ b ≤ 113)) → (pI v 200 50 0).1 200 b = m.1 200 b := fun b hb => by rw [pI_nf (by omega), gV.2.1 b (by omega) (by omega) (by omega) (by omega) (by omega)]
  have hC : CIk (pI u 307 2 0) := gC.rI (o := 0) (by decide)
  have hE : EVr 0 (pI u 307 2 0) (pI v 200 50 0) n := h.2.1.1.2.r5 (p := 0) (by decide) (fun x z1 z2 z3 => uo x (by omega) z2 z3) (fun x z1 z2 z3 z4 z5 => gU.2.2.2 x z1 z2 z3 z4 z5) hC (fun a ha => vo a (by omega) (by omega) (by omega) (by omega) (by omega) (by omega) (by omega) (by omega)) (vb 37 (by omega)) (vb 14 (by omega)) (vb 54 (by omega))
  have hn := h.2.2.2.1
  refine h.ru hE (h.2.2.2.2.1.1.2.f (by rw [uo 304 (by omega) (by omega) (by omega)]) (uo 378 (by omega) (by omega) (by omega))) (by rw [uo 304 (by omega) (by omega) (by omega)]; omega) (fun x z1 z2 z3 z4 z5 z6 z7 => uo x z4 z5 (by omega)) (by rw [uo 300 (by omega) (by omega) (by omega)]) (fun x z1 z2 z3 z4 z5 z6 z7 => gU.2.2.2 x z1 z2 z4 (by omega) (by omega)) (fun x z1 z2 z3 z4 z5 z6 => vo x (by omega) (by omega) z4 z5 z6 (by omega) (by omega) (by omega)) (fun b hb => vb b (by omega)) (fun x z1 z2 => gV.2.2 x z1) (hn.mv (fun b _ _ _ => by rw [uo 300 (by omega) (by omega) (by omega)]) (fun b hb => vb b (by omega))).up (fun d hd => ?_) (fun d hd => ?_) (by rw [uo 305 (by omega) (by omega) (by omega)]; omega) (fun hG => ?_)
  · rw [uo 393 (by omega) (by omega) (by omega), vo 41 (by omega) (by omega) (by omega) (by omega) (by omega) (by omega) (by omega) (by omega)]
    exact ⟨(h.2.1.2.1 d hd).1, by omega, by omega⟩
  · rw [vo 38 (by omega) (by omega) (by omega) (by omega) (by omega) (by omega) (by omega) (by omega), vo 39 (by omega) (by omega) (by omega) (by omega) (by omega) (by omega) (by omega) (by omega)]
    exact h.2.1.2.2.1 d hd
  · have hr := h.2.2.1
    refine ⟨Or.inl ⟨pI_at, pI_at⟩, ⟨?_, by rw [vb 54 (by omega)]; exact hr.2.1.2⟩, ?_, ?_, ?_⟩
    · rw [pI_nf (by decide)]; exact (gU.2.1 8 (by omega) (by omega) (by omega) (by omega)).trans hr.2.1.1
    · rw [pI_nf (by decide)]; exact ⟨hb9.1, hb9.2.1⟩
    · rw [pI_nf (by decide)]; exact ⟨hb9.2.2.1, hb9.2.2.2⟩
    · rw [pI_nf (by decide)]
      have e := gU.2.1 10 (by omega) (by omega) (by omega) (by omega)
      have e : u.1 307 10 = t.1 307 10 := e
      rw [e]
      have := hr.2.2.2.2
      omega
end
