/-! searching: the beginning -/
theorem h_fillS {q0 n0 : Nat} (hn : n0 ≤ 100000) : ∀ (i d q : Nat) (t : St), d + i = n0 → i < q → ∃ u : St, (∀ K : St → Option St, f_J7_fill_fb410_L5 q0 n0 K 0 (n0 : Int) q d t = K u) ∧ u.2 = t.2 ∧ (∀ a, a ≠ q0 → u.1 a = t.1 a) ∧ (∀ x, d ≤ x → x < n0 → u.1 q0 x = 0) ∧ ∀ x, x < d → u.1 q0 x = t.1 q0 x := by
  intro i
  induction i with
  | zero =>
    intro d q t h1 h2
    obtain ⟨q, rfl⟩ : ∃ k, q = k + 1 := ⟨q - 1, by omega⟩
    refine ⟨t, fun K => ?_, rfl, fun _ _ => rfl, fun x h3 h4 => by omega, fun _ _ => rfl⟩
    unfold f_J7_fill_fb410_L5
    rw [cmpI_ok (by omega), if_neg (by omega)]
  | succ i ih =>
    intro d q t h1 h2
    obtain ⟨q, rfl⟩ : ∃ k, q = k + 1 := ⟨q - 1, by omega⟩
    obtain ⟨u, a1, a2, a3, a4, a5⟩ := ih (d + 1) q (pI t q0 d 0) (by omega) (by omega)
    refine ⟨u, fun K => ?_, a2, fun a ha => by rw [a3 a ha, pI_ne ha], fun x h3 h4 => ?_, fun x hx => by rw [a5 x (by omega), pI_nf (by omega)]⟩
    · unfold f_J7_fill_fb410_L5
      rw [cmpI_ok (by omega), if_pos (by omega), ixI_ok (by omega), lt1_k, Int.toNat_natCast, show ((d : Int) + 1) = ((d + 1 : Nat) : Int) by omega, show b16 0 = 0 from by decide]
      exact a1 K
    · by_cases hx : x = d
      · rw [hx, a5 d (by omega), pI_at]
      · exact a4 x (by omega) h4
/-- what a whole search leaves of the hall -/
def SXh (t u : St) : Prop := (∀ x, x ≠ 304 → x ≠ 306 → x ≠ 310 → x ≠ 311 → (x < 372 ∨ 383 < x) → (x < 400 ∨ 407 < x) → (x < 430 ∨ 437 < x) → u.1 x = t.1 x) ∧ (∀ b, b < 11 → u.1 304 b = t.1 304 b) ∧ (∀ b, b ≠ 8 → b ≠ 9 → u.1 306 b = t.1 306 b) ∧ (∀ y, y < 11 ∨ y = 15 ∨ 17 < y → u.1 310 y = t.1 310 y) ∧ (∀ b, b ≠ 3 → b ≠ 4 → b ≠ 9 → u.1 311 b = t.1 311 b) ∧ (∀ x, x ≠ 384 → x ≠ 370 → x ≠ 371 → x ≠ 311 → x ≠ 406 → x ≠ 430 → x ≠ 434 → x ≠ 436 → u.2 x = t.2 x)
theorem SXh.tr {t u v : St} (h : SXh t u) (g : SXh u v) : SXh t v := ⟨fun x h1 h2 h3 h4 h5 h6 h7 => (g.1 x h1 h2 h3 h4 h5 h6 h7).trans (h.1 x h1 h2 h3 h4 h5 h6 h7), fun b hb => (g.2.1 b hb).trans (h.2.1 b hb), fun b h1 h2 => (g.2.2.1 b h1 h2).trans (h.2.2.1 b h1 h2), fun y h1 => (g.2.2.2.1 y h1).trans (h.2.2.2.1 y h1), fun b h1 h2 h3 => (g.2.2.2.2.1 b h1 h2 h3).trans (h.2.2.2.2.1 b h1 h2 h3), fun x h1 h2 h3 h4 h5 h6 h7 h8 => (g.2.2.2.2.2 x h1 h2 h3 h4 h5 h6 h7 h8).trans (h.2.2.2.2.2 x h1 h2 h3 h4 h5 h6 h7 h8)⟩
theorem SHg.x {t u : St} (h : SHg t u) : SXh t u := ⟨fun x h1 h2 h3 h4 h5 h6 h7 => h.1 x h1 h2 h3 h4 h5 h6 (by omega) (by omega) (by omega) (by omega), h.2.1, h.2.2.1, fun y hy => h.2.2.2.1 y (by omega) (by omega), h.2.2.2.2.1, fun x h1 h2 h3 h4 h5 h6 _ h8 => h.2.2.2.2.2 x h1 h2 h3 h4 h5 h6 h8⟩
def SXm (m v : St) : Prop := (∀ x, (x < 38 ∨ 41 < x) → (x < 74 ∨ 81 < x) → x ≠ 86 → x ≠ 87 → (x < 92 ∨ 97 < x) → x ≠ 104 → x ≠ 200 → v.1 x = m.1 x) ∧ (∀ b, b ≠ 42 → b ≠ 43 → (b < 70 ∨ 75 < b) → (b < 82 ∨ 85 < b) → (b < 88 ∨ 91 < b) → b ≠ 98 → b ≠ 99 → b ≠ 101 → b ≠ 114 → v.1 200 b = m.1 200 b) ∧ (∀ x, x ≠ 73 → x ≠ 95 → x ≠ 200 → v.2 x = m.2 x)
theorem SXm.tr {m u v : St} (h : SXm m u) (g : SXm u v) : SXm m v := ⟨fun x h1 h2 h3 h4 h5 h6 h7 => (g.1 x h1 h2 h3 h4 h5 h6 h7).trans (h.1 x h1 h2 h3 h4 h5 h6 h7), fun b h1 h2 h3 h4 h5 h6 h7 h8 h9 => (g.2.1 b h1 h2 h3 h4 h5 h6 h7 h8 h9).trans (h.2.1 b h1 h2 h3 h4 h5 h6 h7 h8 h9), fun x h1 h2 h3 => (g.2.2 x h1 h2 h3).trans (h.2.2 x h1 h2 h3)⟩
theorem SMf.x {m v : St} (h : SMf m v) : SXm m v := ⟨fun x h1 h2 h3 h4 h5 _ h7 => h.1 x h1 h2 h3 h4 (by omega) h7, fun b h1 h2 h3 h4 h5 _ h7 _ h9 => h.2.1 b h1 h2 h3 h4 (by omega) (by omega) (by omega) h7 h9, fun x h1 _ _ => h.2.2 x h1⟩
theorem BK0.sx {t u m v : St} (hB : BK0 t m) (g : SXh t u) (g2 : SXm m v) : BK0 u v := by
  have f : ∀ x, (x = 302 ∨ (312 ≤ x ∧ x ≤ 314) ∨ (350 ≤ x ∧ x ≤ 363)) → u.1 x = t.1 x := fun x hx => g.1 x (by omega) (by omega) (by omega) (by omega) (by omega) (by omega) (by omega)
  have e : ∀ b, b < 42 → v.1 200 b = m.1 200 b := fun b hb => g2.2.1 b (by omega) (by omega) (by omega) (by omega) (by omega) (by omega) (by omega) (by omega) (by omega)
  exact hB.mv (fun x y hx _ => by rw [f x hx]) (fun x y hx _ => by rw [g2.1 x (by omega) (by omega) (by omega) (by omega) (by omega) (by omega) (by omega)]) (fun s x hs _ => by rw [g.2.2.2.2.2 (340 + s) (by omega) (by omega) (by omega) (by omega) (by omega) (by omega) (by omega) (by omega)]) ⟨by rw [f 312 (by omega)], by rw [f 313 (by omega)], by rw [f 314 (by omega)]⟩ ⟨by rw [f 302 (by omega)], by rw [f 302 (by omega)], by rw [f 302 (by omega)]⟩ ⟨e 13 (by omega), e 14 (by omega), e 15 (by omega), e 16 (by omega), e 17 (by omega), e 33 (by omega)⟩
/-- what a search needs -/
def SNd (n e : Nat) (t m : St) : Prop := (BK0 t m ∧ LIn t ∧ FLr 1 t ∧ EVr 0 t m n) ∧ (t.1 310 13 = e ∧ m.1 200 89 = e ∧ e ≤ 10000) ∧ m.1 200 54 = 0 ∧ (∀ d, d < n → m.1 38 d ≤ 60 ∧ m.1 39 d ≤ 60) ∧ AIMr n t m ∧ (∀ d, d < n → m.1 47 d ≤ 60 ∧ m.1 48 d ≤ 60) ∧ t.1 304 11 + 4096000 ≤ 1900000000 ∧ 0 ≤ t.1 306 9 ∧ t.1 306 9 + 2000 ≤ 2000000000
set_option maxHeartbeats 1000000 in
/-- both search -/
theorem search_both {N n e most : Nat} {t m : St} (hN : 100000 ≤ N) (hn : 1 ≤ n ∧ n ≤ 16) (hm : most ≤ 12) (h : SNd n e t m) :
    ∃ (u v : St) (S : Nat), SXh t u ∧ SXm m v ∧ (CIk u ∧ FLr 1 u ∧ LIn u) ∧ (u.1 304 11 ≤ t.1 304 11 + 2048 * (S : Int) ∧ 0 ≤ u.1 306 9 ∧ u.1 306 9 ≤ t.1 306 9 + (S : Int)) ∧ (u.1 310 13 = ((e + S : Nat) : Int) ∧ v.1 200 89 = ((e + S : Nat) : Int) ∧ e + S ≤ 10000) ∧ (u.1 310 14 = -1 ∧ u.1 310 16 = 0 ∧ u.1 310 17 = 0) ∧ v.2 200 = m.2 200 ∧ (∀ b, b = 37 ∨ b = 101 ∨ b = 102 → v.1 200 b = m.1 200 b) ∧ v.1 104 = m.1 104 ∧
      ((∃ a : Int, (a = -1 ∨ a = -2) ∧ f_X9_explore N 0 320 64 most t = some (a, u) ∧ f_X12_searches N most m = some (a, v)) ∨
       ∃ (L a w : Nat) (pl B : Nat → Nat), L ≤ most ∧ a < S ∧ B L ≤ a ∧ v.1 200 99 = a ∧ LEV n w L S (e + S) pl B u v ∧ (w : Int) = m.1 200 17 ∧ f_X9_explore N 0 320 64 most t = (bdV (f_X9_findRows N L a u) fun t32 => some ((L : Int), t32)) ∧ f_X12_searches N most m = some ((L : Int), v)) := by
  obtain ⟨⟨hB, hLI, hFL, hE⟩, ⟨h13, h89, he⟩, h54, hsm, hAI, hAs, hLb, hv0, hv⟩ := h
  have hF := hE.2.1.1
  have hFH := hE.2.1.2
  have h8 : t.1 (305 + 0) 8 = n := hFH.1
  obtain ⟨w, hw⟩ : ∃ w : Nat, (w : Int) = m.1 200 17 := ⟨(m.1 200 17).toNat, by obtain ⟨_, _, n9, _⟩ := hB.2.1; omega⟩
  have hw2 : t.1 302 16 = w := by rw [hw]; exact hB.2.1.2.1.2.2.2
  have h32 : w ≤ 32 := by obtain ⟨_, _, n9, _⟩ := hB.2.1; omega
  -- the hall begins
  generalize ht3 : pI (pI (pI t 310 14 (-1)) 310 16 0) 310 17 0 = t3
  have t3o : ∀ x, x ≠ 310 → t3.1 x = t.1 x := fun x hx => by rw [← ht3, pI_ne hx, pI_ne hx, pI_ne hx]
  have t3y : ∀ y, y ≠ 14 → y ≠ 16 → y ≠ 17 → t3.1 310 y = t.1 310 y := fun y z1 z2 z3 => by rw [← ht3, pI_nf z3, pI_nf z2, pI_nf z1]
  have t3L : t3.2 = t.2 := by rw [← ht3]; rfl
  have t314 : t3.1 310 14 = -1 ∧ t3.1 310 16 = 0 ∧ t3.1 310 17 = 0 := by
    rw [← ht3]
    refine ⟨by rw [pI_nf (by decide), pI_nf (by decide), pI_at], by rw [pI_nf (by decide), pI_at], by rw [pI_at]⟩
  obtain ⟨t4, a1, a2, a3, a4, _⟩ := h_fillS (q0 := 431) (n0 := 4096) (by decide) 4096 0 N t3 (by omega) (by omega)
  generalize ht5 : pI (pI (pI t4 310 11 0) 310 12 (w : Int)) 433 0 0 = t5
  have t5o : ∀ x, x ≠ 310 → x ≠ 431 → x ≠ 433 → t5.1 x = t.1 x := fun x z1 z2 z3 => by rw [← ht5, pI_ne z3, pI_ne z1, pI_ne z1, a3 x z2, t3o x z1]
  have t5y : ∀ y, y ≠ 11 → y ≠ 12 → t5.1 310 y = t3.1 310 y := fun y z1 z2 => by rw [← ht5, pI_ne (by decide), pI_nf z2, pI_nf z1, a3 310 (by decide)]
  have t511 : t5.1 310 11 = 0 ∧ t5.1 310 12 = w := by
    rw [← ht5]
    exact ⟨by rw [pI_ne (by decide), pI_nf (by decide), pI_at], by rw [pI_ne (by decide), pI_at]⟩
  have t5L : t5.2 = t.2 := by rw [← ht5]; exact (show (pI (pI (pI t4 310 11 0) 310 12 (w : Int)) 433 0 0).2 = t4.2 from rfl).trans (a2.trans t3L)
  have t5T : ∀ p, p < 4096 → t5.1 431 p = 0 := fun p hp => by rw [← ht5, pI_ne (by decide), pI_ne (by decide), pI_ne (by decide)]; exact a4 p (by omega) hp
  have t50 : t5.1 433 0 = 0 := by rw [← ht5, pI_at]
  have hFH5 : FH 0 t5 (m.1 38) (m.1 39) (m.1 40) n := by
    unfold FH at hFH ⊢
    rw [t5o (305 + 0) (by decide) (by decide) (by decide), t5o (390 + 10 * 0) (by decide) (by decide) (by decide), t5o (391 + 10 * 0) (by decide) (by decide) (by decide), t5o (392 + 10 * 0) (by decide) (by decide) (by decide), t5o (397 + 10 * 0) (by decide) (by decide) (by decide)]
    exact hFH
  obtain ⟨t6, b1, b2, b3, b4⟩ := h_cc (N := N) (o := 0) (q0 := 437) (n0 := 16) hF.2 hFH5 (by omega) (by omega) (by omega)
  have hcod : ∀ d, d < n → t6.1 437 d = cdZ (m.1 38 d) (m.1 39 d) (m.1 40 d) ∧ 0 ≤ cdZ (m.1 38 d) (m.1 39 d) (m.1 40 d) ∧ cdZ (m.1 38 d) (m.1 39 d) (m.1 40 d) < 16384 := fun d hd => by
    have h3 := hF.2.2.1 d hd
    exact ⟨b3 d hd, cdZ_rng h3.1 h3.2.1 h3.2.2⟩
  obtain ⟨t7, c1, c2, c3, c4⟩ := h_pack (N := N) (C := fun d => cdZ (m.1 38 d) (m.1 39 d) (m.1 40 d)) (q0 := 437) (n0 := 16) (n := n) (t := t6) (by omega) hcod (by omega)
  have t7o : ∀ x, x ≠ 310 → x ≠ 431 → x ≠ 433 → x ≠ 437 → t7.1 x = t.1 x := fun x z1 z2 z3 z4 => by rw [c2, b2 x z4, t5o x z1 z2 z3]
  have t7y : ∀ y, y ≠ 11 → y ≠ 12 → t7.1 310 y = t3.1 310 y := fun y z1 z2 => by rw [c2, b2 310 (by decide), t5y y z1 z2]
  have t7L : ∀ a, a ≠ 436 → t7.2 a = t.2 a := fun a ha => by rw [c3 a ha, b4, t5L]
  have t713 : t7.1 310 13 = e := by rw [t7y 13 (by decide) (by decide), t3y 13 (by decide) (by decide) (by decide)]; exact h13
  have hX7 : SXh t t7 := ⟨fun x _ _ z3 _ _ _ z7 => t7o x z3 (by omega) (by omega) (by omega), fun b _ => by rw [t7o 304 (by decide) (by decide) (by decide) (by decide)], fun b _ _ => by rw [t7o 306 (by decide) (by decide) (by decide) (by decide)], fun y hy => by rw [t7y y (by omega) (by omega), t3y y (by omega) (by omega) (by omega)], fun b _ _ _ => by rw [t7o 311 (by decide) (by decide) (by decide) (by decide)], fun x _ _ _ _ _ _ _ z8 => t7L x z8⟩
  have hC7 : CIk t7 := hE.2.2.2.2.2.1.ch (fun x hx => t7o x (by omega) (by omega) (by omega) (by omega)) (t7L 311 (by decide))
  have hF7 : FLr 1 t7 := hFL.c (fun x hx => t7o x (by omega) (by omega) (by omega) (by omega))
  have hL7 : LIn t7 := hLI.f (by rw [t7o 304 (by decide) (by decide) (by decide) (by decide)]) (t7o 378 (by decide) (by decide) (by decide) (by decide))
  -- the model begins
  generalize hm1 : pI (pI (pI m 200 90 0) 200 99 (-1)) 200 98 (w : Int) = m1
  have m1o : ∀ x, x ≠ 200 → m1.1 x = m.1 x := fun x hx => by rw [← hm1, pI_ne hx, pI_ne hx, pI_ne hx]
  have m1b : ∀ b, b ≠ 90 → b ≠ 99 → b ≠ 98 → m1.1 200 b = m.1 200 b := fun b z1 z2 z3 => by rw [← hm1, pI_nf z3, pI_nf z2, pI_nf z1]
  have m190 : m1.1 200 90 = 0 ∧ m1.1 200 99 = -1 ∧ m1.1 200 98 = w := by
    rw [← hm1]
    exact ⟨by rw [pI_nf (by decide), pI_nf (by decide), pI_at], by rw [pI_nf (by decide), pI_at], by rw [pI_at]⟩
  have m1L : m1.2 = m.2 := by rw [← hm1]; rfl
  have hX1 : SXm m m1 := ⟨fun x _ _ _ _ _ _ z7 => m1o x z7, fun b _ _ _ _ z5 z6 z7 _ _ => m1b b (by omega) z7 z6, fun x _ _ _ => by rw [m1L]⟩
  have hF1 : fmF m1 n := ⟨by rw [m1b 37 (by decide) (by decide) (by decide)]; exact hF.1, by rw [m1o 38 (by decide), m1o 39 (by decide), m1o 40 (by decide)]; exact hF.2⟩
  have hA1 : ∀ d, d < n → ok4 (m1.1 47 d) ∧ ok4 (m1.1 48 d) ∧ 0 ≤ m1.1 49 d ∧ m1.1 49 d ≤ 3 := fun d hd => by
    rw [m1o 47 (by decide), m1o 48 (by decide), m1o 49 (by decide)]
    have := hAI d hd
    exact ⟨this.1, this.2.1, this.2.2.1⟩
  have hSS : SSr n 0 e (fun _ => 0) t7 m1 := by
    refine ⟨⟨by omega, fun s hs => by omega, fun p hp => Or.inl ?_, fun s hs => by omega, fun s r hs => by omega⟩, ⟨?_, m190.1⟩, ⟨t713, by rw [m1b 89 (by decide) (by decide) (by decide)]; exact h89, he⟩, fun s hs => by omega, Or.inl ⟨m190.2.1, fun s hs => by omega⟩⟩
    · rw [c2, b2 431 (by decide)]; exact t5T p hp
    · rw [c2, b2 310 (by decide)]; exact t511.1
  have hk : KYr (fun d => cdZ (m1.1 38 d) (m1.1 39 d) (m1.1 40 d)) n (t7.2 436) := by
    rw [m1o 38 (by decide), m1o 39 (by decide), m1o 40 (by decide)]
    exact c4
  have hsm1 : ∀ d, d < n → m1.1 38 d ≤ 60 ∧ m1.1 39 d ≤ 60 := by rw [m1o 38 (by decide), m1o 39 (by decide)]; exact hsm
  have hun : f_X9_explore N 0 320 64 most t = (bdI (f_X9_meet N t7) fun v11 t10 => cmpI v11 0 (if v11 < 0 then (some ((-2), t10)) else (f_X9_explore_L78 N 0 320 64 (fun (k29 : Int) (k30 : Int) (t31 : St) => bdV (f_X9_findRows N k29 k30 t31) fun t32 => some (k29, t32)) (fun (t33 : St) => some ((-1), t33)) most N 0 (pI t10 433 1 (t10.1 310 11))))) := by
    unfold f_X9_explore f_X9_forget f_J7_fill_fb410
    simp only [lt1_k]
    rw [boI_0, ht3, bdV_s]
    have a1' := a1 (fun (t7 : St) => some t7)
    rw [show ((0 : Nat) : Int) = 0 from rfl] at a1'
    rw [a1', bdV_s]
    have e302 : (pI t4 310 11 0).1 302 16 = w := by rw [pI_ne (by decide), a3 302 (by decide), t3o 302 (by decide)]; exact hw2
    rw [e302, ixI_ok (by omega), show (0 : Int).toNat = 0 from rfl, ht5, b1, bdV_s, b2 (305 + 0) (by decide), t5o (305 + 0) (by decide) (by decide) (by decide), h8, c1, bdV_s]
    rfl
  have hmu : f_X12_searches N most m = (bdI (f_X12_meets N 0 m1) fun v6 t5 => cmpI v6 0 (if v6 = 0 then (some ((-2), t5)) else (f_X12_searches_L31 N kSr most N 0 t5))) := by
    unfold f_X12_searches
    simp only [lt1_k]
    have e17 : (pI (pI m 200 90 0) 200 99 (-1)).1 200 17 = w := by rw [pI_nf (by decide), pI_nf (by decide), hw]
    rw [e17, hm1]
    rfl
  have hfin2 : ∀ u, SHg t7 u → u.1 310 14 = -1 ∧ u.1 310 16 = 0 ∧ u.1 310 17 = 0 := fun u g => by
    rw [g.2.2.2.1 14 (by decide) (by decide), g.2.2.2.1 16 (by decide) (by decide), g.2.2.2.1 17 (by decide) (by decide), t7y 14 (by decide) (by decide), t7y 16 (by decide) (by decide), t7y 17 (by decide) (by decide)]
    exact t314
  rcases meet_both (N := N) (l := 0) hn.2 hSS hF1 hsm1 hk hA1 (by omega) with ⟨s9, d1, _⟩ | ⟨d1, _, d3⟩ | ⟨d1, d2, u2, v2, pl2, d3, _, d5, d6, d7, d8, d9⟩
  · omega
  · refine ⟨t7, m1, 0, hX7, hX1, ⟨hC7, hF7, hL7⟩, ⟨?_, ?_, ?_⟩, ⟨t713, by rw [m1b 89 (by decide) (by decide) (by decide)]; exact h89, by omega⟩, hfin2 t7 SHg.rf, by rw [m1L], fun b hb => m1b b (by omega) (by omega) (by omega), m1o 104 (by decide), Or.inl ⟨-2, Or.inr rfl, ?_, ?_⟩⟩
    · rw [t7o 304 (by decide) (by decide) (by decide) (by decide)]; omega
    · rw [t7o 306 (by decide) (by decide) (by decide) (by decide)]; omega
    · rw [t7o 306 (by decide) (by decide) (by decide) (by decide)]; omega
    · rw [hun, d1, bdI_s, cmpI_ok (by omega), if_pos (by omega)]
    · rw [hmu, show f_X12_meets N 0 m1 = some (0, m1) from d3, bdI_s, cmpI_ok (by omega), if_pos rfl]
  · have u211 : u2.1 310 11 = 1 := d6.2.1.1
    generalize hu3 : pI u2 433 1 1 = u3
    have u3o : ∀ x, x ≠ 433 → u3.1 x = u2.1 x := fun x hx => by rw [← hu3, pI_ne hx]
    have u3L : u3.2 = u2.2 := by rw [← hu3]; rfl
    have g73 : SHg t7 u3 := ⟨fun x _ _ z3 _ _ _ z7 _ z9 _ => by rw [u3o x z9, d7.1 x z3 z7], fun b _ => by rw [u3o 304 (by decide), d7.1 304 (by decide) (by decide)], fun b _ _ => by rw [u3o 306 (by decide), d7.1 306 (by decide) (by decide)], fun y z1 z2 => by rw [u3o 310 (by decide), d7.2.1 y z1 z2], fun b _ _ _ => by rw [u3o 311 (by decide), d7.1 311 (by decide) (by decide)], fun x _ _ _ _ _ z6 _ => by rw [u3L, d7.2.2 x z6]⟩
    have g12 := SMf.m d8
    have e304 : u3.1 304 11 = t.1 304 11 := by rw [u3o 304 (by decide), d7.1 304 (by decide) (by decide), t7o 304 (by decide) (by decide) (by decide) (by decide)]
    have e306 : u3.1 306 9 = t.1 306 9 := by rw [u3o 306 (by decide), d7.1 306 (by decide) (by decide), t7o 306 (by decide) (by decide) (by decide) (by decide)]
    have v2b : ∀ b, b ≠ 89 → b ≠ 90 → b ≠ 99 → b ≠ 98 → v2.1 200 b = m.1 200 b := fun b z1 z2 z3 z4 => by rw [d8.2.1 b z1 z2 z3, m1b b z2 z3 z4]
    have v2o : ∀ x, x ≠ 92 → x ≠ 93 → x ≠ 200 → v2.1 x = m.1 x := fun x z1 z2 z3 => by rw [d8.1 x z1 z2 z3, m1o x z3]
    have hB3 : BK0 u3 v2 := hB.sx (hX7.tr g73.x) (hX1.tr g12.x)
    have hL3 : LIn u3 := hL7.f (by rw [u3o 304 (by decide), d7.1 304 (by decide) (by decide)]) (by rw [u3o 378 (by decide), d7.1 378 (by decide) (by decide)])
    have hC3 : CIk u3 := hC7.ch (fun x hx => by rw [u3o x (by omega), d7.1 x (by omega) (by omega)]) (by rw [u3L, d7.2.2 311 (by decide)])
    have hF3 : FLr 1 u3 := hF7.c (fun x hx => by rw [u3o x (by omega), d7.1 x (by omega) (by omega)])
    have hW3 : WDr n w (0 + 1) (e + 1) pl2 u3 v2 := by
      refine ⟨⟨hB3, hL3, d6.fr (u3o 431 (by decide)) (by rw [u3L]) ⟨by rw [u3o 310 (by decide)], by rw [u3o 310 (by decide)]⟩ rfl ⟨rfl, rfl, rfl⟩ ⟨rfl, rfl, rfl⟩⟩, ⟨?_, ?_, ?_⟩, ⟨?_, ?_⟩, ?_⟩
      · rw [u3o 310 (by decide), d7.2.1 12 (by decide) (by decide), c2, b2 310 (by decide)]; exact t511.2
      · rw [d8.2.1 98 (by decide) (by decide) (by decide)]; exact m190.2.2
      · rw [v2b 17 (by decide) (by decide) (by decide) (by decide)]; omega
      · rw [v2b 37 (by decide) (by decide) (by decide) (by decide)]; exact hF.1
      · rw [v2b 54 (by decide) (by decide) (by decide) (by decide)]; exact h54
      · rw [d8.1 47 (by decide) (by decide) (by decide), d8.1 48 (by decide) (by decide) (by decide), d8.1 49 (by decide) (by decide) (by decide)]; exact hA1
    have hLE : LEV n w 0 1 (e + 1) pl2 (fun k => k) u3 v2 := by
      refine ⟨⟨hW3, hC3, hF3⟩, ⟨fun y (hy : y < 32 * 0) => by omega, fun z z1 z2 => by omega, fun z z1 z2 => by omega, Nat.le_refl _⟩, ⟨rfl, rfl, rfl⟩, fun k hk => ?_, fun k hk => ?_⟩
      · have hk2 : k = 0 ∨ k = 1 := by omega
        rcases hk2 with hk2 | hk2
        · rw [hk2, ← hu3, pI_nf (by decide), d7.1 433 (by decide) (by decide), c2, b2 433 (by decide), t50]; rfl
        · rw [hk2, ← hu3, pI_at]; rfl
      · have hk2 : k = 0 := by omega
        subst hk2
        refine ⟨by show (0 : Nat) ≤ 0 + 1; omega, fun z z1 (z2 : z < 0 + 1) => ?_⟩
        have hz : z = 0 := by omega
        subst hz
        exact d9
    have hA3 : ∀ d, d < n → u3.1 320 d = cdZ (v2.1 47 d) (v2.1 48 d) (v2.1 49 d) ∧ v2.1 47 d ≤ 60 ∧ v2.1 48 d ≤ 60 := fun d hd => by
      rw [u3o 320 (by decide), d7.1 320 (by decide) (by decide), t7o 320 (by decide) (by decide) (by decide) (by decide), v2o 47 (by decide) (by decide) (by decide), v2o 48 (by decide) (by decide) (by decide), v2o 49 (by decide) (by decide) (by decide)]
      exact ⟨(hAI d hd).2.2.2, hAs d hd⟩
    have h83 : u3.1 (305 + 0) 8 = n := by rw [u3o (305 + 0) (by decide), d7.1 (305 + 0) (by decide) (by decide), t7o (305 + 0) (by decide) (by decide) (by decide) (by decide)]; exact h8
    obtain ⟨u, v, S, e2, pl, k1, k2, k3, k4, k5, k6, k7, k8, k9, k10⟩ := ex_lp (N := N) (n := n) (w := w) (most := most) hN hn hm most 0 1 (e + 1) pl2 (fun k => k) u3 v2 (by omega) hLE (by show (0 : Nat) < 1; omega) h83 hA3 (fun z (hz : z < 0) => by omega) (by rw [e304]; show t.1 304 11 + 2048 * ((2000 - 0 : Nat) : Int) ≤ 1900000000; omega) (by rw [e306]; show 0 ≤ t.1 306 9 ∧ t.1 306 9 + ((2000 - 0 : Nat) : Int) ≤ 2000000000; omega)
    have k5' : u.1 304 11 ≤ t.1 304 11 + 2048 * (S : Int) := by
      rw [e304] at k5
      exact k5
    have k6' : 0 ≤ u.1 306 9 ∧ u.1 306 9 ≤ t.1 306 9 + (S : Int) := by
      rw [e306] at k6
      exact k6
    have he2 : e2 = e + S := by omega
    subst he2
    have hS13 := k7.1.2.2.2.2.1
    have hq : (N - most - 1) + most + 1 = N := by omega
    have hun2 : f_X9_explore N 0 320 64 most t = f_X9_explore_L78 N 0 320 64 (fun (k29 : Int) (k30 : Int) (t31 : St) => bdV (f_X9_findRows N k29 k30 t31) fun t32 => some (k29, t32)) (fun (t33 : St) => some ((-1), t33)) most ((N - most - 1) + most + 1) ((0 : Nat) : Int) u3 := by
      rw [hun, show f_X9_meet N t7 = some (((0 : Nat) : Int), u2) from d3, bdI_s, cmpI_ok (by omega), if_neg (by omega), u211, hu3, hq]
      rfl
    have hmu2 : f_X12_searches N most m = f_X12_searches_L31 N kSr most ((N - most - 1) + most + 1) ((0 : Nat) : Int) v2 := by
      rw [hmu, show f_X12_meets N 0 m1 = some (1, v2) from d5, bdI_s, cmpI_ok (by omega), if_neg (by omega), hq]
      rfl
    refine ⟨u, v, S, (hX7.tr g73.x).tr k1.x, (hX1.tr g12.x).tr k2.x, ⟨k3, k4, k7.1.2.1⟩, ⟨k5', k6'⟩, hS13, hfin2 u (g73.tr k1), ?_, fun b hb => ?_, ?_, ?_⟩
    · rw [k2.2.2 200 (by decide), d8.2.2.1, m1L]
    · rw [k2.2.1 b (by omega) (by omega) (by omega) (by omega) (by omega) (by omega) (by omega) (by omega) (by omega), v2b b (by omega) (by omega) (by omega) (by omega)]
    · rw [k2.1 104 (by omega) (by omega) (by omega) (by omega) (by omega) (by omega), v2o 104 (by decide) (by decide) (by decide)]
    · rcases k10 with ⟨a, z1, z2⟩ | ⟨L, a, B2, z1, z2, z3, z4, z5, z6⟩
      · exact Or.inl ⟨a, z1, hun2.trans (z2 _ _ (N - most - 1) (N - most - 1)).1, hmu2.trans (z2 (fun _ _ _ => none) (fun _ => none) (N - most - 1) (N - most - 1)).2⟩
      · exact Or.inr ⟨L, a, w, pl, B2, z1, z2, z3, z4, z5, hw, hun2.trans (z6 _ _ (N - most - 1) (N - most - 1)).1, hmu2.trans (z6 (fun _ _ _ => none) (fun _ => none) (N - most - 1) (N - most - 1)).2⟩
