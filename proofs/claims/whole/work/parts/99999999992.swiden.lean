/-! searching: one step is tried from one state -/
/-- a floor's relation holds wherever its own cells are the same -/
theorem EVr.ch {o n : Nat} {t m u v : St} (h : EVr o t m n) (g : ∀ x, (x = 305 + o ∨ x = 312 ∨ (350 ≤ x ∧ x ≤ 353) ∨ (390 + 10 * o ≤ x ∧ x ≤ 397 + 10 * o)) → u.1 x = t.1 x) (gL : u.2 (396 + 10 * o) = t.2 (396 + 10 * o)) (gC : CIk u) (e : ∀ d, d < n → v.1 38 d = m.1 38 d ∧ v.1 39 d = m.1 39 d ∧ v.1 40 d = m.1 40 d) (eh : hGd o v → hGd o m ∧ ∀ d, d < n → v.1 44 d = m.1 44 d ∧ v.1 45 d = m.1 45 d ∧ v.1 46 d = m.1 46 d) (e18 : ∀ a, 18 ≤ a → a ≤ 22 → v.1 a = m.1 a) (e37 : v.1 200 37 = m.1 200 37) (e14 : v.1 200 14 = m.1 200 14) : EVr o u v n := by
  obtain ⟨ho, h1, h2, h3, h4, h5, h6, h7, h8⟩ := h
  refine ⟨ho, ⟨⟨by rw [e37]; exact h1.1.1, FXs_cong h1.1.2 e⟩, ?_⟩, fun i hi => ?_, fun fc d hf hd => ?_, fun hg d hd => ?_, gC, by rw [g (305 + o) (by omega)]; exact h6, by rw [e14, g 312 (by omega)]; exact h7, fun x hf => ?_⟩
  · refine FH_cong (X := m.1 38) (Y := m.1 39) (W := m.1 40) ?_ e
    unfold FH
    rw [g (305 + o) (by omega), g (390 + 10 * o) (by omega), g (391 + 10 * o) (by omega), g (392 + 10 * o) (by omega), g (397 + 10 * o) (by omega)]
    exact h1.2
  · rw [g (395 + 10 * o) (by omega)]
    unfold odM
    rw [ord9_cong (X := v.1 38) (Y := v.1 39) (X2 := m.1 38) (Y2 := m.1 39) (fun d hd => ⟨(e d hd).1, (e d hd).2.1⟩)]
    exact h2 i hi
  · rw [gL, h3 fc d hf hd]
    apply Bool.eq_iff_iff.mpr
    rw [decide_eq_true_iff, decide_eq_true_iff]
    constructor
    · intro h; exact ⟨h.1, by rw [(e d h.1).2.2]; exact h.2⟩
    · intro h; exact ⟨h.1, by rw [← (e d h.1).2.2]; exact h.2⟩
  · obtain ⟨hg2, e4⟩ := eh hg
    rw [(e4 d hd).1, (e4 d hd).2.1, (e4 d hd).2.2, g (394 + 10 * o) (by omega)]
    exact h4 hg2 d hd
  · rw [e14] at hf
    obtain ⟨k, a1, a2⟩ := h8 x hf
    refine ⟨k, ?_, ?_⟩
    · unfold fmO
      rw [e18 18 (by omega) (by omega), e18 19 (by omega) (by omega), e18 20 (by omega) (by omega), e18 21 (by omega) (by omega), e18 22 (by omega) (by omega)]
      exact a1
    · unfold fhO
      rw [e18 19 (by omega) (by omega), e18 20 (by omega) (by omega), e18 21 (by omega) (by omega), e18 22 (by omega) (by omega), g 350 (by omega), g 351 (by omega), g 352 (by omega), g 353 (by omega)]
      exact a2
/-- the cache is right wherever its own cells, the forms and both floors are the same -/
theorem CIk.ch {t u : St} (h : CIk t) (g : ∀ x, (x = 305 ∨ x = 306 ∨ x = 311 ∨ x = 312 ∨ (350 ≤ x ∧ x ≤ 353) ∨ x = 380 ∨ x = 381 ∨ (390 ≤ x ∧ x ≤ 397) ∨ (400 ≤ x ∧ x ≤ 407)) → u.1 x = t.1 x) (g2 : u.2 311 = t.2 311) : CIk u := by
  obtain ⟨c1, c2, c3, c4⟩ := h
  refine ⟨by rw [g 311 (by omega)]; exact c1, by rw [g 311 (by omega)]; exact c2, fun f hf => by rw [g 381 (by omega)]; exact c3 f hf, fun o2 ho2 h9 => ?_⟩
  rw [g 311 (by omega)] at h9
  rw [g 311 (by omega), g (305 + o2) (by omega), g 381 (by omega), g 312 (by omega), g 380 (by omega), g2]
  refine ⟨(c4 o2 ho2 h9).1, fun h10 f hf h11 => ?_⟩
  obtain ⟨q1, M, n, k, q2, q3, q4, q5⟩ := (c4 o2 ho2 h9).2 h10 f hf h11
  refine ⟨q1, M, n, k, ⟨q2.1, ?_⟩, q3, ?_, q5⟩
  · unfold FH
    rw [g (305 + o2) (by omega), g (390 + 10 * o2) (by omega), g (391 + 10 * o2) (by omega), g (392 + 10 * o2) (by omega), g (397 + 10 * o2) (by omega)]
    exact q2.2
  · unfold fhO
    rw [g 350 (by omega), g 351 (by omega), g 352 (by omega), g 353 (by omega)]
    exact q4
theorem HTb.fr {t u : St} {S : Nat} {pl : Nat → Nat} (h : HTb t S pl) (e1 : u.1 431 = t.1 431) (e2 : u.2 430 = t.2 430) : HTb u S pl := by
  unfold HTb ky9 at h ⊢
  rw [e1, e2]
  exact h
theorem SSr.fr {n S e : Nat} {pl : Nat → Nat} {t m u v : St} (h : SSr n S e pl t m) (e1 : u.1 431 = t.1 431) (e2 : u.2 430 = t.2 430) (e3 : u.1 310 11 = t.1 310 11 ∧ u.1 310 13 = t.1 310 13) (f1 : v.1 92 = m.1 92) (f2 : v.1 47 = m.1 47 ∧ v.1 48 = m.1 48 ∧ v.1 49 = m.1 49) (f3 : v.1 200 89 = m.1 200 89 ∧ v.1 200 90 = m.1 200 90 ∧ v.1 200 99 = m.1 200 99) : SSr n S e pl u v := by
  obtain ⟨h1, h2, h3, h4, h5⟩ := h
  refine ⟨h1.fr e1 e2, by rw [e3.1, f3.2.1]; exact h2, by rw [e3.2, f3.1]; exact h3, fun s hs => (h4 s hs).fr (fun j _ => by rw [e2]) (fun d _ => by rw [f1]), ?_⟩
  unfold AIs aimR at h5 ⊢
  rw [f1, f2.1, f2.2.1, f2.2.2, f3.2.2]
  exact h5
/-- a search under way -/
def WDr (n w S e : Nat) (pl : Nat → Nat) (t m : St) : Prop := (BK0 t m ∧ LIn t ∧ SSr n S e pl t m) ∧ (t.1 310 12 = w ∧ m.1 200 98 = w ∧ (w : Int) ≤ m.1 200 17) ∧ (m.1 200 37 = n ∧ m.1 200 54 = 0) ∧ ∀ d, d < n → ok4 (m.1 47 d) ∧ ok4 (m.1 48 d) ∧ 0 ≤ m.1 49 d ∧ m.1 49 d ≤ 3
/-- the hall's trial floor shows a state -/
def FL1 (n s : Nat) (t m : St) : Prop := ∃ mm : St, EVr 1 t mm n ∧ (∀ d, d < n → mm.1 38 d = stX m s d ∧ mm.1 39 d = stY m s d ∧ mm.1 40 d = stW m s d) ∧ (∀ a, 18 ≤ a → a ≤ 22 → mm.1 a = m.1 a) ∧ mm.1 200 14 = m.1 200 14
/-- what trying leaves of both -/
def SHf (t u : St) : Prop := (∀ x, x ≠ 304 → x ≠ 310 → x ≠ 311 → (x < 372 ∨ 383 < x) → x ≠ 431 → x ≠ 432 → u.1 x = t.1 x) ∧ (∀ b, b < 11 → u.1 304 b = t.1 304 b) ∧ (∀ y, y ≠ 11 → y ≠ 13 → u.1 310 y = t.1 310 y) ∧ (∀ b, b ≠ 3 → b ≠ 4 → b ≠ 9 → u.1 311 b = t.1 311 b) ∧ (∀ x, x ≠ 384 → x ≠ 370 → x ≠ 371 → x ≠ 311 → x ≠ 430 → x ≠ 436 → u.2 x = t.2 x)
def SMf (m v : St) : Prop := (∀ x, (x < 38 ∨ 41 < x) → (x < 74 ∨ 81 < x) → x ≠ 86 → x ≠ 87 → (x < 92 ∨ 94 < x) → x ≠ 200 → v.1 x = m.1 x) ∧ (∀ b, b ≠ 42 → b ≠ 43 → (b < 70 ∨ 75 < b) → (b < 82 ∨ 85 < b) → b ≠ 88 → b ≠ 89 → b ≠ 90 → b ≠ 99 → b ≠ 114 → v.1 200 b = m.1 200 b) ∧ (∀ x, x ≠ 73 → v.2 x = m.2 x)
theorem SHf.rf {t : St} : SHf t t := ⟨fun _ _ _ _ _ _ _ => rfl, fun _ _ => rfl, fun _ _ _ => rfl, fun _ _ _ _ => rfl, fun _ _ _ _ _ _ _ => rfl⟩
theorem SMf.rf {t : St} : SMf t t := ⟨fun _ _ _ _ _ _ _ => rfl, fun _ _ _ _ _ _ _ _ _ _ => rfl, fun _ _ => rfl⟩
theorem SHf.tr {t u v : St} (h : SHf t u) (g : SHf u v) : SHf t v := ⟨fun x h1 h2 h3 h4 h5 h6 => (g.1 x h1 h2 h3 h4 h5 h6).trans (h.1 x h1 h2 h3 h4 h5 h6), fun b hb => (g.2.1 b hb).trans (h.2.1 b hb), fun y h1 h2 => (g.2.2.1 y h1 h2).trans (h.2.2.1 y h1 h2), fun b h1 h2 h3 => (g.2.2.2.1 b h1 h2 h3).trans (h.2.2.2.1 b h1 h2 h3), fun x h1 h2 h3 h4 h5 h6 => (g.2.2.2.2 x h1 h2 h3 h4 h5 h6).trans (h.2.2.2.2 x h1 h2 h3 h4 h5 h6)⟩
theorem SMf.tr {t u v : St} (h : SMf t u) (g : SMf u v) : SMf t v := ⟨fun x h1 h2 h3 h4 h5 h6 => (g.1 x h1 h2 h3 h4 h5 h6).trans (h.1 x h1 h2 h3 h4 h5 h6), fun b h1 h2 h3 h4 h5 h6 h7 h8 h9 => (g.2.1 b h1 h2 h3 h4 h5 h6 h7 h8 h9).trans (h.2.1 b h1 h2 h3 h4 h5 h6 h7 h8 h9), fun x h1 => (g.2.2 x h1).trans (h.2.2 x h1)⟩
theorem SHf.k {t u : St} (g : hk5 t u) : SHf t u := ⟨fun x h1 _ h3 h4 _ _ => g.1 x h1 h3 h4, g.2.1, fun y _ _ => by rw [g.1 310 (by decide) (by decide) (by decide)], g.2.2.1, fun x h1 h2 h3 h4 _ _ => g.2.2.2 x h1 h2 h3 h4⟩
theorem SMf.k {m v : St} (g : mk5 m v) : SMf m v := ⟨fun x _ h2 h3 h4 _ h6 => g.1 x (by omega) (by omega) (by omega) (by omega) (by omega) (by omega) (by omega) h3 h4 h6, fun b _ _ h3 h4 h5 _ _ _ h9 => g.2.1 b (by omega) (by omega) (by omega) (by omega) (by omega) (by omega) (by omega) (by omega) h5 h9, fun x h1 => g.2.2 x h1⟩
theorem SHf.m {t u : St} (g : MTf t u) : SHf t u := ⟨fun x _ h2 _ _ h5 _ => g.1 x h2 h5, fun b _ => by rw [g.1 304 (by decide) (by decide)], g.2.1, fun b _ _ _ => by rw [g.1 311 (by decide) (by decide)], fun x _ _ _ _ h5 _ => g.2.2 x h5⟩
theorem SMf.m {m v : St} {S : Nat} (g : MMf m v S) : SMf m v := ⟨fun x _ _ _ _ h5 h6 => g.1 x (by omega) (by omega) h6, fun b _ _ _ _ _ h6 h7 h8 _ => g.2.1 b h6 h7 h8, fun x _ => by rw [g.2.2.1]⟩
theorem BK0.sr {t u m v : St} (hB : BK0 t m) (g : SHf t u) (g2 : SMf m v) : BK0 u v := by
  have f : ∀ x, (x = 302 ∨ (312 ≤ x ∧ x ≤ 314) ∨ (350 ≤ x ∧ x ≤ 363)) → u.1 x = t.1 x := fun x hx => g.1 x (by omega) (by omega) (by omega) (by omega) (by omega) (by omega)
  have e : ∀ b, b < 42 → v.1 200 b = m.1 200 b := fun b hb => g2.2.1 b (by omega) (by omega) (by omega) (by omega) (by omega) (by omega) (by omega) (by omega) (by omega)
  exact hB.mv (fun x y hx _ => by rw [f x hx]) (fun x y hx _ => by rw [g2.1 x (by omega) (by omega) (by omega) (by omega) (by omega) (by omega)]) (fun s x hs _ => by rw [g.2.2.2.2 (340 + s) (by omega) (by omega) (by omega) (by omega) (by omega) (by omega)]) ⟨by rw [f 312 (by omega)], by rw [f 313 (by omega)], by rw [f 314 (by omega)]⟩ ⟨by rw [f 302 (by omega)], by rw [f 302 (by omega)], by rw [f 302 (by omega)]⟩ ⟨e 13 (by omega), e 14 (by omega), e 15 (by omega), e 16 (by omega), e 17 (by omega), e 33 (by omega)⟩
/-- the trial floor still shows the state -/
theorem FL1.fr {n s : Nat} {t m u v : St} (h : FL1 n s t m) (g : SHf t u) (gC : CIk u) (g2 : SMf m v) (e92 : ∀ d, d < n → v.1 92 (16 * s + d) = m.1 92 (16 * s + d)) : FL1 n s u v := by
  obtain ⟨mm, h1, h2, h3, h4⟩ := h
  refine ⟨mm, h1.ch (fun x hx => g.1 x (by omega) (by omega) (by omega) (by omega) (by omega) (by omega)) (g.2.2.2.2 406 (by decide) (by decide) (by decide) (by decide) (by decide) (by decide)) gC (fun _ _ => ⟨rfl, rfl, rfl⟩) (fun hg => ⟨hg, fun _ _ => ⟨rfl, rfl, rfl⟩⟩) (fun _ _ _ => rfl) rfl rfl, fun d hd => ?_, fun a z1 z2 => ?_, ?_⟩
  · unfold stX stY stW; rw [e92 d hd]; exact h2 d hd
  · rw [h3 a z1 z2, g2.1 a (by omega) (by omega) (by omega) (by omega) (by omega) (by omega)]
  · rw [h4, g2.2.1 14 (by omega) (by omega) (by omega) (by omega) (by omega) (by omega) (by omega) (by omega) (by omega)]
section
variable {N n w S e s : Nat} {pl : Nat → Nat} {t m : St}
/-- the model shows the state: the relation to the trial floor -/
theorem FL1.sh {v : St} (hL : FL1 n s t m) (h37 : m.1 200 37 = n) (h54 : m.1 200 54 = 0) (g1 : ∀ a, (a < 38 ∨ 40 < a) → a ≠ 94 → v.1 a = m.1 a) (g2 : ∀ d, d < n → v.1 38 d = stX m s d ∧ v.1 39 d = stY m s d ∧ v.1 40 d = stW m s d) : EVr 1 t v n := by
  obtain ⟨mm, h1, h2, h3, h4⟩ := hL
  have e200 : v.1 200 = m.1 200 := g1 200 (by omega) (by omega)
  refine h1.ch (fun _ _ => rfl) rfl h1.2.2.2.2.2.1 (fun d hd => ?_) (fun hg => ?_) (fun a z1 z2 => ?_) ?_ ?_
  · have a1 := h2 d hd
    have a2 := g2 d hd
    rw [a2.1, a2.2.1, a2.2.2, a1.1, a1.2.1, a1.2.2]
    exact ⟨rfl, rfl, rfl⟩
  · exfalso
    unfold hGd at hg
    rw [e200, h54] at hg
    omega
  · rw [h3 a z1 z2, g1 a (by omega) (by omega)]
  · rw [e200, h37]; exact h1.2.1.1.1.symm
  · rw [e200, h4]
set_option maxHeartbeats 1000000 in
theorem wi_one {l x : Nat} (hN : 100000 ≤ N) (hn : 1 ≤ n ∧ n ≤ 16) (hW : WDr n w S e pl t m) (hL : FL1 n s t m) (hs : s < S) (hx : x < w) (hLb : t.1 304 11 ≤ 1900000000) :
    ∃ (u v : St), SHf t u ∧ SMf m v ∧ CIk u ∧ u.1 304 11 ≤ t.1 304 11 + 64 ∧ ((∀ y, y ≠ 32 * s + x → u.1 432 y = t.1 432 y) ∧ (∀ y, y ≠ 32 * s + x → v.1 94 y = m.1 94 y)) ∧
      (((∀ K K' : St → Option (Int × St), ∀ q r : Nat, f_X9_widen_L40 N K n s (q + 1) x t = some (0, u) ∧ f_X12_levelBehind_L28 N K' l s (r + 1) x m = some (0, v)) ∧ WDr n w S e pl u v) ∨
       ((∀ K K' : St → Option (Int × St), ∀ q r : Nat, f_X9_widen_L40 N K n s (q + 1) x t = f_X9_widen_L40 N K n s q ((x + 1 : Nat) : Int) u ∧ f_X12_levelBehind_L28 N K' l s (r + 1) x m = f_X12_levelBehind_L28 N K' l s r ((x + 1 : Nat) : Int) v) ∧
        ∃ (S2 e2 : Nat) (pl2 : Nat → Nat), WDr n w S2 e2 pl2 u v ∧ FL1 n s u v ∧ (S ≤ S2 ∧ S2 ≤ S + 1 ∧ e2 + S = e + S2) ∧ (u.1 432 (32 * s + x) = v.1 94 (32 * s + x) ∧ (v.1 94 (32 * s + x) = -1 ∨ (0 ≤ v.1 94 (32 * s + x) ∧ v.1 94 (32 * s + x) < S2))) ∧ (∀ z, z < S → v.1 93 z = m.1 93 z) ∧ (∀ z, S ≤ z → z < S2 → v.1 93 z = ((l + 1 : Nat) : Int) ∧ v.1 94 (32 * s + x) = z) ∧ (∀ y, y < 16 * S → v.1 92 y = m.1 92 y))) := by
  have hW0 := hW
  obtain ⟨⟨hB, hLI, hSS⟩, ⟨w1, w2, w3⟩, ⟨h37, h54⟩, hA⟩ := hW
  have hBn := hB.2.1
  have hS2000 := hSS.1.1
  have hrow := hSS.2.2.2.1 s hs
  have h32 : w ≤ 32 := by obtain ⟨_, _, n9, _⟩ := hBn; omega
  obtain ⟨m1, a1, a2, a3, a4⟩ := m_shows (N := N) (s := s) hn.2 (by omega) h37 hrow.rg (by omega)
  generalize hm2 : pI m1 94 (32 * s + x) (-1) = m2
  have m2o : ∀ a, (a < 38 ∨ 40 < a) → a ≠ 94 → m2.1 a = m.1 a := fun a z1 z2 => by rw [← hm2, pI_ne z2, a2 a z1]
  have m2f : ∀ d, d < n → m2.1 38 d = stX m s d ∧ m2.1 39 d = stY m s d ∧ m2.1 40 d = stW m s d := fun d hd => by rw [← hm2, pI_ne (by decide), pI_ne (by decide), pI_ne (by decide)]; exact a3 d hd
  have m2L : m2.2 = m.2 := by rw [← hm2]; exact a4
  have m294 : ∀ y, y ≠ 32 * s + x → m2.1 94 y = m.1 94 y := fun y hy => by rw [← hm2, pI_nf hy, a2 94 (by omega)]
  have m294x : m2.1 94 (32 * s + x) = -1 := by rw [← hm2, pI_at]
  have sm2 : SMf m m2 := ⟨fun y z1 _ _ _ z5 _ => m2o y (by omega) (by omega), fun b _ _ _ _ _ _ _ _ _ => by rw [m2o 200 (by omega) (by omega)], fun y _ => by rw [m2L]⟩
  have hE2 : EVr 1 t m2 n := hL.sh h37 h54 m2o m2f
  have hB2 : BK0 t m2 := hB.sr SHf.rf sm2
  obtain ⟨a, c, ⟨q1, q2, q3⟩, u, z, ⟨k1, k2, k3, k4, k5⟩, k6⟩ := al_both (N := N) (o := 1) (i := x) hN hB2 hE2 hn.1 (by rw [m2o 200 (by omega) (by omega)]; omega) hLI hLb
  have hev := hE2.ev (N := N)
  have mz := SMf.k k3
  have hz94 : z.1 94 = m2.1 94 := k3.1 94 (by decide) (by decide) (by decide) (by decide) (by decide) (by decide) (by decide) (by decide) (by decide) (by decide)
  have hz92 : z.1 92 = m.1 92 := by rw [k3.1 92 (by decide) (by decide) (by decide) (by decide) (by decide) (by decide) (by decide) (by decide) (by decide) (by decide), m2o 92 (by omega) (by omega)]
  have hz93 : z.1 93 = m.1 93 := by rw [k3.1 93 (by decide) (by decide) (by decide) (by decide) (by decide) (by decide) (by decide) (by decide) (by decide) (by decide), m2o 93 (by omega) (by omega)]
  have hzb : ∀ b, (b < 70 ∨ 75 < b) → (b < 82 ∨ 85 < b) → b ≠ 88 → b ≠ 114 → z.1 200 b = m.1 200 b := fun b z1 z2 z3 z4 => by rw [k3.2.1 b (by omega) (by omega) (by omega) (by omega) (by omega) (by omega) (by omega) (by omega) z3 z4, m2o 200 (by omega) (by omega)]
  have hu4 : u.1 432 = t.1 432 := k1.1 432 (by decide) (by decide) (by decide)
  have hmod : ∀ K' : St → Option (Int × St), ∀ r : Nat, f_X12_levelBehind_L28 N K' l s (r + 1) x m = (bdI (f_X12_reckons N c (evb n) m2) fun v23 t22 => cmpI v23 0 (if v23 = 0 then (f_X12_levelBehind_L28 N K' l s r ((x : Int) + 1) t22) else (bdV (f_X12_settles N t22) fun t26 => bdI (f_X12_stateAtHand N t26) fun v28 t27 => cmpI v28 (-1) (if v28 = (-1) then (bdI (f_X12_meets N ((l : Int) + 1) t27) fun v35 t34 => cmpI v35 0 (if v35 = 0 then (boI 0 (some (0, t34))) else (ixI ((32 * (s : Int)) + x) 64000 (f_X12_levelBehind_L28 N K' l s r ((x : Int) + 1) (pI t34 94 ((32 * (s : Int)) + x).toNat (t27.1 200 90)))))) else (ixI ((32 * (s : Int)) + x) 64000 (f_X12_levelBehind_L28 N K' l s r ((x : Int) + 1) (pI t27 94 ((32 * (s : Int)) + x).toNat v28))))))) := by
    intro K' r
    conv => lhs; unfold f_X12_levelBehind_L28
    simp only [lt1_k, jn1_k]
    rw [w2, cmpI_ok (by omega), if_pos (by omega), a1, bdV_s, ixI_ok (by omega), show (32 * (s : Int) + (x : Int)).toNat = 32 * s + x by omega, hm2, ixI_ok (by omega), Int.toNat_natCast, q2, hev.2, bdL_s]
  have hhal : ∀ K : St → Option (Int × St), ∀ q : Nat, f_X9_widen_L40 N K n s (q + 1) x t = (bdI (f_X1_attempt N 1 a (evb n) t) fun v21 t20 => cmpI v21 0 (if v21 = 0 then (bdV (f_X9_pack N 376 64 n t20) fun t26 => bdI (f_X9_meet N t26) fun v28 t27 => cmpI v28 0 (if v28 < 0 then (boI 0 (some (0, t27))) else (ixI (((s : Int) * 32) + x) 64000 (f_X9_widen_L40 N K n s q ((x : Int) + 1) (pI t27 432 (((s : Int) * 32) + x).toNat (b16 (b16 v28))))))) else (ixI (((s : Int) * 32) + x) 64000 (f_X9_widen_L40 N K n s q ((x : Int) + 1) (pI t20 432 (((s : Int) * 32) + x).toNat (b16 (b16 (-1)))))))) := by
    intro K q
    conv => lhs; unfold f_X9_widen_L40
    simp only [lt1_k, jn1_k]
    rw [w1, cmpI_ok (by omega), if_pos (by omega), ixI_ok (by omega), Int.toNat_natCast, q1, hev.1, bdL_s]
  rcases k6 with ⟨r9, r1, r2, r3, _⟩ | ⟨r1, r2, r3, p, p1, p2, p3, p4, p5⟩
  · -- it cannot be danced
    refine ⟨pI u 432 (32 * s + x) (-1), z, (SHf.k k1).tr ⟨fun y _ _ _ _ _ z6 => pI_ne z6, fun b _ => by rw [pI_ne (by decide)], fun y _ _ => by rw [pI_ne (by decide)], fun b _ _ _ => by rw [pI_ne (by decide)], fun _ _ _ _ _ _ _ => rfl⟩, sm2.tr mz, k2.ch (fun y hy => pI_ne (by omega)) rfl, by rw [pI_ne (by decide)]; exact k5, ⟨fun y hy => by rw [pI_nf hy, hu4], fun y hy => by rw [hz94, m294 y hy]⟩, Or.inr ⟨fun K K' q r => ⟨?_, ?_⟩, S, e, pl, ?_, ?_, ⟨by omega, by omega, by omega⟩, ⟨by rw [pI_at, hz94, m294x], Or.inl (by rw [hz94, m294x])⟩, fun y _ => by rw [hz93], fun y z1 z2 => by omega, fun y _ => by rw [hz92]⟩⟩
    · rw [hhal, r2, bdI_s, cmpI_ok (by omega), if_neg (by omega), ixI_ok (by omega), show (((s : Int) * 32) + (x : Int)).toNat = 32 * s + x by omega, show b16 (b16 (-1)) = -1 from by decide, show (x : Int) + 1 = ((x + 1 : Nat) : Int) by omega]
    · rw [hmod, r3, bdI_s, cmpI_ok (by omega), if_pos rfl, show (x : Int) + 1 = ((x + 1 : Nat) : Int) by omega]
    · have hu3 : SHf t (pI u 432 (32 * s + x) (-1)) := (SHf.k k1).tr ⟨fun y _ _ _ _ _ z6 => pI_ne z6, fun b _ => by rw [pI_ne (by decide)], fun y _ _ => by rw [pI_ne (by decide)], fun b _ _ _ => by rw [pI_ne (by decide)], fun _ _ _ _ _ _ _ => rfl⟩
      have hu310 : (pI u 432 (32 * s + x) (-1)).1 310 = t.1 310 := by rw [pI_ne (by decide), k1.1 310 (by decide) (by decide) (by decide)]
      refine ⟨⟨hB.sr hu3 (sm2.tr mz), k4.f (by rw [pI_ne (by decide)]) (by rw [pI_ne (by decide)]), hSS.fr (by rw [pI_ne (by decide), k1.1 431 (by decide) (by decide) (by decide)]) (by rw [pI_L, k1.2.2.2 430 (by decide) (by decide) (by decide) (by decide)]) ⟨by rw [hu310], by rw [hu310]⟩ hz92 ?_ ⟨hzb 89 (by omega) (by omega) (by omega) (by omega), hzb 90 (by omega) (by omega) (by omega) (by omega), hzb 99 (by omega) (by omega) (by omega) (by omega)⟩⟩, ⟨by rw [hu310]; exact w1, by rw [hzb 98 (by omega) (by omega) (by omega) (by omega)]; exact w2, by rw [hzb 17 (by omega) (by omega) (by omega) (by omega)]; exact w3⟩, ⟨by rw [hzb 37 (by omega) (by omega) (by omega) (by omega)]; exact h37, by rw [hzb 54 (by omega) (by omega) (by omega) (by omega)]; exact h54⟩, ?_⟩
      · exact ⟨(sm2.tr mz).1 47 (by omega) (by omega) (by omega) (by omega) (by omega) (by omega), (sm2.tr mz).1 48 (by omega) (by omega) (by omega) (by omega) (by omega) (by omega), (sm2.tr mz).1 49 (by omega) (by omega) (by omega) (by omega) (by omega) (by omega)⟩
      · rw [(sm2.tr mz).1 47 (by omega) (by omega) (by omega) (by omega) (by omega) (by omega), (sm2.tr mz).1 48 (by omega) (by omega) (by omega) (by omega) (by omega) (by omega), (sm2.tr mz).1 49 (by omega) (by omega) (by omega) (by omega) (by omega) (by omega)]
        exact hA
    · exact hL.fr ((SHf.k k1).tr ⟨fun y _ _ _ _ _ z6 => pI_ne z6, fun b _ => by rw [pI_ne (by decide)], fun y _ _ => by rw [pI_ne (by decide)], fun b _ _ _ => by rw [pI_ne (by decide)], fun _ _ _ _ _ _ _ => rfl⟩) (k2.ch (fun y hy => pI_ne (by omega)) rfl) (sm2.tr mz) (fun d _ => by rw [hz92])
  · -- it is danced
    have h24 : ∀ F : Nat, (F : Int) < m.1 200 15 → 0 ≤ z.1 24 F ∧ z.1 24 F ≤ 64 := fun F hF => by
      rw [(sm2.tr mz).1 24 (by omega) (by omega) (by omega) (by omega) (by omega) (by omega)]
      obtain ⟨f, k, _, _, _, z4, _⟩ := hB.2.2.2.1 F hF
      omega
    have hm15 : m2.1 200 15 = m.1 200 15 := by rw [m2o 200 (by omega) (by omega)]
    have hFz : fmF z n := by
      unfold fmF
      rw [k3.2.1 37 (by decide) (by decide) (by decide) (by decide) (by decide) (by decide) (by decide) (by decide) (by decide) (by decide), k3.1 38 (by decide) (by decide) (by decide) (by decide) (by decide) (by decide) (by decide) (by decide) (by decide) (by decide), k3.1 39 (by decide) (by decide) (by decide) (by decide) (by decide) (by decide) (by decide) (by decide) (by decide) (by decide), k3.1 40 (by decide) (by decide) (by decide) (by decide) (by decide) (by decide) (by decide) (by decide) (by decide) (by decide)]
      exact hE2.2.1.1
    obtain ⟨m4, s1, s2, s3, s4, _, _, s7, _⟩ := s_settles (N := N) (n := n) (p := p) (w := z) (Fg := m.1 200 15) hFz p2 p3 (fun j hj => by have := p5 j hj; omega) (by obtain ⟨_, _, n9, _⟩ := hBn; omega) h24 (fun d hd => by have := r3.1 d hd; omega) (by omega)
    have hF4 : fmF m4 n := ⟨by rw [s4 37 (by decide) (by decide), hzb 37 (by omega) (by omega) (by omega) (by omega)]; exact h37, FXs_cong r3.2 (fun d hd => ⟨(s2 d hd).1, (s2 d hd).2.1, (s2 d hd).2.2.1⟩)⟩
    have hsm4 : ∀ d, d < n → m4.1 38 d ≤ 60 ∧ m4.1 39 d ≤ 60 := fun d hd => by
      have l1 := rk9_lt (R := z.1 76) (d := d) n hd
      have l2 := rk9_lt (R := z.1 77) (d := d) n hd
      rw [(s2 d hd).1, (s2 d hd).2.1]
      omega
    have sm4 : SMf m m4 := (sm2.tr mz).tr ⟨fun y z1 _ _ _ _ z6 => s3 y z1 z6, fun b z1 z2 _ _ _ _ _ _ _ => s4 b z1 z2, fun y _ => by rw [s7]⟩
    have hcod : ∀ d, d < n → u.1 376 d = cdZ (m4.1 38 d) (m4.1 39 d) (m4.1 40 d) ∧ 0 ≤ cdZ (m4.1 38 d) (m4.1 39 d) (m4.1 40 d) ∧ cdZ (m4.1 38 d) (m4.1 39 d) (m4.1 40 d) < 16384 := fun d hd => by
      have h3 := hF4.2.2.1 d hd
      refine ⟨?_, cdZ_rng h3.1 h3.2.1 h3.2.2⟩
      rw [(s2 d hd).1, (s2 d hd).2.1, (s2 d hd).2.2.1]
      exact (r3.1 d hd).1
    obtain ⟨u1, b1, b2, b3, b4⟩ := h_pack (N := N) (C := fun d => cdZ (m4.1 38 d) (m4.1 39 d) (m4.1 40 d)) (q0 := 376) (n0 := 64) (n := n) (t := u) (by omega) hcod (by omega)
    have m492 : m4.1 92 = m.1 92 := by rw [s3 92 (by omega) (by decide), hz92]
    have m494 : m4.1 94 = m2.1 94 := by rw [s3 94 (by omega) (by decide), hz94]
    have m493 : m4.1 93 = m.1 93 := by rw [s3 93 (by omega) (by decide), hz93]
    have m4b : ∀ b, b ≠ 42 → b ≠ 43 → (b < 70 ∨ 75 < b) → (b < 82 ∨ 85 < b) → b ≠ 88 → b ≠ 114 → m4.1 200 b = m.1 200 b := fun b z1 z2 z3 z4 z5 z6 => by rw [s4 b z1 z2, hzb b z3 z4 z5 z6]
    have u1h : SHf t u1 := (SHf.k k1).tr ⟨fun y _ _ _ _ _ _ => by rw [b2], fun b _ => by rw [b2], fun y _ _ => by rw [b2], fun b _ _ _ => by rw [b2], fun y _ _ _ _ _ z6 => b3 y z6⟩
    have u1C : CIk u1 := k2.ch (fun y hy => by rw [b2]) (b3 311 (by decide))
    have e47 : m4.1 47 = m.1 47 ∧ m4.1 48 = m.1 48 ∧ m4.1 49 = m.1 49 := ⟨sm4.1 47 (by omega) (by omega) (by omega) (by omega) (by omega) (by omega), sm4.1 48 (by omega) (by omega) (by omega) (by omega) (by omega) (by omega), sm4.1 49 (by omega) (by omega) (by omega) (by omega) (by omega) (by omega)⟩
    have u1310 : u1.1 310 = t.1 310 := by rw [b2, k1.1 310 (by decide) (by decide) (by decide)]
    have hSS4 : SSr n S e pl u1 m4 := hSS.fr (by rw [b2, k1.1 431 (by decide) (by decide) (by decide)]) (by rw [b3 430 (by decide), k1.2.2.2 430 (by decide) (by decide) (by decide) (by decide)]) ⟨by rw [u1310], by rw [u1310]⟩ m492 e47 ⟨m4b 89 (by omega) (by omega) (by omega) (by omega) (by omega) (by omega), m4b 90 (by omega) (by omega) (by omega) (by omega) (by omega) (by omega), m4b 99 (by omega) (by omega) (by omega) (by omega) (by omega) (by omega)⟩
    have hA4 : ∀ d, d < n → ok4 (m4.1 47 d) ∧ ok4 (m4.1 48 d) ∧ 0 ≤ m4.1 49 d ∧ m4.1 49 d ≤ 3 := by rw [e47.1, e47.2.1, e47.2.2]; exact hA
    have LI1 : LIn u1 := k4.f (by rw [b2]) (by rw [b2])
    have u14 : u1.1 432 = t.1 432 := by rw [b2, hu4]
    have m490 : m4.1 200 90 = S := hSS4.2.1.2
    have big : u1.1 304 11 ≤ t.1 304 11 + 64 := by rw [b2]; exact k5
    have wd : ∀ (u2 v2 : St) (S2 e2 : Nat) (pl2 : Nat → Nat), SHf u1 u2 → SMf m4 v2 → SSr n S2 e2 pl2 u2 v2 → u2.1 304 11 = u1.1 304 11 → u2.1 378 = u1.1 378 → WDr n w S2 e2 pl2 u2 v2 := by
      intro u2 v2 S2 e2 pl2 g1 g2 g3 g4 g5
      have gh := u1h.tr g1
      have gm := sm4.tr g2
      refine ⟨⟨hB.sr gh gm, LI1.f g4 g5, g3⟩, ⟨by rw [gh.2.2.1 12 (by decide) (by decide)]; exact w1, by rw [gm.2.1 98 (by omega) (by omega) (by omega) (by omega) (by omega) (by omega) (by omega) (by omega) (by omega)]; exact w2, by rw [gm.2.1 17 (by omega) (by omega) (by omega) (by omega) (by omega) (by omega) (by omega) (by omega) (by omega)]; exact w3⟩, ⟨by rw [gm.2.1 37 (by omega) (by omega) (by omega) (by omega) (by omega) (by omega) (by omega) (by omega) (by omega)]; exact h37, by rw [gm.2.1 54 (by omega) (by omega) (by omega) (by omega) (by omega) (by omega) (by omega) (by omega) (by omega)]; exact h54⟩, ?_⟩
      rw [gm.1 47 (by omega) (by omega) (by omega) (by omega) (by omega) (by omega), gm.1 48 (by omega) (by omega) (by omega) (by omega) (by omega) (by omega), gm.1 49 (by omega) (by omega) (by omega) (by omega) (by omega) (by omega)]
      exact hA
    have hhal2 : ∀ K : St → Option (Int × St), ∀ q : Nat, f_X9_widen_L40 N K n s (q + 1) x t = (bdI (f_X9_meet N u1) fun v28 t27 => cmpI v28 0 (if v28 < 0 then (boI 0 (some (0, t27))) else (ixI (((s : Int) * 32) + x) 64000 (f_X9_widen_L40 N K n s q ((x : Int) + 1) (pI t27 432 (((s : Int) * 32) + x).toNat (b16 (b16 v28))))))) := by
      intro K q
      rw [hhal, r1, bdI_s, cmpI_ok (by omega), if_pos rfl, b1, bdV_s]
    have hmod2 : ∀ K' : St → Option (Int × St), ∀ r : Nat, f_X12_levelBehind_L28 N K' l s (r + 1) x m = (bdI (f_X12_stateAtHand N m4) fun v28 t27 => cmpI v28 (-1) (if v28 = (-1) then (bdI (f_X12_meets N ((l : Int) + 1) t27) fun v35 t34 => cmpI v35 0 (if v35 = 0 then (boI 0 (some (0, t34))) else (ixI ((32 * (s : Int)) + x) 64000 (f_X12_levelBehind_L28 N K' l s r ((x : Int) + 1) (pI t34 94 ((32 * (s : Int)) + x).toNat (t27.1 200 90)))))) else (ixI ((32 * (s : Int)) + x) 64000 (f_X12_levelBehind_L28 N K' l s r ((x : Int) + 1) (pI t27 94 ((32 * (s : Int)) + x).toNat v28))))) := by
      intro K' r
      rw [hmod, r2, bdI_s, cmpI_ok (by omega), if_neg (by decide), s1, bdV_s]
    have en : (((s : Int) * 32) + (x : Int)).toNat = 32 * s + x := by omega
    have en2 : ((32 * (s : Int)) + (x : Int)).toNat = 32 * s + x := by omega
    have ex : (x : Int) + 1 = ((x + 1 : Nat) : Int) := by omega
    have hp432 : ∀ (g : St) (y : Int), SHf g (pI g 432 (32 * s + x) y) := fun g y => ⟨fun y _ _ _ _ _ z6 => pI_ne z6, fun b _ => by rw [pI_ne (by decide)], fun y _ _ => by rw [pI_ne (by decide)], fun b _ _ _ => by rw [pI_ne (by decide)], fun _ _ _ _ _ _ _ => rfl⟩
    have hp94 : ∀ (g : St) (y : Int), SMf g (pI g 94 (32 * s + x) y) := fun g y => ⟨fun y _ _ _ _ z5 _ => pI_ne (by omega), fun b _ _ _ _ _ _ _ _ _ => by rw [pI_ne (by decide)], fun _ _ => rfl⟩
    rcases meet_both (N := N) (l := l + 1) hn.2 hSS4 hF4 hsm4 b4 hA4 (by omega) with ⟨s9, c1, c2, c3⟩ | ⟨c1, c2, c3⟩ | ⟨c1, c2, u2, v2, pl2, c3, c4, c5, c6, c7, c8, c9⟩
    · refine ⟨pI u1 432 (32 * s + x) s9, pI m4 94 (32 * s + x) s9, u1h.tr (hp432 _ _), sm4.tr (hp94 _ _), u1C.ch (fun y hy => pI_ne (by omega)) rfl, by rw [pI_ne (by decide)]; exact big, ⟨fun y hy => by rw [pI_nf hy, u14], fun y hy => by rw [pI_nf hy, m494, m294 y hy]⟩, Or.inr ⟨fun K K' q r => ⟨?_, ?_⟩, S, e, pl, ?_, ?_, ⟨by omega, by omega, by omega⟩, ⟨by rw [pI_at, pI_at], Or.inr (by rw [pI_at]; omega)⟩, fun y _ => by rw [pI_ne (by decide), m493], fun y z1 z2 => by omega, fun y _ => by rw [pI_ne (by decide), m492]⟩⟩
      · rw [hhal2, c2, bdI_s, cmpI_ok (by omega), if_neg (by omega), ixI_ok (by omega), en, ex, show b16 (b16 (s9 : Int)) = (s9 : Int) from by unfold b16; omega]
      · rw [hmod2, c3, bdI_s, cmpI_ok (by omega), if_neg (by omega), ixI_ok (by omega), en2, ex]
      · exact wd _ _ S e pl (hp432 _ _) (hp94 _ _) (hSS4.fr (by rw [pI_ne (by decide)]) rfl ⟨by rw [pI_ne (by decide)], by rw [pI_ne (by decide)]⟩ (by rw [pI_ne (by decide)]) ⟨by rw [pI_ne (by decide)], by rw [pI_ne (by decide)], by rw [pI_ne (by decide)]⟩ ⟨by rw [pI_ne (by decide)], by rw [pI_ne (by decide)], by rw [pI_ne (by decide)]⟩) (by rw [pI_ne (by decide)]) (by rw [pI_ne (by decide)])
      · exact hL.fr (u1h.tr (hp432 _ _)) (u1C.ch (fun y hy => pI_ne (by omega)) rfl) (sm4.tr (hp94 _ _)) (fun d _ => by rw [pI_ne (by decide), m492])
    · refine ⟨u1, m4, u1h, sm4, u1C, big, ⟨fun y hy => by rw [u14], fun y hy => by rw [m494, m294 y hy]⟩, Or.inl ⟨fun K K' q r => ⟨?_, ?_⟩, wd _ _ S e pl SHf.rf SMf.rf hSS4 rfl rfl⟩⟩
      · rw [hhal2, c1, bdI_s, cmpI_ok (by omega), if_pos (by decide), boI_0]
      · rw [hmod2, c2, bdI_s, cmpI_ok (by omega), if_pos rfl, show (l : Int) + 1 = ((l + 1 : Nat) : Int) by omega, c3, bdI_s, cmpI_ok (by omega), if_pos rfl, boI_0]
    · have u2h := u1h.tr (SHf.m c7)
      have v2h := sm4.tr (SMf.m c8)
      have u2C : CIk u2 := u1C.ch (fun y hy => c7.1 y (by omega) (by omega)) (c7.2.2 311 (by decide))
      have v294 : v2.1 94 = m2.1 94 := by rw [c8.1 94 (by decide) (by decide) (by decide), m494]
      have u24 : u2.1 432 = t.1 432 := by rw [c7.1 432 (by decide) (by decide), u14]
      refine ⟨pI u2 432 (32 * s + x) S, pI v2 94 (32 * s + x) S, u2h.tr (hp432 _ _), v2h.tr (hp94 _ _), u2C.ch (fun y hy => pI_ne (by omega)) rfl, by rw [pI_ne (by decide), c7.1 304 (by decide) (by decide)]; exact big, ⟨fun y hy => by rw [pI_nf hy, u24], fun y hy => by rw [pI_nf hy, v294, m294 y hy]⟩, Or.inr ⟨fun K K' q r => ⟨?_, ?_⟩, S + 1, e + 1, pl2, ?_, ?_, ⟨by omega, by omega, by omega⟩, ⟨by rw [pI_at, pI_at], Or.inr (by rw [pI_at]; omega)⟩, fun y hy => by rw [pI_ne (by decide), c8.2.2.2.1 y (by omega), m493], fun y z1 z2 => ?_, fun y hy => by rw [pI_ne (by decide), c8.2.2.2.2 y hy, m492]⟩⟩
      · rw [hhal2, c3, bdI_s, cmpI_ok (by omega), if_neg (by omega), ixI_ok (by omega), en, ex, show b16 (b16 (S : Int)) = (S : Int) from by unfold b16; omega]
      · rw [hmod2, c4, bdI_s, cmpI_ok (by omega), if_pos rfl, show (l : Int) + 1 = ((l + 1 : Nat) : Int) by omega, c5, bdI_s, cmpI_ok (by omega), if_neg (by decide), ixI_ok (by omega), en2, ex, m490]
      · exact wd _ _ (S + 1) (e + 1) pl2 ((SHf.m c7).tr (hp432 _ _)) ((SMf.m c8).tr (hp94 _ _)) (c6.fr (by rw [pI_ne (by decide)]) rfl ⟨by rw [pI_ne (by decide)], by rw [pI_ne (by decide)]⟩ (by rw [pI_ne (by decide)]) ⟨by rw [pI_ne (by decide)], by rw [pI_ne (by decide)], by rw [pI_ne (by decide)]⟩ ⟨by rw [pI_ne (by decide)], by rw [pI_ne (by decide)], by rw [pI_ne (by decide)]⟩) (by rw [pI_ne (by decide), c7.1 304 (by decide) (by decide)]) (by rw [pI_ne (by decide), c7.1 378 (by decide) (by decide)])
      · exact hL.fr (u2h.tr (hp432 _ _)) (u2C.ch (fun y hy => pI_ne (by omega)) rfl) (v2h.tr (hp94 _ _)) (fun d hd => by rw [pI_ne (by decide), c8.2.2.2.2 _ (by omega), m492])
      · have hy : y = S := by omega
        rw [hy]
        exact ⟨by rw [pI_ne (by decide)]; exact c9, by rw [pI_at]⟩
end
