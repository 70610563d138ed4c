/-! resolve: both sides -/
theorem ld9_c {m v : St} (e : v.1 94 = m.1 94) (s i : Nat) : ld9 v s i = ld9 m s i := by unfold ld9; rw [e]
theorem onQ_c {m v : St} (e1 : v.1 94 = m.1 94) (e2 : v.1 93 = m.1 93) (e3 : v.2 95 = m.2 95) (s i : Nat) : onQ v s i ↔ onQ m s i := by
  unfold onQ
  rw [ld9_c e1, e2, e3]
theorem nsm_c {m v : St} (e1 : v.1 94 = m.1 94) (e2 : v.1 93 = m.1 93) (e3 : v.2 95 = m.2 95) (s : Nat) : ∀ i, nsm v s i = nsm m s i := by
  intro i
  induction i with
  | zero => rfl
  | succ i ih =>
    by_cases c : onQ m s i
    · rw [nsm_y c, nsm_y ((onQ_c e1 e2 e3 s i).mpr c), ih, ld9_c e1, e3]
    · rw [nsm_n c, nsm_n (fun h => c ((onQ_c e1 e2 e3 s i).mp h)), ih]
theorem SMz.c {m v : St} {w z : Nat} (h : SMz w m z) (e1 : v.1 94 = m.1 94) (e2 : v.1 93 = m.1 93) (e3 : v.2 95 = m.2 95) (e4 : v.1 96 = m.1 96) (e5 : v.1 97 = m.1 97) : SMz w v z := by
  obtain ⟨h1, h2⟩ := h
  refine ⟨by rw [e3, nsm_c e1 e2 e3]; exact h1, fun hn => ?_⟩
  rw [e3] at hn
  obtain ⟨i, i1, i2, i3⟩ := h2 hn
  exact ⟨i, i1, (onQ_c e1 e2 e3 z i).mpr i2, by rw [e4, e5, ld9_c e1]; exact i3⟩
theorem FXl.c {L S w : Nat} {B : Nat → Nat} {t m u v : St} (h : FXl L S w B t m) (f1 : u.1 433 = t.1 433) (f2 : u.1 432 = t.1 432) (f3 : ∀ i, i < w → u.1 362 i = t.1 362 i) (f4 : u.1 310 12 = t.1 310 12) (e1 : v.1 94 = m.1 94) (e2 : v.1 93 = m.1 93) (e5 : v.1 97 = m.1 97) : FXl L S w B u v := by
  obtain ⟨h1, h2, h3, h4, h5, h6, h7⟩ := h
  refine ⟨h1, h2, by rw [f1]; exact h3, by rw [e2]; exact h4, by rw [f2, e1]; exact h5, fun i hi => ?_, by rw [f4]; exact h7⟩
  rw [f3 i hi, e5]
  exact h6 i hi
theorem DNk.c {L S w a i : Nat} {B : Nat → Nat} {t m u v : St} (h : DNk L S w a i B t m) (f1 : u.1 433 = t.1 433) (f2 : u.1 432 = t.1 432) (f3 : ∀ i, i < w → u.1 362 i = t.1 362 i) (f4 : u.1 310 12 = t.1 310 12) (f5 : u.1 435 = t.1 435) (f6 : u.2 434 = t.2 434) (e1 : v.1 94 = m.1 94) (e2 : v.1 93 = m.1 93) (e3 : v.2 95 = m.2 95) (e4 : v.1 96 = m.1 96) (e5 : v.1 97 = m.1 97) (e6 : v.1 200 98 = m.1 200 98 ∧ v.1 200 90 = m.1 200 90) : DNk L S w a i B u v := by
  obtain ⟨h1, h2, h3, h4, h5, h6⟩ := h
  refine ⟨h1.c f1 f2 f3 f4 e1 e2 e5, by rw [e6.1, e6.2]; exact h2, fun j z j1 j2 j3 => ?_, by rw [e3, e4]; exact h4, fun z z1 z2 => (h5 z z1 z2).c e1 e2 e3 e4 e5, by rw [e3]; exact h6⟩
  unfold WY1
  rw [f6, f5, e3, e4]
  exact h3 j z j1 j2 j3
/-- rows were found -/
def FND (L S w a : Nat) (B : Nat → Nat) (t m : St) : Prop := DNk L S w a 0 B t m ∧ m.2 95 0 ≠ 0 ∧ (t.1 310 14 = L ∧ m.1 200 91 = L ∧ m.2 200 100 = m.2 95 0) ∧ (w : Int) ≤ m.1 200 17 ∧ ((t.1 310 16 = 0 ∧ m.1 200 101 = -1 ∧ 0 ≤ m.1 200 102 ∧ m.1 200 102 ≤ 12) ∨ (t.1 310 16 = 1 ∧ m.1 200 101 = L ∧ t.1 310 17 = m.1 200 102 ∧ 0 ≤ m.1 200 102 ∧ m.1 200 102 ≤ L ∧ ∀ i, i < L → t.1 438 i = m.1 103 i ∧ 0 ≤ m.1 103 i ∧ m.1 103 i < w))
/-- what the last search left -/
def GRs (t m : St) : Prop := (t.1 310 14 = -1 ∧ t.1 310 16 = 0 ∧ m.2 200 100 = 0 ∧ m.1 200 101 = -1 ∧ 0 ≤ m.1 200 102 ∧ m.1 200 102 ≤ 12) ∨ ∃ (L S w a : Nat) (B : Nat → Nat), FND L S w a B t m
theorem GRs.mv {t m u v : St} (h : GRs t m) (f1 : u.1 433 = t.1 433) (f2 : u.1 432 = t.1 432) (f3 : ∀ i : Nat, (i : Int) < m.1 200 17 → u.1 362 i = t.1 362 i) (f4 : ∀ b, b = 12 ∨ b = 14 ∨ b = 16 ∨ b = 17 → u.1 310 b = t.1 310 b) (f5 : u.1 435 = t.1 435) (f6 : u.2 434 = t.2 434) (f7 : u.1 438 = t.1 438) (e1 : ∀ a, a = 93 ∨ a = 94 ∨ a = 96 ∨ a = 97 ∨ a = 103 → v.1 a = m.1 a) (e3 : v.2 95 = m.2 95) (e6 : ∀ b, b = 90 ∨ b = 91 ∨ b = 98 ∨ b = 101 ∨ b = 102 → v.1 200 b = m.1 200 b) (e7 : m.1 200 17 ≤ v.1 200 17) (e8 : v.2 200 100 = m.2 200 100) : GRs u v := by
  rcases h with h | ⟨L, S, w, a, B, h1, h2, h3, h4, h5⟩
  · left
    rw [f4 14 (by omega), f4 16 (by omega), e8, e6 101 (by omega), e6 102 (by omega)]
    exact h
  · right
    refine ⟨L, S, w, a, B, h1.c f1 f2 (fun i hi => f3 i (by omega)) (f4 12 (by omega)) f5 f6 (e1 94 (by omega)) (e1 93 (by omega)) e3 (e1 96 (by omega)) (e1 97 (by omega)) ⟨e6 98 (by omega), e6 90 (by omega)⟩, by rw [e3]; exact h2, by rw [f4 14 (by omega), e6 91 (by omega), e8, e3]; exact h3, by omega, ?_⟩
    rw [f4 16 (by omega), f4 17 (by omega), e6 101 (by omega), e6 102 (by omega), f7, e1 103 (by omega)]
    exact h5
/-- what resolve leaves of the model -/
def RSm (m v : St) : Prop := (∀ x, (x < 38 ∨ 41 < x) → (x < 74 ∨ 81 < x) → x ≠ 86 → x ≠ 87 → (x < 92 ∨ 97 < x) → x ≠ 104 → x ≠ 200 → v.1 x = m.1 x) ∧ (∀ d, d < 64 → v.1 38 d = m.1 38 d ∧ v.1 39 d = m.1 39 d ∧ v.1 40 d = m.1 40 d ∧ v.1 41 d = m.1 41 d) ∧ (∀ b, (b < 70 ∨ 75 < b) → (b < 82 ∨ 85 < b) → (b < 88 ∨ 91 < b) → b ≠ 98 → b ≠ 99 → b ≠ 101 → b ≠ 114 → v.1 200 b = m.1 200 b) ∧ (∀ x, x ≠ 73 → x ≠ 95 → x ≠ 200 → v.2 x = m.2 x) ∧ ∀ b, b ≠ 100 → v.2 200 b = m.2 200 b
theorem BK0.rs {t u m v : St} (hB : BK0 t m) (g : SXh t u) (g2 : RSm m v) : BK0 u v := by
  have f : ∀ x, (x = 302 ∨ (312 ≤ x ∧ x ≤ 314) ∨ (350 ≤ x ∧ x ≤ 363)) → u.1 x = t.1 x := fun x hx => g.1 x (by omega) (by omega) (by omega) (by omega) (by omega) (by omega) (by omega)
  have e : ∀ b, b < 42 → v.1 200 b = m.1 200 b := fun b hb => g2.2.2.1 b (by omega) (by omega) (by omega) (by omega) (by omega) (by omega) (by omega)
  exact hB.mv (fun x y hx _ => by rw [f x hx]) (fun x y hx _ => by rw [g2.1 x (by omega) (by omega) (by omega) (by omega) (by omega) (by omega) (by omega)]) (fun s x hs _ => by rw [g.2.2.2.2.2 (340 + s) (by omega) (by omega) (by omega) (by omega) (by omega) (by omega) (by omega) (by omega)]) ⟨by rw [f 312 (by omega)], by rw [f 313 (by omega)], by rw [f 314 (by omega)]⟩ ⟨by rw [f 302 (by omega)], by rw [f 302 (by omega)], by rw [f 302 (by omega)]⟩ ⟨e 13 (by omega), e 14 (by omega), e 15 (by omega), e 16 (by omega), e 17 (by omega), e 33 (by omega)⟩
section
variable {N n : Nat} {t m : St}
/-- the model keeps its floor, searches, and takes the floor back -/
theorem m_search {e most : Nat} (hN : 100000 ≤ N) (hn : 1 ≤ n ∧ n ≤ 16) (hm : most ≤ 12) (h : SNd n e t m) :
    ∃ (u v : St) (S : Nat) (r : Int), SXh t u ∧ RSm m v ∧ (CIk u ∧ FLr 1 u ∧ LIn u) ∧ (u.1 304 11 ≤ t.1 304 11 + 2048 * (S : Int) ∧ 0 ≤ u.1 306 9 ∧ u.1 306 9 ≤ t.1 306 9 + (S : Int)) ∧ (u.1 310 13 = ((e + S : Nat) : Int) ∧ v.1 200 89 = ((e + S : Nat) : Int) ∧ e + S ≤ 10000) ∧ (u.1 310 14 = -1 ∧ u.1 310 16 = 0 ∧ u.1 310 17 = 0) ∧ v.2 200 100 = 0 ∧ v.1 200 101 = -1 ∧ v.1 200 91 = r ∧
      f_X12_resolve N most m = cmpI r 0 (if r < 0 then some (r, v) else (f_X12_resolve_L84 N (fun (t24 : St) => f_X12_resolve_L120 (fun (t35 : St) => f_X12_resolve_L172 N (fun (t50 : St) => ixI 0 2000 (some ((pL t50 200 100 (t50.2 95 (0 : Int).toNat)).1 200 91, pL t50 200 100 (t50.2 95 (0 : Int).toNat)))) N (t35.1 200 91 - 1) t35) N 0 t24) N 0 v)) ∧
      (((r = -1 ∨ r = -2) ∧ f_X9_explore N 0 320 64 most t = some (r, u)) ∨
       ∃ (L a w : Nat) (B : Nat → Nat), r = L ∧ L ≤ most ∧ a < S ∧ B L ≤ a ∧ v.1 200 99 = a ∧ (w : Int) = m.1 200 17 ∧ v.1 200 98 = w ∧ v.1 200 90 = S ∧ S ≤ 2000 ∧ u.1 310 12 = w ∧ LVr w L S S (32 * B L) u v ∧ (B 0 = 0 ∧ B 1 = 1 ∧ B (L + 1) = S) ∧ (∀ k, k ≤ L + 1 → u.1 433 k = B k) ∧ (∀ k, k ≤ L → B k ≤ B (k + 1) ∧ ∀ z, B k ≤ z → z < B (k + 1) → v.1 93 z = k) ∧ f_X9_explore N 0 320 64 most t = (bdV (f_X9_findRows N L a u) fun t32 => some ((L : Int), t32))) := by
  have h0 := h
  obtain ⟨⟨hB, hLI, hFL, hE⟩, h13, h54, hsm, hAI, hAs, hLb, hv⟩ := h
  generalize hm5 : pI (pL m 200 100 (0 : Int64)) 200 101 (-1) = m5
  have m5o : ∀ x, x ≠ 200 → m5.1 x = m.1 x := fun x hx => by rw [← hm5, pI_ne hx]; rfl
  have m5b : ∀ b, b ≠ 101 → m5.1 200 b = m.1 200 b := fun b hb => by rw [← hm5, pI_nf hb]; rfl
  have m51 : m5.1 200 101 = -1 := by rw [← hm5, pI_at]
  have m5L : ∀ x, x ≠ 200 → m5.2 x = m.2 x := fun x hx => by rw [← hm5]; show (pL m 200 100 (0 : Int64)).2 x = m.2 x; rw [pL_ne hx]
  have m5L2 : ∀ b, b ≠ 100 → m5.2 200 b = m.2 200 b := fun b hb => by rw [← hm5]; show (pL m 200 100 (0 : Int64)).2 200 b = m.2 200 b; rw [pL_nf hb]
  have m5L3 : m5.2 200 100 = 0 := by rw [← hm5]; show (pL m 200 100 (0 : Int64)).2 200 100 = 0; rw [pL_at]
  obtain ⟨m8, s1, s2, _, s4, s5⟩ := sv_fl 64 0 N m5 (by omega) (by omega)
  have m8o : ∀ x, x ≠ 104 → x ≠ 200 → m8.1 x = m.1 x := fun x z1 z2 => by rw [s2 x z1, m5o x z2]
  have m8b : ∀ b, b ≠ 101 → m8.1 200 b = m.1 200 b := fun b hb => by rw [s2 200 (by decide), m5b b hb]
  have hB8 : BK0 t m8 := hB.sx SHg.rf.x ⟨fun x _ _ _ _ _ z6 z7 => m8o x z6 z7, fun b _ _ _ _ _ _ _ z8 _ => m8b b z8, fun x _ _ z3 => by rw [s5, m5L x z3]⟩
  have hE8 : EVr 0 t m8 n := hE.ch (fun _ _ => rfl) rfl hE.2.2.2.2.2.1 (fun d _ => by rw [m8o 38 (by decide) (by decide), m8o 39 (by decide) (by decide), m8o 40 (by decide) (by decide)]; exact ⟨rfl, rfl, rfl⟩) (fun _ => ⟨Or.inl rfl, fun d _ => by rw [m8o 44 (by decide) (by decide), m8o 45 (by decide) (by decide), m8o 46 (by decide) (by decide)]; exact ⟨rfl, rfl, rfl⟩⟩) (fun a z1 z2 => m8o a (by omega) (by omega)) (m8b 37 (by decide)) (m8b 14 (by decide))
  have hS8 : SNd n e t m8 := by
    refine ⟨⟨hB8, hLI, hFL, hE8⟩, by rw [m8b 89 (by decide)]; exact h13, by rw [m8b 54 (by decide)]; exact h54, ?_, ?_, ?_, hLb, hv⟩
    · rw [m8o 38 (by decide) (by decide), m8o 39 (by decide) (by decide)]; exact hsm
    · unfold AIMr; rw [m8o 47 (by decide) (by decide), m8o 48 (by decide) (by decide), m8o 49 (by decide) (by decide)]; exact hAI
    · rw [m8o 47 (by decide) (by decide), m8o 48 (by decide) (by decide)]; exact hAs
  obtain ⟨u, m9, S, a1, a2, a3, a4, a5, a6, a7, a8, a9, a10⟩ := search_both (N := N) hN hn hm hS8
  obtain ⟨r, hr, hr2, hr3⟩ : ∃ r : Int, f_X12_searches N most m8 = some (r, m9) ∧ inR r ∧ (((r = -1 ∨ r = -2) ∧ f_X9_explore N 0 320 64 most t = some (r, u)) ∨ ∃ (L a w : Nat) (pl B : Nat → Nat), r = L ∧ L ≤ most ∧ a < S ∧ B L ≤ a ∧ m9.1 200 99 = a ∧ LEV n w L S (e + S) pl B u m9 ∧ (w : Int) = m8.1 200 17 ∧ f_X9_explore N 0 320 64 most t = (bdV (f_X9_findRows N L a u) fun t32 => some ((L : Int), t32))) := by
    rcases a10 with ⟨a, b1, b2, b3⟩ | ⟨L, a, w, pl, B, b1, b2, b3, b4, b5, b6, b7, b8⟩
    · exact ⟨a, b3, by omega, Or.inl ⟨b1, b2⟩⟩
    · exact ⟨L, b8, by omega, Or.inr ⟨L, a, w, pl, B, rfl, b1, b2, b3, b4, b5, b6, b7⟩⟩
  obtain ⟨m12, g1, g2, _, g4, g5⟩ := gv_fl 64 0 N (pI m9 200 91 r) (by omega) (by omega)
  generalize hm14 : pI (pI m12 200 42 (m5.1 200 42)) 200 43 (m5.1 200 43) = m14
  have m14o : ∀ x, (x < 38 ∨ 41 < x) → x ≠ 200 → m14.1 x = m9.1 x := fun x z1 z2 => by rw [← hm14, pI_ne z2, pI_ne z2, g2 x (by omega) (by omega) (by omega) (by omega), pI_ne z2]
  have m14b : ∀ b, b ≠ 42 → b ≠ 43 → b ≠ 91 → m14.1 200 b = m9.1 200 b := fun b z1 z2 z3 => by rw [← hm14, pI_nf z2, pI_nf z1, g2 200 (by decide) (by decide) (by decide) (by decide), pI_nf z3]
  have m1491 : m14.1 200 91 = r := by rw [← hm14, pI_nf (by decide), pI_nf (by decide), g2 200 (by decide) (by decide) (by decide) (by decide), pI_at]
  have m14L : m14.2 = m9.2 := by rw [← hm14]; exact g5
  have m1438 : ∀ d, d < 64 → m14.1 38 d = m.1 38 d ∧ m14.1 39 d = m.1 39 d ∧ m14.1 40 d = m.1 40 d ∧ m14.1 41 d = m.1 41 d := fun d hd => by
    have q1 := g4 d (by omega) hd
    have q2 := s4 d (by omega) hd
    rw [pI_ne (by decide), a9] at q1
    rw [m5o 38 (by decide), m5o 39 (by decide), m5o 40 (by decide), m5o 41 (by decide)] at q2
    rw [Nat.zero_add] at q1 q2
    rw [← hm14, pI_ne (by decide), pI_ne (by decide), pI_ne (by decide), pI_ne (by decide), pI_ne (by decide), pI_ne (by decide), pI_ne (by decide), pI_ne (by decide), q1.1, q1.2.1, q1.2.2.1, q1.2.2.2, q2.1, q2.2.1, q2.2.2.1, q2.2.2.2]
    exact ⟨rfl, rfl, rfl, rfl⟩
  have hRS : RSm m m14 := by
    refine ⟨fun x z1 z2 z3 z4 z5 z6 z7 => by rw [m14o x z1 z7, a2.1 x z1 z2 z3 z4 z5 z6 z7, m8o x z6 z7], m1438, fun b z1 z2 z3 z4 z5 z6 z7 => ?_, fun x z1 z2 z3 => by rw [m14L, a2.2.2 x z1 z2 z3, s5, m5L x z3], fun b hb => by rw [m14L, a7, s5, m5L2 b hb]⟩
    by_cases c1 : b = 43
    · rw [c1, ← hm14, pI_at, m5b 43 (by decide)]
    · by_cases c2 : b = 42
      · rw [c2, ← hm14, pI_nf (by decide), pI_at, m5b 42 (by decide)]
      · rw [m14b b c2 c1 (by omega), a2.2.1 b c2 c1 z1 z2 z3 z4 z5 z6 z7, m8b b z6]
  have hun : f_X12_resolve N most m = cmpI r 0 (if r < 0 then some (r, m14) else (f_X12_resolve_L84 N (fun (t24 : St) => f_X12_resolve_L120 (fun (t35 : St) => f_X12_resolve_L172 N (fun (t50 : St) => ixI 0 2000 (some ((pL t50 200 100 (t50.2 95 (0 : Int).toNat)).1 200 91, pL t50 200 100 (t50.2 95 (0 : Int).toNat)))) N (t35.1 200 91 - 1) t35) N 0 t24) N 0 m14)) := by
    unfold f_X12_resolve f_X12_savesFloor f_X12_givesFloor
    simp only [lt1_k]
    have s1' := s1 (fun (t12 : St) => some t12)
    have g1' := g1 (fun (t12 : St) => some t12)
    rw [show ((0 : Nat) : Int) = 0 from rfl] at s1' g1'
    rw [in_k (by omega) (by omega) (by omega), bdI_s, if_neg (by omega), cmpI_ok (by omega), if_neg (by decide), hE.2.1.1.1, cmpI_ok (by omega), if_neg (by omega), hm5, s1', bdV_s, hr, bdI_s, g1', bdV_s, hm14, m1491]
  refine ⟨u, m14, S, r, a1, hRS, a3, a4, ?_, a6, ?_, ?_, m1491, hun, ?_⟩
  · rw [m14b 89 (by decide) (by decide) (by decide)]; exact a5
  · rw [m14L, a7, s5]; exact m5L3
  · rw [m14b 101 (by decide) (by decide) (by decide), a8 101 (by omega), s2 200 (by decide)]; exact m51
  · rcases hr3 with hr3 | ⟨L, a, w, pl, B, b1, b2, b3, b4, b5, b6, b7, b8⟩
    · exact Or.inl hr3
    · right
      obtain ⟨⟨hW, _, _⟩, hV, hb, h433, hlev⟩ := b6
      refine ⟨L, a, w, B, b1, b2, b3, b4, by rw [m14b 99 (by decide) (by decide) (by decide)]; exact b5, by rw [b7, m8b 17 (by decide)], by rw [m14b 98 (by decide) (by decide) (by decide)]; exact hW.2.1.2.1, by rw [m14b 90 (by decide) (by decide) (by decide)]; exact hW.1.2.2.2.1.2, hW.1.2.2.1.1, hW.2.1.1, ?_, hb, h433, ?_, b8⟩
      · unfold LVr
        rw [m14o 94 (by omega) (by decide), m14o 93 (by omega) (by decide)]
        exact hV
      · rw [m14o 93 (by omega) (by decide)]
        exact hlev
end
