/-! dancers are laid out: both sides, whole -/
/-- a floor of the hall that holds together -/
def FLr (o : Nat) (t : St) : Prop := ∃ (X Y W : Nat → Int) (n : Nat), FXs X Y W n ∧ FH o t X Y W n
/-- what evaluation needs apart from the floor -/
def EVb (t m : St) : Prop := CIk t ∧ (t.1 312 2 = m.1 200 14 ∧ 0 ≤ m.1 200 14 ∧ m.1 200 14 ≤ 40) ∧ ∀ f : Nat, (f : Int) < m.1 200 14 → ∃ k, fmO m f k ∧ fhO t m f k
theorem EVr.b {o n : Nat} {t m : St} (h : EVr o t m n) : EVb t m := ⟨h.2.2.2.2.2.1, h.2.2.2.2.2.2.2⟩
theorem EVr.fl {o n : Nat} {t m : St} (h : EVr o t m n) : FLr o t := ⟨_, _, _, n, h.2.1.1.2, h.2.1.2⟩
theorem EVb.pw {o n : Nat} {t u m w : St} {X Y W : Nat → Int} (ho : o < 2) (h : EVb t m) (hV : FXs X Y W n) (hF : FH o u X Y W n) (hord : ∀ i, i < n → u.1 (395 + 10 * o) i = ord9 X Y n i) (hfc : ∀ f e : Nat, f < 4 → e < 64 → bq (u.2 (396 + 10 * o) f) e = decide (e < n ∧ W e = f)) (gv : u.1 (305 + o) 9 = t.1 (305 + o) 9 + 1) (gv2 : inR (t.1 (305 + o) 9 + 1)) (g : hpl o t u)
    (hw : ∀ d, d < n → w.1 38 d = X d ∧ w.1 39 d = Y d ∧ w.1 40 d = W d) (hn : w.1 200 37 = n) (hho : ∀ d, d < n → ok4 (w.1 44 d) ∧ ok4 (w.1 45 d) ∧ (0 ≤ w.1 46 d ∧ w.1 46 d ≤ 3) ∧ t.1 (394 + 10 * o) d = cdZ (w.1 44 d) (w.1 45 d) (w.1 46 d)) (hb : ∀ a, 18 ≤ a → a ≤ 22 → w.1 a = m.1 a) (hb14 : w.1 200 14 = m.1 200 14) : EVr o u w n := by
  obtain ⟨h5, h7, h8⟩ := h
  have e : ∀ a, (a < 305 ∨ 306 < a) → (a < 390 ∨ 409 < a) → u.1 a = t.1 a := fun a h1 h2 => g.1 a (by omega) (by omega) (by omega) (by omega) (by omega) (by omega)
  refine ⟨ho, ⟨⟨hn, FXs_cong hV hw⟩, FH_cong hF hw⟩, fun i hi => ?_, fun fc d hf hd => ?_, fun _ d hd => ?_, h5.pl ho g gv, by rw [gv]; exact gv2, by rw [e 312 (by omega) (by omega), hb14]; exact h7, fun f hf => ?_⟩
  · rw [hord i hi, ← ord9_cong (X := w.1 38) (Y := w.1 39) (fun d hd => ⟨(hw d hd).1, (hw d hd).2.1⟩)]
    exact (odM_lt hi).2
  · rw [hfc fc d hf hd]
    apply Bool.eq_iff_iff.mpr
    rw [decide_eq_true_iff, decide_eq_true_iff]
    constructor
    · intro h; exact ⟨h.1, by rw [(hw d h.1).2.2]; exact h.2⟩
    · intro h; exact ⟨h.1, by rw [← (hw d h.1).2.2]; exact h.2⟩
  · rw [g.1 (394 + 10 * o) (by omega) (by omega) (by omega) (by omega) (by omega) (by omega)]; exact hho d hd
  · rw [hb14] at hf
    obtain ⟨k, a1, a2⟩ := h8 f hf
    refine ⟨k, ?_, ?_⟩
    · unfold fmO
      rw [hb 18 (by omega) (by omega), hb 19 (by omega) (by omega), hb 20 (by omega) (by omega), hb 21 (by omega) (by omega), hb 22 (by omega) (by omega)]
      exact a1
    · unfold fhO
      rw [hb 19 (by omega) (by omega), hb 20 (by omega) (by omega), hb 21 (by omega) (by omega), hb 22 (by omega) (by omega), e 350 (by omega) (by omega), e 351 (by omega) (by omega), e 352 (by omega) (by omega), e 353 (by omega) (by omega)]
      exact a2
theorem CIk.r9 {o : Nat} {t u : St} (ho : o < 2) (h : CIk t) (e : ∀ x, x ≠ 393 + 10 * o → x ≠ 394 + 10 * o → u.1 x = t.1 x) (e2 : u.2 311 = t.2 311) : CIk u := by
  obtain ⟨c1, c2, c3, c4⟩ := h
  refine ⟨by rw [e 311 (by omega) (by omega)]; exact c1, by rw [e 311 (by omega) (by omega)]; exact c2, fun f hf => by rw [e 381 (by omega) (by omega)]; exact c3 f hf, fun o2 ho2 h9 => ?_⟩
  rw [e 311 (by omega) (by omega)] at h9
  rw [e 311 (by omega) (by omega), e (305 + o2) (by omega) (by omega), e 381 (by omega) (by omega), e 312 (by omega) (by omega), e 380 (by omega) (by omega), e2]
  refine ⟨(c4 o2 ho2 h9).1, fun h10 f hf h11 => ?_⟩
  obtain ⟨q1, M, n, k, q2, q3, q4, q5⟩ := (c4 o2 ho2 h9).2 h10 f hf h11
  refine ⟨q1, M, n, k, ⟨q2.1, ?_⟩, q3, ?_, q5⟩
  · unfold FH
    rw [e (305 + o2) (by omega) (by omega), e (390 + 10 * o2) (by omega) (by omega), e (391 + 10 * o2) (by omega) (by omega), e (392 + 10 * o2) (by omega) (by omega), e (397 + 10 * o2) (by omega) (by omega)]
    exact q2.2
  · unfold fhO
    rw [e 350 (by omega) (by omega), e 351 (by omega) (by omega), e 352 (by omega) (by omega), e 353 (by omega) (by omega)]
    exact q4
section
variable {N o : Nat} {t m : St}
theorem m_homeL {n : Nat} (hn : n ≤ 64) (K : St → Option (Int × St)) : ∀ (j x q : Nat) (m : St), x + j = n → j < q → m.1 200 37 = n → ∃ v : St, f_X12_begins_L345 K q x m = K v ∧ (∀ a, (a < 44 ∨ 46 < a) → v.1 a = m.1 a) ∧ (∀ d, d < x → v.1 44 d = m.1 44 d ∧ v.1 45 d = m.1 45 d ∧ v.1 46 d = m.1 46 d) ∧ (∀ d, x ≤ d → d < n → v.1 44 d = m.1 38 d ∧ v.1 45 d = m.1 39 d ∧ v.1 46 d = m.1 40 d) ∧ v.2 = m.2 := by
  intro j
  induction j with
  | zero =>
    intro x q m h1 h2 h3
    obtain ⟨q, rfl⟩ : ∃ q', q = q' + 1 := ⟨q - 1, by omega⟩
    refine ⟨m, ?_, fun _ _ => rfl, fun _ _ => ⟨rfl, rfl, rfl⟩, fun d z1 z2 => by omega, rfl⟩
    conv => lhs; unfold f_X12_begins_L345
    rw [lt1_k, h3, cmpI_ok (by omega), if_neg (by omega)]
  | succ j ih =>
    intro x q m h1 h2 h3
    obtain ⟨q, rfl⟩ : ∃ q', q = q' + 1 := ⟨q - 1, by omega⟩
    obtain ⟨v, g1, g2, g3, g4, g5⟩ := ih (x + 1) q (pI (pI (pI m 44 x (m.1 38 x)) 45 x (m.1 39 x)) 46 x (m.1 40 x)) (by omega) (by omega) (by rw [pI_ne (by decide), pI_ne (by decide), pI_ne (by decide)]; exact h3)
    refine ⟨v, ?_, fun a z => by rw [g2 a z, pI_ne (by omega), pI_ne (by omega), pI_ne (by omega)], fun d z => ?_, fun d z1 z2 => ?_, by rw [g5]; rfl⟩
    · conv => lhs; unfold f_X12_begins_L345
      simp only [lt1_k]
      rw [h3, cmpI_ok (by omega), if_pos (by omega), ixI_ok (by omega), ixI_ok (by omega), ixI_ok (by omega), ixI_ok (by omega), ixI_ok (by omega), ixI_ok (by omega), Int.toNat_natCast, show (x : Int) + 1 = ((x + 1 : Nat) : Int) by omega, pI_ne (show (39 : Nat) ≠ 44 by decide), pI_ne (show (40 : Nat) ≠ 45 by decide), pI_ne (show (40 : Nat) ≠ 44 by decide)]
      exact g1
    · have g := g3 d (by omega)
      rw [g.1, g.2.1, g.2.2, pI_ne (by decide), pI_ne (by decide), pI_nf (by omega), pI_ne (by decide), pI_nf (by omega), pI_ne (by decide), pI_nf (by omega), pI_ne (by decide), pI_ne (by decide)]
      exact ⟨rfl, rfl, rfl⟩
    · by_cases hd : d = x
      · subst hd
        have g := g3 d (by omega)
        rw [g.1, g.2.1, g.2.2, pI_ne (by decide), pI_ne (by decide), pI_at, pI_ne (by decide), pI_at, pI_at]
        exact ⟨rfl, rfl, rfl⟩
      · have g := g4 d (by omega) z2
        rw [pI_ne (by decide), pI_ne (by decide), pI_ne (by decide), pI_ne (by decide), pI_ne (by decide), pI_ne (by decide), pI_ne (by decide), pI_ne (by decide), pI_ne (by decide)] at g
        exact g
theorem sq_val : (SPX 0 0 = 4 ∧ SPY 0 0 = 0 ∧ SPW 0 0 = 0) ∧ (SPX 0 1 = 8 ∧ SPY 0 1 = 0 ∧ SPW 0 1 = 0) ∧ (SPX 0 2 = 12 ∧ SPY 0 2 = 4 ∧ SPW 0 2 = 3) ∧ (SPX 0 3 = 12 ∧ SPY 0 3 = 8 ∧ SPW 0 3 = 3) ∧ (SPX 0 4 = 8 ∧ SPY 0 4 = 12 ∧ SPW 0 4 = 2) ∧ (SPX 0 5 = 4 ∧ SPY 0 5 = 12 ∧ SPW 0 5 = 2) ∧ (SPX 0 6 = 0 ∧ SPY 0 6 = 8 ∧ SPW 0 6 = 1) ∧ (SPX 0 7 = 0 ∧ SPY 0 7 = 4 ∧ SPW 0 7 = 1) := by decide +kernel
/-- the model lays out all who dance -/
theorem m_begins {kd : Int} {n : Nat} (h : SETk kd n) (hN : 100 ≤ N) : ∃ v : St, f_X12_begins N kd n m = some (1, v) ∧ SPr kd (2 * n) v ∧ (∀ d, d < 2 * n → v.1 44 d = v.1 38 d ∧ v.1 45 d = v.1 39 d ∧ v.1 46 d = v.1 40 d) ∧ v.1 200 37 = ((2 * n : Nat) : Int) ∧ (∀ a, (a < 38 ∨ 41 < a) → (a < 44 ∨ 46 < a) → a ≠ 200 → v.1 a = m.1 a) ∧ (∀ b, b ≠ 37 → v.1 200 b = m.1 200 b) ∧ v.2 = m.2 := by
  have h64 := (SP_fx h).1
  have fin : ∀ z : St, SPr kd (2 * n) z → z.1 200 37 = ((2 * n : Nat) : Int) → (∀ a b : Nat, ((a < 38 ∨ 41 < a) ∧ (a ≠ 200 ∨ b ≠ 37)) → z.1 a b = m.1 a b) → z.2 = m.2 → ∃ v : St, f_X12_begins_L345 (fun (t63 : St) => boI 1 (some (1, t63))) N 0 z = some (1, v) ∧ SPr kd (2 * n) v ∧ (∀ d, d < 2 * n → v.1 44 d = v.1 38 d ∧ v.1 45 d = v.1 39 d ∧ v.1 46 d = v.1 40 d) ∧ v.1 200 37 = ((2 * n : Nat) : Int) ∧ (∀ a, (a < 38 ∨ 41 < a) → (a < 44 ∨ 46 < a) → a ≠ 200 → v.1 a = m.1 a) ∧ (∀ b, b ≠ 37 → v.1 200 b = m.1 200 b) ∧ v.2 = m.2 := fun z z1 z2 z3 z4 => by
    obtain ⟨v, g1, g2, _, g4, g5⟩ := m_homeL (n := 2 * n) h64 (fun (t63 : St) => boI 1 (some (1, t63))) (2 * n) 0 N z (by omega) (by omega) z2
    refine ⟨v, by rw [show (0 : Int) = ((0 : Nat) : Int) from rfl, g1, boI_1], fun d hd => ?_, fun d hd => ?_, by rw [g2 200 (by omega)]; exact z2, fun a y1 y2 y3 => ?_, fun b hb => ?_, g5.trans z4⟩
    · rw [g2 38 (by omega), g2 39 (by omega), g2 40 (by omega), g2 41 (by omega)]; exact z1 d hd
    · rw [g2 38 (by omega), g2 39 (by omega), g2 40 (by omega)]; exact g4 d (by omega) hd
    · rw [g2 a y2]; exact funext fun b => z3 a b ⟨y1, Or.inl y3⟩
    · rw [g2 200 (by omega)]; exact z3 200 b ⟨by omega, Or.inr hb⟩
  have e2 : (2 : Int) * (n : Int) = ((2 * n : Nat) : Int) := by omega
  obtain ⟨w, hw⟩ : ∃ w, w = pI m 200 37 ((2 * n : Nat) : Int) := ⟨_, rfl⟩
  have w37 : w.1 200 37 = ((2 * n : Nat) : Int) := by rw [hw, pI_at]
  have wo : ∀ a b : Nat, (a ≠ 200 ∨ b ≠ 37) → w.1 a b = m.1 a b := fun a b z => by rw [hw, pI_of z]
  have wL : w.2 = m.2 := by rw [hw]; rfl
  unfold f_X12_begins
  simp only [lt1_k, jn1_k]
  rw [e2, ← hw]
  rcases h with ⟨rfl, h4⟩ | ⟨hk, hn⟩
  · have hn4 : n = 4 := by omega
    subst hn4
    obtain ⟨v0, v1, v2, v3, v4, v5, v6, v7⟩ := sq_val
    have s0 : SPr 0 0 w := fun d hd => by omega
    have s1 := s0.s; rw [v0.1, v0.2.1, v0.2.2] at s1
    have s2 := s1.s; rw [v1.1, v1.2.1, v1.2.2] at s2
    have s3 := s2.s; rw [v2.1, v2.2.1, v2.2.2] at s3
    have s4 := s3.s; rw [v3.1, v3.2.1, v3.2.2] at s4
    have s5 := s4.s; rw [v4.1, v4.2.1, v4.2.2] at s5
    have s6 := s5.s; rw [v5.1, v5.2.1, v5.2.2] at s6
    have s7 := s6.s; rw [v6.1, v6.2.1, v6.2.2] at s7
    have s8 := s7.s; rw [v7.1, v7.2.1, v7.2.2] at s8
    generalize hz : STD (STD (STD (STD (STD (STD (STD (STD w 0 4 0 0) 1 8 0 0) 2 12 4 3) 3 12 8 3) 4 8 12 2) 5 4 12 2) 6 0 8 1) 7 0 4 1 = z at s8
    have zo : ∀ a b : Nat, (a < 38 ∨ 41 < a) → z.1 a b = w.1 a b := fun a b y => by rw [← hz, STD_o (Or.inl y), STD_o (Or.inl y), STD_o (Or.inl y), STD_o (Or.inl y), STD_o (Or.inl y), STD_o (Or.inl y), STD_o (Or.inl y), STD_o (Or.inl y)]
    obtain ⟨v, f1, f2⟩ := fin z s8 (by rw [zo 200 37 (by omega)]; exact w37) (fun a b y => by rw [zo a b y.1, wo a b y.2]) (by rw [← hz]; exact wL)
    refine ⟨v, ?_, f2⟩
    rw [cmpI_ok (by omega), if_pos rfl, cmpI_ok (by omega), if_pos (by omega), cmpI_ok (by omega), if_pos rfl]
    rw [show f_X12_stands N 0 4 0 0 w = some (STD w 0 4 0 0) from m_std (d := 0) (by decide), bdV_s, show f_X12_stands N 1 8 0 0 (STD w 0 4 0 0) = _ from m_std (d := 1) (by decide), bdV_s, show f_X12_stands N 2 12 4 3 (STD (STD w 0 4 0 0) 1 8 0 0) = _ from m_std (d := 2) (by decide), bdV_s, show f_X12_stands N 3 12 8 3 (STD (STD (STD w 0 4 0 0) 1 8 0 0) 2 12 4 3) = _ from m_std (d := 3) (by decide), bdV_s, show f_X12_stands N 4 8 12 2 (STD (STD (STD (STD w 0 4 0 0) 1 8 0 0) 2 12 4 3) 3 12 8 3) = _ from m_std (d := 4) (by decide), bdV_s, show f_X12_stands N 5 4 12 2 (STD (STD (STD (STD (STD w 0 4 0 0) 1 8 0 0) 2 12 4 3) 3 12 8 3) 4 8 12 2) = _ from m_std (d := 5) (by decide), bdV_s, show f_X12_stands N 6 0 8 1 (STD (STD (STD (STD (STD (STD w 0 4 0 0) 1 8 0 0) 2 12 4 3) 3 12 8 3) 4 8 12 2) 5 4 12 2) = _ from m_std (d := 6) (by decide), bdV_s, show f_X12_stands N 7 0 4 1 (STD (STD (STD (STD (STD (STD (STD w 0 4 0 0) 1 8 0 0) 2 12 4 3) 3 12 8 3) 4 8 12 2) 5 4 12 2) 6 0 8 1) = _ from m_std (d := 7) (by decide), bdV_s, hz]
    obtain ⟨q, hq⟩ : ∃ q, N = q + 1 := ⟨N - 1, by omega⟩
    conv => lhs; arg 5; rw [hq]
    conv => lhs; unfold f_X12_begins_L120
    rw [cmpI_ok (by omega), if_pos (by omega), cmpI_ok (by omega), if_neg (by decide)]
    exact f1
  · obtain ⟨z, g1, g2, g3, g4⟩ := m_begL (N := N) (n := n) hk (by omega) (fun (t52 : St) => f_X12_begins_L345 (fun (t63 : St) => boI 1 (some (1, t63))) N 0 t52) n 0 N w (by omega) (by omega) (fun d hd => by omega)
    obtain ⟨v, f1, f2⟩ := fin z g2 (by rw [g3 200 37 (by omega)]; exact w37) (fun a b y => by rw [g3 a b (by omega), wo a b y.2]) (by rw [g4]; exact wL)
    refine ⟨v, ?_, f2⟩
    rw [cmpI_ok (by omega), if_neg (by omega), in_k (by omega) (by omega) (by omega), bdI_s, if_neg (by omega), cmpI_ok (by omega), if_neg (by decide), in_k (by omega) (by omega) (by omega), bdI_s, if_neg (by omega), cmpI_ok (by omega), if_neg (by decide), cmpI_ok (by omega), if_neg (by omega)]
    rw [← hw]
    exact g1.trans f1
/-- both lay them out -/
theorem lay_both {kd : Int} {n : Nat} (hN : 200 ≤ N) (ho : o < 2) (h : SETk kd n) (hB : EVb t m) (hF : FLr o t) (hv : inR (t.1 (305 + o) 9 + 1)) : ∃ u v : St, f_X3_lay N o kd n t = some u ∧ f_X12_begins N kd n m = some (1, v) ∧ EVr o u v (2 * n) ∧ (∀ d, d < 2 * n → u.1 (393 + 10 * o) d = 0 ∧ v.1 41 d = 0 ∧ v.1 44 d = v.1 38 d ∧ v.1 45 d = v.1 39 d ∧ v.1 46 d = v.1 40 d) ∧ (∀ d, d < 2 * n → ok4 (v.1 44 d) ∧ ok4 (v.1 45 d) ∧ (0 ≤ v.1 46 d ∧ v.1 46 d ≤ 3) ∧ u.1 (394 + 10 * o) d = cdZ (v.1 44 d) (v.1 45 d) (v.1 46 d)) ∧ u.1 (305 + o) 9 = t.1 (305 + o) 9 + 1 ∧ (∀ a, a ≠ 305 + o → (a < 390 + 10 * o ∨ 397 + 10 * o < a) → u.1 a = t.1 a) ∧ (∀ b, b ≠ 8 → b ≠ 9 → u.1 (305 + o) b = t.1 (305 + o) b) ∧ (∀ a, a ≠ 396 + 10 * o → u.2 a = t.2 a) ∧ (∀ a, (a < 38 ∨ 41 < a) → (a < 44 ∨ 46 < a) → a ≠ 200 → v.1 a = m.1 a) ∧ (∀ b, b ≠ 37 → v.1 200 b = m.1 200 b) ∧ v.2 = m.2 := by
  have h64 := (SP_fx h).1
  obtain ⟨v, b1, b2, b3, b4, b5, b6, b7⟩ := m_begins (N := N) (m := m) h (by omega)
  obtain ⟨X1, Y1, W1, n1, hV1, hF1⟩ := hF
  obtain ⟨t1, a1, a2, a3, a4, a5⟩ := h_layL (N := N) ho h (fun (t10 : St) => bdV (f_X3_place N o (394 + 10 * o) 64 (min (2 * (n : Int)) 64) t10) fun t11 => some t11) (2 * n) 0 N t (by omega) (by omega)
  have hFt : FH o t1 X1 Y1 W1 n1 := by
    unfold FH at hF1 ⊢
    rw [a2 (305 + o) (by omega) (by omega), a2 (390 + 10 * o) (by omega) (by omega), a2 (391 + 10 * o) (by omega) (by omega), a2 (392 + 10 * o) (by omega) (by omega), a2 (397 + 10 * o) (by omega) (by omega)]
    exact hF1
  have hfx := SP_fx h
  obtain ⟨u, p1, p2, p3, p4, p5, p6⟩ := h_place (N := N) (o := o) (n := 2 * n) (n1 := n1) (q0 := 394 + 10 * o) (t := t1) ho hV1 hFt hfx (by omega) (fun d hd => by
    have h2 := hfx.2.1 d hd
    have h3 := cd_sp h2.1 h2.2.1 h2.2.2
    have h4 := cdZ_rng h2.1 h2.2.1 h2.2.2
    rw [(a4 d (by omega) hd).2]
    omega) (by omega)
  have ev9 : t1.1 (305 + o) 9 = t.1 (305 + o) 9 := by rw [a2 (305 + o) (by omega) (by omega)]
  have hB1 : EVb t1 m := by
    obtain ⟨c1, c2, c3⟩ := hB
    refine ⟨c1.r9 ho a2 (by rw [a5]), by rw [a2 312 (by omega) (by omega)]; exact c2, fun f hf => ?_⟩
    obtain ⟨k, k1, k2⟩ := c3 f hf
    refine ⟨k, k1, ?_⟩
    unfold fhO
    rw [a2 350 (by omega) (by omega), a2 351 (by omega) (by omega), a2 352 (by omega) (by omega), a2 353 (by omega) (by omega)]
    exact k2
  have hhm : ∀ d, d < 2 * n → ok4 (v.1 44 d) ∧ ok4 (v.1 45 d) ∧ (0 ≤ v.1 46 d ∧ v.1 46 d ≤ 3) ∧ u.1 (394 + 10 * o) d = cdZ (v.1 44 d) (v.1 45 d) (v.1 46 d) := fun d hd => by
    have g := b3 d hd
    have g2 := b2 d hd
    have g3 := hfx.2.1 d hd
    rw [g.1, g.2.1, g.2.2, g2.1, g2.2.1, g2.2.2.1, p6.1 (394 + 10 * o) (by omega) (by omega) (by omega) (by omega) (by omega) (by omega)]
    exact ⟨g3.1, g3.2.1, g3.2.2, (a4 d (by omega) hd).2⟩
  have hE := hB1.pw (w := v) ho hfx p2 p3 p4 p5 (by rw [ev9]; exact hv) p6 (fun d hd => ⟨(b2 d hd).1, (b2 d hd).2.1, (b2 d hd).2.2.1⟩) b4 (fun d hd => by
    have g := b3 d hd
    have g2 := b2 d hd
    have g3 := hfx.2.1 d hd
    rw [g.1, g.2.1, g.2.2, g2.1, g2.2.1, g2.2.2.1]
    exact ⟨g3.1, g3.2.1, g3.2.2, (a4 d (by omega) hd).2⟩) (fun a h1 h2 => b5 a (by omega) (by omega) (by omega)) (b6 14 (by decide))
  have po : ∀ a, a ≠ 305 + o → (a < 390 + 10 * o ∨ 397 + 10 * o < a) → u.1 a = t.1 a := fun a z1 z2 => by rw [p6.1 a z1 (by omega) (by omega) (by omega) (by omega) (by omega), a2 a (by omega) (by omega)]
  refine ⟨u, v, ?_, b1, hE, fun d hd => ⟨?_, (b2 d hd).2.2.2, b3 d hd⟩, hhm, by rw [p5, ev9], po, fun b z1 z2 => by rw [p6.2.1 b z1 z2, a2 (305 + o) (by omega) (by omega)], fun a z => by rw [p6.2.2 a z, a5], b5, b6, b7⟩
  · unfold f_X3_lay
    have em : min (2 * (n : Int)) 64 = ((2 * n : Nat) : Int) := by omega
    rw [em] at a1 ⊢
    rw [cmpI_ok (by omega)]
    refine a1.trans ?_
    rw [p1, bdV_s]
  · rw [p6.1 (393 + 10 * o) (by omega) (by omega) (by omega) (by omega) (by omega) (by omega)]; exact (a4 d (by omega) hd).1
end
