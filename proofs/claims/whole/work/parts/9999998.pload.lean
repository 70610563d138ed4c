/-! the whole book is read -/
section
variable {N : Nat} {B : Nat → Int} {e mm i : Nat} {t m u v t0 m0 : St}
theorem ch_id : ∀ j : Nat, ch B e j < e → j ≤ ch B e j := by
  intro j
  induction j with
  | zero => intro _; omega
  | succ j ih =>
    intro h
    by_cases hj : ch B e j < e
    · have := ch_lt (B := B) hj
      have := ih hj
      omega
    · exfalso
      have h1 := ch_le (B := B) (e := e) j
      have he : ch B e j = e := by omega
      have h2 := tEnd_le (B := B) (e := e) (q := ch B e j) h1
      have h3 : tEnd B e (ch B e j) = e := by omega
      have h4 : ch B e (j + 1) = SK B e (tEnd B e (ch B e j)) := rfl
      have h5 := skp_le (B := B) (e := e) (e - e) e (Nat.le_refl e)
      have h6 : SK B e e = skp B e (e - e) e := rfl
      rw [h3] at h4
      omega
theorem TQk.e0 {w : Int} (hq : TQk t m w) : (m.1 200 3 = 0 ↔ w = 48) ∧ inR (m.1 200 3) := by
  have hs := sgi_rng (m.1 200 5)
  have hs2 := (sgi_neg (c := m.1 200 5))
  rcases hq.2 with h8 | h8 | h8 | h8 | h8 | h8
  · exact ⟨by omega, by omega⟩
  · exact ⟨by omega, by omega⟩
  · exact ⟨by omega, by omega⟩
  · have := h8.2.2; have := h8.2.1
    exact ⟨by omega, by omega⟩
  · exact ⟨by omega, by omega⟩
  · exact ⟨by omega, by omega⟩
def rdH (N : Nat) (w : Int) (t : St) : Option (Int × St) := if w = 0 then f_X7_readForm N t else if w = 1 then f_X7_readFigure N t else if w = 2 then f_X7_readPart N t else if w = 3 then f_X7_readAllow N t else f_X7_wrong N 1 t
def rdM (N : Nat) (w : Int) (m : St) : Option (Int × St) := if w = 0 then f_X12_form N m else if w = 1 then f_X12_figure N m else if w = 2 then f_X12_part N m else if w = 3 then f_X12_allow N m else f_X12_wrong N 1 m
theorem bk_end_h {K6 : Int → St → Option St} {q : Nat} {x : Int} (hx : inR x) : f_X7_readBook_L12 N K6 (q + 1) 0 x t = K6 0 t := by
  conv => lhs; unfold f_X7_readBook_L12
  rw [cmpI_ok (by omega), cmpI_ok (by omega), if_pos (show (0 : Int) = 0 from rfl)]
  split <;> rfl
theorem bk_end_m {K16 : Int → St → Option (Int × St)} {r : Nat} : f_X12_load_L40 N K16 (r + 1) 0 m = K16 0 m := by
  conv => lhs; unfold f_X12_load_L40
  rw [cmpI_ok (by omega), if_pos (show (0 : Int) = 0 from rfl)]
theorem bk_step_h {K6 : Int → St → Option St} {q : Nat} {x w : Int} (hq : TQk t m w) (hx : 0 ≤ x ∧ x < 4096) : f_X7_readBook_L12 N K6 (q + 1) 1 x t = if w = 48 then K6 1 t else bdI (rdH N w t) fun v13 t12 => f_X7_readBook_L12 N K6 q v13 (x + 1) t12 := by
  have hr := hq.rng
  conv => lhs; unfold f_X7_readBook_L12
  simp only [lt1_k, jn1_k]
  rw [cmpI_ok (by omega), if_pos (show x < 4096 by omega), cmpI_ok (by omega), if_neg (show ¬ (1 : Int) = 0 by decide), hq.1, cmpI_ok (by omega), rnI_ok (by omega)]
  unfold rdH
  by_cases w48 : w = 48
  · rw [if_pos w48, if_pos w48]
  · rw [if_neg w48, if_neg w48]
    split
    · rfl
    · split
      · rfl
      · split
        · rfl
        · split
          · rfl
          · rfl
theorem bk_step_m {K16 : Int → St → Option (Int × St)} {r : Nat} {w : Int} (hq : TQk t m w) : f_X12_load_L40 N K16 (r + 1) 1 m = if w = 48 then K16 1 m else bdI (rdM N w m) fun v13 t12 => f_X12_load_L40 N K16 r v13 t12 := by
  have h0 := hq.e0
  conv => lhs; unfold f_X12_load_L40
  simp only [lt1_k, jn1_k]
  rw [cmpI_ok (by omega), if_neg (show ¬ (1 : Int) = 0 by decide), cmpI_ok (show inR (m.1 200 3) ∧ inR 0 from ⟨h0.2, by omega⟩)]
  by_cases w48 : w = 48
  · rw [if_pos (h0.1.mpr w48), if_pos w48]
  · rw [if_neg (fun q => w48 (h0.1.mp q)), if_neg w48, k_isKey hq (by omega), bdI_s]
    unfold rdM
    by_cases w0 : w = 0
    · rw [if_pos w0, if_pos w0, cmpI_ok (by omega), if_neg (show ¬ (1 : Int) = 0 by decide)]
    · rw [if_neg w0, if_neg w0, cmpI_ok (by omega), if_pos (show (0 : Int) = 0 from rfl), k_isKey hq (by omega), bdI_s]
      by_cases w1 : w = 1
      · rw [if_pos w1, if_pos w1, cmpI_ok (by omega), if_neg (show ¬ (1 : Int) = 0 by decide)]
      · rw [if_neg w1, if_neg w1, cmpI_ok (by omega), if_pos (show (0 : Int) = 0 from rfl), k_isKey hq (by omega), bdI_s]
        by_cases w2 : w = 2
        · rw [if_pos w2, if_pos w2, cmpI_ok (by omega), if_neg (show ¬ (1 : Int) = 0 by decide)]
        · rw [if_neg w2, if_neg w2, cmpI_ok (by omega), if_pos (show (0 : Int) = 0 from rfl), k_isKey hq (by omega), bdI_s]
          by_cases w3 : w = 3
          · rw [if_pos w3, if_pos w3, cmpI_ok (by omega), if_neg (show ¬ (1 : Int) = 0 by decide)]
          · rw [if_neg w3, if_neg w3, cmpI_ok (by omega), if_pos (show (0 : Int) = 0 from rfl)]
theorem dcl_any (hN : 5000 ≤ N) (h : BK0 t m) (hP : PR t m B e mm 0 i) (h6 : t.1 303 6 = 0) : SIMf B e mm (fun u v => LwH t u ∧ LwM m v) (DCL B e mm i t m) (rdH N (cKd B e (ch B e i)) t) (rdM N (cKd B e (ch B e i)) m) := by
  unfold rdH rdM
  by_cases w0 : cKd B e (ch B e i) = 0
  · rw [if_pos w0, if_pos w0]; exact dcl_form hN h hP h6 w0
  · rw [if_neg w0, if_neg w0]
    by_cases w1 : cKd B e (ch B e i) = 1
    · rw [if_pos w1, if_pos w1]; exact dcl_figure hN h hP h6 w1
    · rw [if_neg w1, if_neg w1]
      by_cases w2 : cKd B e (ch B e i) = 2
      · rw [if_pos w2, if_pos w2]; exact dcl_part hN h hP h6 w2
      · rw [if_neg w2, if_neg w2]
        by_cases w3 : cKd B e (ch B e i) = 3
        · rw [if_pos w3, if_pos w3]; exact dcl_allow hN h hP h6 w3
        · rw [if_neg w3, if_neg w3]
          exact Or.inl ⟨_, _, c_wrong, s_wrong, FR_of hP (by omega), LwH.rf.p, LwM.rf.p (by unfold PFd; omega)⟩
theorem tq_ge (h : PR t m B e mm 0 i) (hk : cKd B e (ch B e i) ≠ 48) : i < 4096 := by
  have hmm := h.1.2.2.2.2.2
  have hi := h.2.1
  have he := h.2.2.1.1.2.1
  by_cases hlt : i < mm
  · omega
  · have him : i = mm := by omega
    rcases h.1.2.2.1 with h1 | h1
    · exfalso
      apply hk
      rw [him, h1, cKd_ck]
      have : tKnd B e e = 0 := by unfold tKnd; rw [if_neg (by omega)]
      rw [this, ck_0]
    · have := ch_id (B := B) (e := e) mm h1.1
      omega
theorem book_lp (hN : 5000 ≤ N) (K6 : Int → St → Option St) (K16 : Int → St → Option (Int × St)) : ∀ (k i q r x : Nat) (t m : St), mm - i ≤ k → k + 1 < q → k + 1 < r → x ≤ i → PR t m B e mm 0 i → t.1 303 6 = 0 → BK0 t m → LwH t0 t → LwM m0 m → CLe t0 t → CLm m0 m →
    ∃ (u v : St) (fl : Int), f_X7_readBook_L12 N K6 q 1 x t = K6 fl u ∧ f_X12_load_L40 N K16 r 1 m = K16 fl v ∧ LwH t0 u ∧ LwM m0 v ∧ ((fl = 1 ∧ BK0 u v ∧ u.1 303 5 = 0 ∧ v.1 200 8 = 0 ∧ CLe t0 u ∧ CLm m0 v) ∨ (fl = 0 ∧ FR u v B e mm)) := by
  intro k
  induction k with
  | zero =>
    intro i q r x t m z1 z2 z3 z4 h h6 hB g1 g2 g3 g4
    obtain ⟨q, rfl⟩ : ∃ k, q = k + 1 + 1 := ⟨q - 2, by omega⟩
    obtain ⟨r, rfl⟩ : ∃ k, r = k + 1 + 1 := ⟨r - 2, by omega⟩
    have hq := tq_of h
    have hd := dcl_any hN hB h h6
    have hge := tq_ge h
    have hi := h.2.1
    generalize hk9 : cKd B e (ch B e i) = w at hq hd hge
    have hmm := h.1.2.2.2.2.2
    rw [bk_step_m hq]
    by_cases w48 : w = 48
    · refine ⟨t, m, 1, ?_, by rw [if_pos w48], g1, g2, Or.inl ⟨rfl, hB, h.2.2.2.2.2.2.1.2.2.2.1, h.2.2.2.2.2.2.1.2.2.2.2, g3, g4⟩⟩
      by_cases hx : x < 4096
      · rw [bk_step_h hq (by omega), if_pos w48]
      · conv => lhs; unfold f_X7_readBook_L12
        rw [cmpI_ok (by omega), if_neg (by omega)]
    · have := hge w48
      rw [bk_step_h hq (by omega), if_neg w48, if_neg w48]
      rcases hd with ⟨u, v, p1, p2, p3, p4, p5⟩ | ⟨u, v, p1, p2, ⟨i2, p3, p4, p5⟩, _⟩
      · refine ⟨u, v, 0, by rw [p1, bdI_s, bk_end_h (by omega)], by rw [p2, bdI_s, bk_end_m], g1.tr p4 g3.1 g3.2.1 g3.2.2.1 g3.2.2.2.1 g3.2.2.2.2, g2.tr p5 g4.1 g4.2.1 g4.2.2.1 g4.2.2.2.1 g4.2.2.2.2.1 g4.2.2.2.2.2, Or.inr ⟨rfl, p3⟩⟩
      · have := p4.2.1
        omega
  | succ k ih =>
    intro i q r x t m z1 z2 z3 z4 h h6 hB g1 g2 g3 g4
    obtain ⟨q, rfl⟩ : ∃ k, q = k + 1 + 1 := ⟨q - 2, by omega⟩
    obtain ⟨r, rfl⟩ : ∃ k, r = k + 1 + 1 := ⟨r - 2, by omega⟩
    have hq := tq_of h
    have hd := dcl_any hN hB h h6
    have hge := tq_ge h
    have hi := h.2.1
    generalize hk9 : cKd B e (ch B e i) = w at hq hd hge
    have hmm := h.1.2.2.2.2.2
    rw [bk_step_m hq]
    by_cases w48 : w = 48
    · refine ⟨t, m, 1, ?_, by rw [if_pos w48], g1, g2, Or.inl ⟨rfl, hB, h.2.2.2.2.2.2.1.2.2.2.1, h.2.2.2.2.2.2.1.2.2.2.2, g3, g4⟩⟩
      by_cases hx : x < 4096
      · rw [bk_step_h hq (by omega), if_pos w48]
      · conv => lhs; unfold f_X7_readBook_L12
        rw [cmpI_ok (by omega), if_neg (by omega)]
    · have := hge w48
      rw [bk_step_h hq (by omega), if_neg w48, if_neg w48]
      rcases hd with ⟨u, v, p1, p2, p3, p4, p5⟩ | ⟨u, v, p1, p2, ⟨i2, p3, p4, p5⟩, p6, p7, p8, p9, p10⟩
      · refine ⟨u, v, 0, by rw [p1, bdI_s, bk_end_h (by omega)], by rw [p2, bdI_s, bk_end_m], g1.tr p4 g3.1 g3.2.1 g3.2.2.1 g3.2.2.2.1 g3.2.2.2.2, g2.tr p5 g4.1 g4.2.1 g4.2.2.1 g4.2.2.2.1 g4.2.2.2.2.1 g4.2.2.2.2.2, Or.inr ⟨rfl, p3⟩⟩
      · have hi2 := p4.2.1
        rw [p1, bdI_s, p2, bdI_s, show (x : Int) + 1 = ((x + 1 : Nat) : Int) by omega]
        obtain ⟨c1, c2, c3, c4, c5⟩ := p9
        obtain ⟨d1, d2, d3, d4, d5, d6⟩ := p10
        have k3 : CLe t0 u := by obtain ⟨b1, b2, b3, b4, b5⟩ := g3; exact ⟨by omega, by omega, by omega, by omega, by omega⟩
        have k4 : CLm m0 v := by obtain ⟨b1, b2, b3, b4, b5, b6⟩ := g4; exact ⟨by omega, by omega, by omega, by omega, by omega, by omega⟩
        exact ih i2 (q + 1) (r + 1) (x + 1) u v (by omega) (by omega) (by omega) (by omega) p4 p5 p6 (g1.tr p7 g3.1 g3.2.1 g3.2.2.1 g3.2.2.2.1 g3.2.2.2.2) (g2.tr p8 g4.1 g4.2.1 g4.2.2.1 g4.2.2.2.1 g4.2.2.2.2.1 g4.2.2.2.2.2) k3 k4
/-! text that was fed -/
def TXt (t m : St) : Prop := (∃ e : Nat, e ≤ 4096 ∧ t.1 301 1 = e ∧ m.1 200 1 = e ∧ ∀ i, i < e → t.1 330 i % 256 = m.1 0 i % 256) ∧ mBy m
/-- the hall's frame of reading a text's tokens -/
def RDh (t u : St) : Prop := (∀ a b : Nat, a ≠ 332 → a ≠ 333 → a ≠ 334 → (a ≠ 301 ∨ (b ≠ 7 ∧ b ≠ 1)) → a ≠ 303 → u.1 a b = t.1 a b) ∧ (∀ a : Nat, a ≠ 335 → u.2 a = t.2 a) ∧ u.1 301 1 = 0
def RDm (m v : St) : Prop := (∀ a b : Nat, (a ≠ 200 ∨ b = 0 ∨ (8 < b ∧ b ≠ 34 ∧ b ≠ 35 ∧ b ≠ 36)) → v.1 a b = m.1 a b) ∧ v.2 = m.2 ∧ v.1 200 1 = 0
theorem op_text {e : Nat} (hN : 5000 ≤ N) (he : e ≤ 4096) (h1 : m.1 200 1 = e) (hb : mBy m) (hB : ∀ i, i < e → m.1 0 i % 256 = B i) : ∃ v, f_X12_opensText N m = some v ∧ MTk v B e 0 ∧ (v.1 200 8 = 0 ∧ v.1 200 35 = 0 ∧ v.1 200 36 = 0 ∧ v.1 200 34 = 0) ∧ RDm m v := by
  unfold f_X12_opensText
  simp only [lt1_k]
  generalize hw : pI (pI (pI (pI (pI (pI (pI m 200 7 (m.1 200 1)) 200 1 0) 200 2 0) 200 8 0) 200 35 0) 200 36 0) 200 34 0 = w
  have w0 : ∀ x, x ≠ 200 → w.1 x = m.1 x := fun x hx => by rw [← hw, pI_ne hx, pI_ne hx, pI_ne hx, pI_ne hx, pI_ne hx, pI_ne hx, pI_ne hx]
  have w9 : ∀ y, (y = 0 ∨ (2 < y ∧ y ≠ 7 ∧ y ≠ 8 ∧ y ≠ 34 ∧ y ≠ 35 ∧ y ≠ 36)) → w.1 200 y = m.1 200 y := fun y hy => by rw [← hw, pI_nf (by omega), pI_nf (by omega), pI_nf (by omega), pI_nf (by omega), pI_nf (by omega), pI_nf (by omega), pI_nf (by omega)]
  have w7 : w.1 200 7 = e := by rw [← hw, pI_nf (by decide), pI_nf (by decide), pI_nf (by decide), pI_nf (by decide), pI_nf (by decide), pI_nf (by decide), pI_at]; exact h1
  have w1 : w.1 200 1 = 0 := by rw [← hw, pI_nf (by decide), pI_nf (by decide), pI_nf (by decide), pI_nf (by decide), pI_nf (by decide), pI_at]
  have w2 : w.1 200 2 = ((0 : Nat) : Int) := by rw [← hw, pI_nf (by decide), pI_nf (by decide), pI_nf (by decide), pI_nf (by decide), pI_at]; rfl
  have w8 : w.1 200 8 = 0 := by rw [← hw, pI_nf (by decide), pI_nf (by decide), pI_nf (by decide), pI_at]
  have w35 : w.1 200 35 = 0 := by rw [← hw, pI_nf (by decide), pI_nf (by decide), pI_at]
  have w36 : w.1 200 36 = 0 := by rw [← hw, pI_nf (by decide), pI_at]
  have w34 : w.1 200 34 = 0 := by rw [← hw, pI_at]
  have hX : mTx w B e := ⟨w7, he, fun i hi => by rw [w0 0 (by decide)]; exact hB i hi⟩
  have hb2 : mBy w := fun i hi => by rw [w0 0 (by decide)]; exact hb i hi
  obtain ⟨v, a1, a2, a3⟩ := s_next (p := 0) hX hb2 (by omega) w2 hN
  refine ⟨v, by rw [a1, bdV_s], ⟨hX.eqF a2, hb2.eqF a2, a3⟩, ⟨?_, ?_, ?_, ?_⟩, fun a b hab => ?_, ?_, ?_⟩
  · rw [a2.1 200 8 (by omega)]; exact w8
  · rw [a2.1 200 35 (by omega)]; exact w35
  · rw [a2.1 200 36 (by omega)]; exact w36
  · rw [a2.1 200 34 (by omega)]; exact w34
  · rw [a2.1 a b (by omega)]
    by_cases ha : a = 200
    · subst ha; exact w9 b (by omega)
    · rw [w0 a ha]
  · rw [a2.2, ← hw]; rfl
  · rw [a2.1 200 1 (by omega)]; exact w1
theorem st_text (hT : TKs t B e mm) (hM : MTk v B e 0) (h8 : v.1 200 8 = 0 ∧ v.1 200 35 = 0 ∧ v.1 200 36 = 0 ∧ v.1 200 34 = 0) (h19 : t.1 302 19 = v.1 200 33 ∧ 0 ≤ v.1 200 33 ∧ v.1 200 33 ≤ 6000) : ∃ u, f_X7_startText N t = some u ∧ PR u v B e mm 0 0 ∧ (∀ x, x ≠ 303 → u.1 x = t.1 x) ∧ u.2 = t.2 ∧ u.1 303 6 = 0 := by
  have hk := hT.1 0 (by omega)
  refine ⟨pI (pI (pI (pI (pI (pI t 303 2 0) 303 3 (cKd B e (ch B e 0))) 303 4 (cVl B e (ch B e 0))) 303 5 0) 303 6 0) 303 7 0, ?_, ?_, fun x hx => by rw [pI_ne hx, pI_ne hx, pI_ne hx, pI_ne hx, pI_ne hx, pI_ne hx], rfl, by rw [pI_nf (by decide), pI_at]⟩
  · unfold f_X7_startText
    simp only [lt1_k]
    rw [ixI_ok (by decide), show ((0 : Int).toNat) = 0 from rfl, pI_ne (show (332 : Nat) ≠ 303 by decide), hk.2.1, ixI_ok (by decide), pI_ne (show (333 : Nat) ≠ 303 by decide), pI_ne (show (333 : Nat) ≠ 303 by decide), hk.2.2.1, boI_0]
  · refine ⟨TKs.mv hT (by rw [pI_ne (by decide), pI_ne (by decide), pI_ne (by decide), pI_ne (by decide), pI_ne (by decide), pI_ne (by decide)]) (fun x hx => by rw [pI_ne (by omega), pI_ne (by omega), pI_ne (by omega), pI_ne (by omega), pI_ne (by omega), pI_ne (by omega)]) rfl, by omega, hM, ?_, ?_, ?_, ⟨?_, ?_, ?_, ?_, h8.1⟩, ⟨h8.2.2.1, ?_⟩, ?_, ?_⟩
    · rw [pI_nf (by decide), pI_nf (by decide), pI_nf (by decide), pI_nf (by decide), pI_nf (by decide), pI_at]; rfl
    · rw [pI_nf (by decide), pI_nf (by decide), pI_nf (by decide), pI_nf (by decide), pI_at]
    · rw [pI_nf (by decide), pI_nf (by decide), pI_nf (by decide), pI_at]
    · rw [pI_nf (by decide), pI_at, h8.2.1]
    · omega
    · omega
    · rw [pI_nf (by decide), pI_nf (by decide), pI_at]
    · rw [pI_at]; rfl
    · rw [pI_ne (by decide), pI_ne (by decide), pI_ne (by decide), pI_ne (by decide), pI_ne (by decide), pI_ne (by decide)]; exact h19
    · omega
end
