/-! a step is danced: both sides -/
theorem FXs_cong {X Y W X2 Y2 W2 : Nat → Int} {n : Nat} (h : FXs X Y W n) (g : ∀ d, d < n → X2 d = X d ∧ Y2 d = Y d ∧ W2 d = W d) : FXs X2 Y2 W2 n := by
  refine ⟨h.1, fun d hd => ?_, fun d e hd he h1 h2 => ?_⟩
  · have := g d hd
    rw [this.1, this.2.1, this.2.2]; exact h.2.1 d hd
  · have a := g d hd
    have b := g e he
    rw [a.1, b.1] at h1; rw [a.2.1, b.2.1] at h2
    exact h.2.2 d e hd he h1 h2
theorem FH_cong {o : Nat} {t : St} {X Y W X2 Y2 W2 : Nat → Int} {n : Nat} (h : FH o t X Y W n) (g : ∀ d, d < n → X2 d = X d ∧ Y2 d = Y d ∧ W2 d = W d) : FH o t X2 Y2 W2 n := by
  refine ⟨h.1, fun d hd => ?_, fun px py hx hy => ?_⟩
  · have := g d hd
    rw [this.1, this.2.1, this.2.2]; exact h.2.1 d hd
  · rw [h.2.2 px py hx hy, who9_cong (X := X) (Y := Y) (X2 := X2) (Y2 := Y2) (fun d hd => ⟨((g d hd).1).symm, ((g d hd).2.1).symm⟩)]
/-- the cache when a floor has been laid out anew -/
theorem CIk.pl {o : Nat} {t u : St} (ho : o < 2) (h : CIk t) (g : hpl o t u) (gv : u.1 (305 + o) 9 = t.1 (305 + o) 9 + 1) : CIk u := by
  obtain ⟨c1, c2, c3, c4⟩ := h
  have e : ∀ a, (a < 305 ∨ 306 < a) → (a < 390 ∨ 409 < a) → u.1 a = t.1 a := fun a h1 h2 => g.1 a (by omega) (by omega) (by omega) (by omega) (by omega) (by omega)
  refine ⟨by rw [e 311 (by omega) (by omega)]; exact c1, by rw [e 311 (by omega) (by omega)]; exact c2, fun f hf => by rw [e 381 (by omega) (by omega)]; exact c3 f hf, fun o2 ho2 h9 => ?_⟩
  rw [e 311 (by omega) (by omega)] at h9 ⊢
  have hc := c4 o2 ho2 h9
  by_cases ho3 : o2 = o
  · subst ho3
    rw [gv]
    refine ⟨by have := hc.1; omega, fun h10 => ?_⟩
    have := hc.1
    omega
  · have eo : ∀ a, (a = 305 + o2 ∨ (390 + 10 * o2 ≤ a ∧ a ≤ 397 + 10 * o2)) → u.1 a = t.1 a := fun a h1 => g.1 a (by omega) (by omega) (by omega) (by omega) (by omega) (by omega)
    rw [eo (305 + o2) (by omega), e 381 (by omega) (by omega), e 312 (by omega) (by omega), e 380 (by omega) (by omega), g.2.2 311 (by omega)]
    refine ⟨hc.1, fun h10 f hf h11 => ?_⟩
    obtain ⟨q1, M, n, k, q2, q3, q4, q5⟩ := hc.2 h10 f hf h11
    refine ⟨q1, M, n, k, ⟨q2.1, ?_⟩, q3, ?_, q5⟩
    · unfold FH
      rw [eo (305 + o2) (by omega), eo (390 + 10 * o2) (by omega), eo (391 + 10 * o2) (by omega), eo (392 + 10 * o2) (by omega), eo (397 + 10 * o2) (by omega)]
      exact q2.2
    · unfold fhO
      rw [e 350 (by omega) (by omega), e 351 (by omega) (by omega), e 352 (by omega) (by omega), e 353 (by omega) (by omega)]
      exact q4
/-- floor, order, who faces where: laid out for a model -/
theorem EVr.pl {o n n1 : Nat} {t u m w : St} {X Y W : Nat → Int} (h : EVr o t m n1) (hV : FXs X Y W n) (hF : FH o u X Y W n) (hord : ∀ i, i < n → u.1 (395 + 10 * o) i = ord9 X Y n i) (hfc : ∀ f e : Nat, f < 4 → e < 64 → bq (u.2 (396 + 10 * o) f) e = decide (e < n ∧ W e = f)) (gv : u.1 (305 + o) 9 = t.1 (305 + o) 9 + 1) (gv2 : inR (t.1 (305 + o) 9 + 1)) (g : hpl o t u)
    (hw : ∀ d, d < n → w.1 38 d = X d ∧ w.1 39 d = Y d ∧ w.1 40 d = W d) (hn : w.1 200 37 = n) (hho : hGd o w → ∀ d, d < n → ok4 (w.1 44 d) ∧ ok4 (w.1 45 d) ∧ (0 ≤ w.1 46 d ∧ w.1 46 d ≤ 3) ∧ t.1 (394 + 10 * o) d = cdZ (w.1 44 d) (w.1 45 d) (w.1 46 d)) (hb : ∀ a, 18 ≤ a → a ≤ 22 → w.1 a = m.1 a) (hb14 : w.1 200 14 = m.1 200 14) : EVr o u w n := by
  obtain ⟨ho, h1, h2, h3, h4, h5, h6, h7, h8⟩ := h
  have e : ∀ a, (a < 305 ∨ 306 < a) → (a < 390 ∨ 409 < a) → u.1 a = t.1 a := fun a h1 h2 => g.1 a (by omega) (by omega) (by omega) (by omega) (by omega) (by omega)
  refine ⟨ho, ⟨⟨hn, FXs_cong hV hw⟩, FH_cong hF hw⟩, fun i hi => ?_, fun fc d hf hd => ?_, fun hg d hd => ?_, h5.pl ho g gv, by rw [gv]; exact gv2, by rw [e 312 (by omega) (by omega), hb14]; exact h7, fun f hf => ?_⟩
  · rw [hord i hi, ← ord9_cong (X := w.1 38) (Y := w.1 39) (fun d hd => ⟨(hw d hd).1, (hw d hd).2.1⟩)]
    exact (odM_lt hi).2
  · rw [hfc fc d hf hd]
    apply Bool.eq_iff_iff.mpr
    rw [decide_eq_true_iff, decide_eq_true_iff]
    constructor
    · intro h; exact ⟨h.1, by rw [(hw d h.1).2.2]; exact h.2⟩
    · intro h; exact ⟨h.1, by rw [← (hw d h.1).2.2]; exact h.2⟩
  · rw [g.1 (394 + 10 * o) (by omega) (by omega) (by omega) (by omega) (by omega) (by omega)]; exact hho hg d hd
  · rw [hb14] at hf
    obtain ⟨k, a1, a2⟩ := h8 f hf
    refine ⟨k, ?_, ?_⟩
    · unfold fmO
      rw [hb 18 (by omega) (by omega), hb 19 (by omega) (by omega), hb 20 (by omega) (by omega), hb 21 (by omega) (by omega), hb 22 (by omega) (by omega)]
      exact a1
    · unfold fhO
      rw [hb 19 (by omega) (by omega), hb 20 (by omega) (by omega), hb 21 (by omega) (by omega), hb 22 (by omega) (by omega), e 350 (by omega) (by omega), e 351 (by omega) (by omega), e 352 (by omega) (by omega), e 353 (by omega) (by omega)]
      exact a2
/-- the model: the greatest counts -/
theorem s_cntL {w : St} {p : Nat} {Fg : Int} (hp : p ≤ 4) (h75 : w.1 200 75 = p) (hF : ∀ j, j < p → 0 ≤ w.1 74 j ∧ w.1 74 j < Fg) (hFg : Fg ≤ 100) (h24 : ∀ F : Nat, (F : Int) < Fg → 0 ≤ w.1 24 F ∧ w.1 24 F ≤ 64) (K : Int → St → Option St) : ∀ (i j q : Nat), j + i = p → i < q → 0 ≤ mxc w j ∧ mxc w j ≤ 64 → f_X12_settles_L4 K q (mxc w j) j w = K (mxc w p) w ∧ 0 ≤ mxc w p ∧ mxc w p ≤ 64 := by
  intro i
  induction i with
  | zero =>
    intro j q h1 h2 hm
    obtain ⟨q, rfl⟩ : ∃ k, q = k + 1 := ⟨q - 1, by omega⟩
    have : j = p := by omega
    subst this
    refine ⟨?_, hm⟩
    unfold f_X12_settles_L4
    rw [lt1_k, h75, cmpI_ok (by omega), if_neg (by omega)]
  | succ i ih =>
    intro j q h1 h2 hm
    obtain ⟨q, rfl⟩ : ∃ k, q = k + 1 := ⟨q - 1, by omega⟩
    have hj := hF j (by omega)
    obtain ⟨F, hFF⟩ := Int.eq_ofNat_of_zero_le hj.1
    have h9 := h24 F (by omega)
    have hs : mxc w (j + 1) = max (mxc w j) (w.1 24 F) := by rw [mxc_s, hFF, Int.toNat_natCast]
    have ih2 := ih (j + 1) q (by omega) (by omega) (by omega)
    refine ⟨?_, ih2.2⟩
    unfold f_X12_settles_L4
    simp only [lt1_k, jn1_k, Int.toNat_natCast, hFF]
    rw [h75, cmpI_ok (by omega), if_pos (by omega), ixI_ok (by omega), ixI_ok (by omega), cmpI_ok (by omega), ixI_ok (by omega), ixI_ok (by omega), show ((j : Int) + 1) = ((j + 1 : Nat) : Int) by omega]
    by_cases hc : mxc w j < w.1 24 F
    · rw [if_pos hc, show w.1 24 F = mxc w (j + 1) by omega]; exact ih2.1
    · rw [if_neg hc]
      have e : mxc w j = mxc w (j + 1) := by omega
      rw [e]; exact ih2.1
theorem s_setL {N n : Nat} {w0 : St} (h64 : n ≤ 64) (hR : ∀ e, e < n → inR (w0.1 76 e) ∧ inR (w0.1 77 e)) (hN : 70 ≤ N) (K : St → Option St) : ∀ (i d q : Nat) (w : St), d + i = n → i < q → w.1 200 37 = n → w.1 76 = w0.1 76 → w.1 77 = w0.1 77 → w.1 78 = w0.1 78 → w.1 79 = w0.1 79 →
    (∀ e, e < d → w.1 38 e = 4 * (rk9 (w0.1 76) (w0.1 76 e) n : Int) ∧ w.1 39 e = 4 * (rk9 (w0.1 77) (w0.1 77 e) n : Int) ∧ w.1 40 e = w0.1 78 e ∧ w.1 41 e = w0.1 79 e) →
    ∃ v : St, f_X12_settles_L51 N K q d w = K v ∧ (∀ e, e < n → v.1 38 e = 4 * (rk9 (w0.1 76) (w0.1 76 e) n : Int) ∧ v.1 39 e = 4 * (rk9 (w0.1 77) (w0.1 77 e) n : Int) ∧ v.1 40 e = w0.1 78 e ∧ v.1 41 e = w0.1 79 e) ∧ (∀ a, a < 38 ∨ 41 < a → v.1 a = w.1 a) ∧ v.2 = w.2 := by
  intro i
  induction i with
  | zero =>
    intro d q w h1 h2 hn e6 e7 e8 e9 h3
    obtain ⟨q, rfl⟩ : ∃ k, q = k + 1 := ⟨q - 1, by omega⟩
    have : d = n := by omega
    subst this
    refine ⟨w, ?_, h3, fun _ _ => rfl, rfl⟩
    unfold f_X12_settles_L51
    rw [lt1_k, hn, cmpI_ok (by omega), if_neg (by omega)]
  | succ i ih =>
    intro d q w h1 h2 hn e6 e7 e8 e9 h3
    obtain ⟨q, rfl⟩ : ∃ k, q = k + 1 := ⟨q - 1, by omega⟩
    generalize hx : 4 * (rk9 (w0.1 76) (w0.1 76 d) n : Int) = vx
    generalize hy : 4 * (rk9 (w0.1 77) (w0.1 77 d) n : Int) = vy
    generalize hw2 : pI (pI (pI (pI w 38 d vx) 39 d vy) 40 d (w0.1 78 d)) 41 d (w0.1 79 d) = w2
    have e2 : ∀ a, a < 38 ∨ 41 < a → w2.1 a = w.1 a := fun a ha => by rw [← hw2, pI_ne (by omega), pI_ne (by omega), pI_ne (by omega), pI_ne (by omega)]
    obtain ⟨v, v1, v2, v3, v4⟩ := ih (d + 1) q w2 (by omega) (by omega) (by rw [e2 200 (by omega)]; exact hn) (by rw [e2 76 (by omega)]; exact e6) (by rw [e2 77 (by omega)]; exact e7) (by rw [e2 78 (by omega)]; exact e8) (by rw [e2 79 (by omega)]; exact e9) (fun e he => by
      have a3 : w2.1 38 = (pI w 38 d vx).1 38 := by rw [← hw2, pI_ne (by decide), pI_ne (by decide), pI_ne (by decide)]
      have a4 : w2.1 39 = (pI (pI w 38 d vx) 39 d vy).1 39 := by rw [← hw2, pI_ne (by decide), pI_ne (by decide)]
      have a6 : w2.1 40 = (pI (pI (pI w 38 d vx) 39 d vy) 40 d (w0.1 78 d)).1 40 := by rw [← hw2, pI_ne (by decide)]
      rw [a3, a4, a6]
      by_cases hed : e = d
      · subst hed
        rw [pI_at, pI_at, pI_at, ← hw2, pI_at, hx, hy]
        exact ⟨rfl, rfl, rfl, rfl⟩
      · have := h3 e (by omega)
        rw [← hw2]
        simp only [pI_nf hed]
        exact this)
    refine ⟨v, ?_, v2, fun a ha => by rw [v3 a ha, e2 a ha], by rw [v4, ← hw2]; rfl⟩
    have r1 := s_rank76 (N := N) (n := n) (m := w) (v := w0.1 76 d) hn h64 (by rw [e6]; exact fun e he => (hR e he).1) (hR d (by omega)).1 hN
    have r2 := s_rank77 (N := N) (n := n) (m := pI w 38 d vx) (v := w0.1 77 d) (by rw [pI_ne (by decide)]; exact hn) h64 (by rw [pI_ne (by decide), e7]; exact fun e he => (hR e he).2) (hR d (by omega)).2 hN
    rw [e6] at r1
    rw [pI_ne (by decide), e7] at r2
    unfold f_X12_settles_L51
    simp only [lt1_k, Int.toNat_natCast, e6]
    rw [hn, cmpI_ok (by omega), if_pos (by omega), ixI_ok (by omega), r1, bdI_s, ixI_ok (by omega), hx]
    have k1 : (pI w 38 d vx).1 77 = w0.1 77 := by rw [pI_ne (by decide), e7]
    simp only [k1]
    rw [ixI_ok (by omega), r2, bdI_s, ixI_ok (by omega), hy]
    have k2 : (pI (pI w 38 d vx) 39 d vy).1 78 = w0.1 78 := by rw [pI_ne (by decide), pI_ne (by decide), e8]
    have k3 : ∀ x : Int, (pI (pI (pI w 38 d vx) 39 d vy) 40 d x).1 79 = w0.1 79 := fun x => by rw [pI_ne (by decide), pI_ne (by decide), pI_ne (by decide), e9]
    simp only [k2, k3]
    rw [ixI_ok (by omega), ixI_ok (by omega), ixI_ok (by omega), ixI_ok (by omega), hw2, show ((d : Int) + 1) = ((d + 1 : Nat) : Int) by omega]
    exact v1
theorem s_settles {N n p : Nat} {w : St} {Fg : Int} (hF : fmF w n) (hp : p ≤ 4) (h75 : w.1 200 75 = p) (hFg : ∀ j, j < p → 0 ≤ w.1 74 j ∧ w.1 74 j < Fg) (hFg2 : Fg ≤ 100) (h24 : ∀ F : Nat, (F : Int) < Fg → 0 ≤ w.1 24 F ∧ w.1 24 F ≤ 64) (hR : ∀ e, e < n → inR (w.1 76 e) ∧ inR (w.1 77 e)) (hN : 70 ≤ N) :
    ∃ v : St, f_X12_settles N w = some v ∧ (∀ e, e < n → v.1 38 e = 4 * (rk9 (w.1 76) (w.1 76 e) n : Int) ∧ v.1 39 e = 4 * (rk9 (w.1 77) (w.1 77 e) n : Int) ∧ v.1 40 e = w.1 78 e ∧ v.1 41 e = w.1 79 e) ∧ (∀ a, (a < 38 ∨ 41 < a) → a ≠ 200 → v.1 a = w.1 a) ∧ (∀ b, b ≠ 42 → b ≠ 43 → v.1 200 b = w.1 200 b) ∧ v.1 200 42 = w.1 200 42 + mxc w p ∧ v.1 200 43 = w.1 200 43 + 1 ∧ v.2 = w.2 ∧ 0 ≤ mxc w p ∧ mxc w p ≤ 64 := by
  have h64 := hF.2.1
  have hc := s_cntL (w := w) (p := p) (Fg := Fg) hp h75 hFg hFg2 h24 (fun (k13 : Int) (t14 : St) => f_X12_settles_L51 N (fun (t32 : St) => some (pI (pI t32 200 42 (t32.1 200 42 + k13)) 200 43 ((pI t32 200 42 (t32.1 200 42 + k13)).1 200 43 + 1))) N 0 t14) p 0 N (by omega) (by omega) ⟨Int.le_refl _, by show (0 : Int) ≤ 64; decide⟩
  obtain ⟨v, v1, v2, v3, v4⟩ := s_setL (N := N) (n := n) (w0 := w) h64 hR hN (fun (t32 : St) => some (pI (pI t32 200 42 (t32.1 200 42 + mxc w p)) 200 43 ((pI t32 200 42 (t32.1 200 42 + mxc w p)).1 200 43 + 1))) n 0 N w (by omega) (by omega) hF.1 rfl rfl rfl rfl (fun e he => by omega)
  rw [show ((0 : Nat) : Int) = 0 from rfl] at v1
  have hun : f_X12_settles N w = some (pI (pI v 200 42 (v.1 200 42 + mxc w p)) 200 43 ((pI v 200 42 (v.1 200 42 + mxc w p)).1 200 43 + 1)) := by
    unfold f_X12_settles
    simp only [lt1_k]
    have := hc.1
    rw [show mxc w 0 = 0 from rfl, show ((0 : Nat) : Int) = 0 from rfl] at this
    rw [this]
    exact v1
  refine ⟨_, hun, fun e he => ?_, fun a ha h2 => ?_, fun b h1 h2 => ?_, ?_, ?_, v4, hc.2⟩
  · simp only [pI_ne (show (38 : Nat) ≠ 200 by decide), pI_ne (show (39 : Nat) ≠ 200 by decide), pI_ne (show (40 : Nat) ≠ 200 by decide), pI_ne (show (41 : Nat) ≠ 200 by decide)]
    exact v2 e he
  · rw [pI_ne h2, pI_ne h2]; exact v3 a ha
  · rw [pI_nf h2, pI_nf h1, v3 200 (by omega)]
  · rw [pI_nf (by decide), pI_at, v3 200 (by omega)]
  · rw [pI_at, pI_nf (by decide), v3 200 (by omega)]
/-- the hall: turns are added up -/
theorem h_turnL {o n : Nat} {u0 : St} (ho : o < 2) (h64 : n ≤ 64) (hsz : u0.1 (305 + o) 8 = n) (K : St → Option St) : ∀ (i d q : Nat) (A : Nat → Int), d + i = n → i < q → (∀ e, e < d → A e = u0.1 (393 + 10 * o) e + u0.1 375 e) → (∀ e, d ≤ e → e < n → A e = u0.1 (393 + 10 * o) e) →
    ∃ B : Nat → Int, f_X1_settle_L2 o K q d (pA u0 (393 + 10 * o) A) = K (pA u0 (393 + 10 * o) B) ∧ ∀ e, e < n → B e = u0.1 (393 + 10 * o) e + u0.1 375 e := by
  intro i
  induction i with
  | zero =>
    intro d q A h1 h2 h3 h4
    obtain ⟨q, rfl⟩ : ∃ k, q = k + 1 := ⟨q - 1, by omega⟩
    have : d = n := by omega
    subst this
    refine ⟨A, ?_, h3⟩
    unfold f_X1_settle_L2
    rw [lt1_k, pA_ne (by omega), hsz, cmpI_ok (by omega), if_neg (by omega)]
  | succ i ih =>
    intro d q A h1 h2 h3 h4
    obtain ⟨q, rfl⟩ : ∃ k, q = k + 1 := ⟨q - 1, by omega⟩
    unfold f_X1_settle_L2
    rw [lt1_k, pA_ne (show 305 + o ≠ 393 + 10 * o by omega), hsz, cmpI_ok (by omega), if_pos (by omega), ixI_ok (by omega), lt1_k, Int.toNat_natCast, pA_at, h4 d (Nat.le_refl _) (by omega), ixI_ok (by omega), lt1_k, pA_ne (show 375 ≠ 393 + 10 * o by omega), ixI_ok (by omega), lt1_k, pA_I, show ((d : Int) + 1) = ((d + 1 : Nat) : Int) by omega]
    refine ih (d + 1) q _ (by omega) (by omega) (fun e he => ?_) (fun e he1 he2 => ?_)
    · by_cases hed : e = d
      · subst hed; rw [fup_at]
      · rw [fup_ne hed]; exact h3 e (by omega)
    · rw [fup_ne (by omega)]; exact h4 e (by omega) he2
/-- all go where a try led them: both sides -/
theorem settle_both {N o n p : Nat} {u w : St} {Fg : Int} (hE : EVr o u w n) (hD : DNC u w n) (hp : p ≤ 4) (h75 : w.1 200 75 = p) (hFg : ∀ j, j < p → 0 ≤ w.1 74 j ∧ w.1 74 j < Fg) (hFg2 : Fg ≤ 100) (h24 : ∀ F : Nat, (F : Int) < Fg → 0 ≤ w.1 24 F ∧ w.1 24 F ≤ 64) (hv : u.1 (305 + o) 9 < 2000000000) (hN : 100 ≤ N) :
    ∃ (t m : St), f_X1_settle N o u = some t ∧ f_X12_settles N w = some m ∧ EVr o t m n ∧ (∀ d, d < n → t.1 (393 + 10 * o) d = u.1 (393 + 10 * o) d + u.1 375 d ∧ m.1 41 d = w.1 79 d) ∧ (∀ d, d < n → cdZ (m.1 38 d) (m.1 39 d) (m.1 40 d) = u.1 376 d) ∧
      (∀ a, (a < 38 ∨ 41 < a) → a ≠ 200 → m.1 a = w.1 a) ∧ (∀ b, b ≠ 42 → b ≠ 43 → m.1 200 b = w.1 200 b) ∧ m.1 200 42 = w.1 200 42 + mxc w p ∧ m.1 200 43 = w.1 200 43 + 1 ∧ m.2 = w.2 ∧ t.1 (305 + o) 9 = u.1 (305 + o) 9 + 1 ∧
      (∀ a, a ≠ 305 + o → a ≠ 390 + 10 * o → a ≠ 391 + 10 * o → a ≠ 392 + 10 * o → a ≠ 393 + 10 * o → a ≠ 395 + 10 * o → a ≠ 397 + 10 * o → t.1 a = u.1 a) ∧ (∀ b, b ≠ 8 → b ≠ 9 → t.1 (305 + o) b = u.1 (305 + o) b) ∧ (∀ a, a ≠ 396 + 10 * o → t.2 a = u.2 a) ∧ 0 ≤ mxc w p ∧ mxc w p ≤ 64 := by
  have h64 := hE.n64
  have ho := hE.1
  obtain ⟨m, m1, m2, m3, m4, m5, m6, m7, m8⟩ := s_settles (N := N) (n := n) (p := p) (w := w) (Fg := Fg) hE.2.1.1 hp h75 hFg hFg2 h24 (fun e he => by have := hD.1 e he; omega) (by omega)
  obtain ⟨B, b1, b2⟩ := h_turnL (o := o) (n := n) (u0 := u) ho h64 hE.2.1.2.1 (fun (t8 : St) => lt1 (t8.1 (305 + o) 8) fun v9 => bdV (f_X3_place N o 376 64 v9 t8) fun t10 => some t10) n 0 N (u.1 (393 + 10 * o)) (by omega) (by omega) (fun e he => by omega) (fun e _ _ => rfl)
  rw [pA_self, show ((0 : Nat) : Int) = 0 from rfl] at b1
  have hne : ∀ a, a ≠ 393 + 10 * o → (pA u (393 + 10 * o) B).1 a = u.1 a := fun a ha => pA_ne ha
  have hFB : FH o (pA u (393 + 10 * o) B) (w.1 38) (w.1 39) (w.1 40) n := by
    have := hE.2.1.2
    unfold FH at this ⊢
    rw [hne (305 + o) (by omega), hne (390 + 10 * o) (by omega), hne (391 + 10 * o) (by omega), hne (392 + 10 * o) (by omega), hne (397 + 10 * o) (by omega)]
    exact this
  obtain ⟨t, p1, p2, p3, p4, p5, p6⟩ := h_place (N := N) (o := o) (n := n) (n1 := n) (q0 := 376) (t := pA u (393 + 10 * o) B) (X := fun d => 4 * (rk9 (w.1 76) (w.1 76 d) n : Int)) (Y := fun d => 4 * (rk9 (w.1 77) (w.1 77 d) n : Int)) (W := w.1 78) ho hE.2.1.1.2 hFB hD.2 (by omega) (fun d hd => by
    have h1 := hD.1 d hd
    have h2 := hD.2.2.1 d hd
    have h3 := cd_sp h2.1 h2.2.1 h2.2.2
    have h4 := cdZ_rng h2.1 h2.2.1 h2.2.2
    rw [hne 376 (by omega), h1.1]
    dsimp only at h3 h4 ⊢
    omega) (by omega)
  have hset : f_X1_settle N o u = some t := by
    unfold f_X1_settle
    rw [b1, lt1_k, hne (305 + o) (by omega), hE.2.1.2.1, p1, bdV_s]
  have hEB : EVr o (pA u (393 + 10 * o) B) w n := by
    obtain ⟨ho, h1, h2, h3, h4, h5, h6, h7, h8⟩ := hE
    refine ⟨ho, ⟨h1.1, hFB⟩, by unfold hoO; rw [hne (395 + 10 * o) (by omega)]; exact h2, h3, by rw [hne (394 + 10 * o) (by omega)]; exact h4, ?_, by rw [hne (305 + o) (by omega)]; exact h6, by rw [hne 312 (by omega)]; exact h7, fun f hf => ?_⟩
    · obtain ⟨c1, c2, c3, c4⟩ := h5
      refine ⟨by rw [hne 311 (by omega)]; exact c1, by rw [hne 311 (by omega)]; exact c2, fun f hf => by rw [hne 381 (by omega)]; exact c3 f hf, fun o2 ho2 h9 => ?_⟩
      rw [hne 311 (by omega)] at h9
      rw [hne 311 (by omega), hne (305 + o2) (by omega), hne 381 (by omega), hne 312 (by omega), hne 380 (by omega)]
      refine ⟨(c4 o2 ho2 h9).1, fun h10 f hf h11 => ?_⟩
      obtain ⟨q1, M, n2, k, q2, q3, q4, q5⟩ := (c4 o2 ho2 h9).2 h10 f hf h11
      refine ⟨q1, M, n2, k, ⟨q2.1, ?_⟩, q3, ?_, q5⟩
      · unfold FH
        rw [hne (305 + o2) (by omega), hne (390 + 10 * o2) (by omega), hne (391 + 10 * o2) (by omega), hne (392 + 10 * o2) (by omega), hne (397 + 10 * o2) (by omega)]
        exact q2.2
      · unfold fhO
        rw [hne 350 (by omega), hne 351 (by omega), hne 352 (by omega), hne 353 (by omega)]
        exact q4
    · obtain ⟨k, a1, a2⟩ := h8 f hf
      refine ⟨k, a1, ?_⟩
      unfold fhO
      rw [hne 350 (by omega), hne 351 (by omega), hne 352 (by omega), hne 353 (by omega)]
      exact a2
  have hver := hE.2.2.2.2.2.2.1
  have hE2 := hEB.pl (u := t) (w := m) hD.2 p2 p3 p4 p5 (by rw [hne (305 + o) (by omega)]; omega) p6 (fun d hd => ⟨(m2 d hd).1, (m2 d hd).2.1, (m2 d hd).2.2.1⟩) (by rw [m4 37 (by decide) (by decide)]; exact hE.2.1.1.1) (fun hg d hd => by
    have hg2 : hGd o w := by unfold hGd at hg ⊢; rw [m4 54 (by decide) (by decide)] at hg; exact hg
    rw [m3 44 (by omega) (by decide), m3 45 (by omega) (by decide), m3 46 (by omega) (by decide), hne (394 + 10 * o) (by omega)]; exact hE.2.2.2.2.1 hg2 d hd) (fun a h1 h2 => m3 a (by omega) (by omega)) (m4 14 (by decide) (by decide))
  refine ⟨t, m, hset, m1, hE2, fun d hd => ⟨?_, (m2 d hd).2.2.2⟩, fun d hd => ?_, m3, m4, m5, m6, m7, by rw [p5, hne (305 + o) (by omega)], fun a h1 h2 h3 h4 h5 h6 h7 => ?_, fun b h1 h2 => ?_, fun a h1 => ?_, m8⟩
  · rw [p6.1 (393 + 10 * o) (by omega) (by omega) (by omega) (by omega) (by omega) (by omega), pA_at]; exact b2 d hd
  · rw [(m2 d hd).1, (m2 d hd).2.1, (m2 d hd).2.2.1]; exact (hD.1 d hd).1.symm
  · rw [p6.1 a h1 h2 h3 h4 h6 h7, hne a h5]
  · rw [p6.2.1 b h1 h2, hne (305 + o) (by omega)]
  · rw [p6.2.2 a h1]; rfl
