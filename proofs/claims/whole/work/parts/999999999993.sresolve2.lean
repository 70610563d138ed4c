/-! resolve: the end -/
theorem GRs.b102 {t m : St} (h : GRs t m) : 0 ≤ m.1 200 102 ∧ m.1 200 102 ≤ 12 := by
  rcases h with h | ⟨L, S, w, a, B, h1, _, _, _, h5⟩
  · exact ⟨h.2.2.2.2.1, h.2.2.2.2.2⟩
  · have := h1.1.1.1
    rcases h5 with h5 | ⟨_, _, _, h6, h7, _⟩
    · exact ⟨h5.2.2.1, h5.2.2.2⟩
    · omega
theorem RSm.ex {m v v2 : St} (h : RSm m v) (e1 : ∀ x, x ≠ 96 → x ≠ 97 → v2.1 x = v.1 x) (e2 : ∀ x, x ≠ 95 → x ≠ 200 → v2.2 x = v.2 x) (e3 : ∀ b, b ≠ 100 → v2.2 200 b = v.2 200 b) : RSm m v2 := by
  obtain ⟨h1, h2, h3, h4, h5⟩ := h
  refine ⟨fun x z1 z2 z3 z4 z5 z6 z7 => by rw [e1 x (by omega) (by omega), h1 x z1 z2 z3 z4 z5 z6 z7], ?_, fun b z1 z2 z3 z4 z5 z6 z7 => by rw [e1 200 (by decide) (by decide), h3 b z1 z2 z3 z4 z5 z6 z7], fun x z1 z2 z3 => by rw [e2 x z2 z3, h4 x z1 z2 z3], fun b hb => by rw [e3 b hb, h5 b hb]⟩
  rw [e1 38 (by decide) (by decide), e1 39 (by decide) (by decide), e1 40 (by decide) (by decide), e1 41 (by decide) (by decide)]
  exact h2
section
variable {N n : Nat} {t m : St}
set_option maxHeartbeats 1000000 in
theorem resolve_both {e : Nat} {a0 : Int} (hN : 100000 ≤ N) (hn1 : 1 ≤ n) (hE : EVr 0 t m n) (h16 : n ≤ 16 → SNd n e t m) (ha : inR a0) (hG : GRs t m) :
    (f_X11_resolve N a0 t = some (-3, t) ∧ f_X12_resolve N a0 m = some (-3, m)) ∨
    ∃ (u v : St) (S : Nat) (r : Int), n ≤ 16 ∧ f_X11_resolve N a0 t = some (r, u) ∧ f_X12_resolve N a0 m = some (r, v) ∧ SXh t u ∧ RSm m v ∧ (CIk u ∧ FLr 1 u ∧ LIn u) ∧ (u.1 304 11 ≤ t.1 304 11 + 2048 * (S : Int) ∧ 0 ≤ u.1 306 9 ∧ u.1 306 9 ≤ t.1 306 9 + (S : Int)) ∧ (u.1 310 13 = ((e + S : Nat) : Int) ∧ v.1 200 89 = ((e + S : Nat) : Int) ∧ e + S ≤ 10000) ∧ GRs u v := by
  have h8 : t.1 (305 + 0) 8 = n := hE.2.1.2.1
  have h37 := hE.2.1.1.1
  have h64 := hE.n64
  by_cases c1 : a0 < 0 ∨ 12 < a0
  · left
    constructor
    · unfold f_X11_resolve
      rcases c1 with c1 | c1
      · rw [cmpI_ok (by omega), if_pos c1]
      · rw [cmpI_ok (by omega), if_neg (by omega), cmpI_ok (by omega), if_pos c1]
    · unfold f_X12_resolve
      rw [in_k (by omega) (by omega) (by omega), bdI_s, if_pos c1, cmpI_ok (by omega), if_pos rfl]
  by_cases c2 : 16 < n
  · left
    constructor
    · unfold f_X11_resolve
      simp only [lt1_k]
      rw [cmpI_ok (by omega), if_neg (by omega), cmpI_ok (by omega), if_neg (by omega), h8, cmpI_ok (by omega), if_pos (by omega)]
    · unfold f_X12_resolve
      simp only [lt1_k]
      rw [in_k (by omega) (by omega) (by omega), bdI_s, if_neg (by omega), cmpI_ok (by omega), if_neg (by decide), h37, cmpI_ok (by omega), if_pos (by omega)]
  right
  obtain ⟨most, hmost⟩ : ∃ most : Nat, a0 = most := ⟨a0.toNat, by omega⟩
  subst hmost
  have hS := h16 (by omega)
  obtain ⟨u, v, S, r, a1, a2, a3, a4, a5, a6, a7, a8, a9, a10, a11⟩ := m_search (N := N) hN ⟨hn1, by omega⟩ (show most ≤ 12 by omega) hS
  have h102 := hG.b102
  have e102 : v.1 200 102 = m.1 200 102 := a2.2.2.1 102 (by omega) (by omega) (by omega) (by omega) (by omega) (by omega) (by omega)
  have hun : f_X11_resolve N most t = (bdI (f_X9_explore N 0 320 64 most t) fun v3 t2 => some (v3, t2)) := by
    unfold f_X11_resolve
    simp only [lt1_k]
    rw [cmpI_ok (by omega), if_neg (by omega), cmpI_ok (by omega), if_neg (by omega), h8, cmpI_ok (by omega), if_neg (by omega)]
  rcases a11 with ⟨b1, b2⟩ | ⟨L, a, w, B, b1, b2, b3, b4, b5, b6, b7, b8, b9, b10, b11, b12, b13, b14, b15⟩
  · refine ⟨u, v, S, r, by omega, by rw [hun, b2, bdI_s], by rw [a10, cmpI_ok (by omega), if_pos (by omega)], a1, a2, a3, a4, a5, Or.inl ⟨a6.1, a6.2.1, a7, a8, by rw [e102]; exact h102⟩⟩
  · -- rows are found
    have hw32 : w ≤ 32 := by obtain ⟨_, _, n9, _⟩ := hS.1.1.2.1; omega
    have hB2 : BK0 u v := hS.1.1.rs a1 a2
    have e17 : v.1 200 17 = m.1 200 17 := a2.2.2.1 17 (by omega) (by omega) (by omega) (by omega) (by omega) (by omega) (by omega)
    obtain ⟨v1, p1, p2, _, p4, p5⟩ := pr_lp (N := N) (t := u) (by omega) hw32 w 0 N v (by omega) (by omega) hB2 b7 (by rw [e17]; omega)
    obtain ⟨v2, w1, w2, w3, _, w5⟩ := wz_lp (S := S) (a := a) b9 b3 S 0 N v1 (by omega) (by omega) (by rw [p2 200 (by decide)]; exact b8) (by rw [p2 200 (by decide)]; exact b5)
    have v2o : ∀ x, x ≠ 96 → x ≠ 97 → v2.1 x = v.1 x := fun x z1 z2 => by rw [w2 x z1, p2 x z2]
    -- the hall
    generalize ht1 : pI u 310 14 (L : Int) = t1
    have t1o : ∀ x, x ≠ 310 → t1.1 x = u.1 x := fun x hx => by rw [← ht1, pI_ne hx]
    have t1y : ∀ y, y ≠ 14 → t1.1 310 y = u.1 310 y := fun y hy => by rw [← ht1, pI_nf hy]
    have t114 : t1.1 310 14 = L := by rw [← ht1, pI_at]
    have t1L : t1.2 = u.2 := by rw [← ht1]; rfl
    obtain ⟨t2, f1, f2, f3, f4⟩ := h_fill64 (N := N) (q0 := 434) (n0 := 2000) (v := 0) (t := t1) (by decide) (by omega)
    generalize ht4 : pI (pL t2 434 a (1 : Int64)) 435 a 0 = t4
    have t4o : ∀ x, x ≠ 435 → t4.1 x = t1.1 x := fun x hx => by rw [← ht4, pI_ne hx]; show t2.1 x = t1.1 x; rw [f2]
    have t4L : ∀ x, x ≠ 434 → t4.2 x = u.2 x := fun x hx => by rw [← ht4]; show (pL t2 434 a (1 : Int64)).2 x = u.2 x; rw [pL_ne hx, f3 x hx, t1L]
    have t4w : ∀ z, z < S → t4.2 434 z = if z = a then 1 else 0 := fun z hz => by
      rw [← ht4]
      show (pL t2 434 a (1 : Int64)).2 434 z = _
      by_cases hza : z = a
      · rw [hza, pL_at, if_pos rfl]
      · rw [pL_nf hza, if_neg hza, f4 z (by omega)]
    have t4p : t4.1 435 a = 0 := by rw [← ht4, pI_at]
    have hX : FXl L S w B t4 v2 := by
      refine ⟨⟨by omega, b9, hw32⟩, b12, fun k hk => ?_, ?_, ?_, fun i hi => ?_, ?_⟩
      · rw [t4o 433 (by decide), t1o 433 (by decide)]; exact b13 k hk
      · rw [v2o 93 (by decide) (by decide)]; exact b14
      · rw [t4o 432 (by decide), t1o 432 (by decide), v2o 94 (by decide) (by decide)]; exact b11.1
      · rw [t4o 362 (by decide), t1o 362 (by decide), w2 97 (by decide)]
        have := p4 i (by omega) hi
        rw [this.1]
        exact ⟨rfl, this.2⟩
      · rw [t4o 310 (by decide), t1y 12 (by decide)]; exact b10
    have hDN : DNk L S w a L B t4 v2 := by
      refine ⟨hX, ⟨by rw [v2o 200 (by decide) (by decide)]; exact b7, by rw [v2o 200 (by decide) (by decide)]; exact b8⟩, fun j z j1 j2 j3 => ?_, fun z hz => ?_, fun z z1 z2 => by omega, b4, b3, ?_⟩
      · have hzS : z < S := by
          have := hX.mono (show j + 1 ≤ L + 1 by omega) (Nat.le_refl _)
          rw [b12.2.2] at this
          omega
        have q1 := w5 z (by omega) hzS
        refine ⟨by rw [t4w z hzS, q1.2], fun hn => ?_, by rw [q1.1]; omega, ?_⟩
        · by_cases hza : z = a
          · rw [hza] at q1 ⊢; rw [t4p, q1.1]
          · rw [q1.2, if_neg hza] at hn
            exact absurd rfl hn
        · rw [q1.2]
          have h1 : 1 ≤ 32 ^ (L - j) := Nat.one_le_pow _ _ (by omega)
          by_cases hza : z = a
          · rw [if_pos hza]; exact Nat.le_trans (by decide) h1
          · rw [if_neg hza]; exact Nat.le_trans (by decide) h1
      · have hBS : B L ≤ S := by rw [← b12.2.2]; exact hX.mono (by omega) (by omega)
        have q1 := w5 z (by omega) (by omega)
        rw [q1.1, q1.2, if_neg (by omega)]
        exact ⟨rfl, rfl⟩
      · rw [(w5 a (by omega) b3).2, if_pos rfl]
    obtain ⟨u5, v5, g1, g2, g3, g4⟩ := rl_lp (N := N) hN L t4 v2 (Nat.le_refl _) hDN
    have hpos : v5.2 95 0 ≠ 0 := ways_pos g3 (by
      rw [g2.1 94 (by decide), g2.1 93 (by decide), v2o 94 (by decide) (by decide), v2o 93 (by decide) (by decide)]
      exact b11.2.1)
    have u5o : ∀ x, x ≠ 310 → x ≠ 435 → u5.1 x = u.1 x := fun x z1 z2 => by rw [g1.1 x z2, t4o x z2, t1o x z1]
    have u5y : ∀ y, y ≠ 14 → u5.1 310 y = u.1 310 y := fun y hy => by rw [g1.1 310 (by decide), t4o 310 (by decide), t1y y hy]
    have u514 : u5.1 310 14 = L := by rw [g1.1 310 (by decide), t4o 310 (by decide)]; exact t114
    have u5L : ∀ x, x ≠ 434 → u5.2 x = u.2 x := fun x hx => by rw [g1.2 x hx, t4L x hx]
    have v5o : ∀ x, x ≠ 96 → x ≠ 97 → v5.1 x = v.1 x := fun x z1 z2 => by rw [g2.1 x z1, v2o x z1 z2]
    have v5L : ∀ x, x ≠ 95 → v5.2 x = v.2 x := fun x hx => by rw [g2.2 x hx, w3 x hx, p5]
    have hq : N - L - 1 + L + 1 = N := by omega
    have hRS : RSm m (pL v5 200 100 (v5.2 95 0)) := a2.ex (fun x z1 z2 => v5o x z1 z2) (fun x z1 z2 => by rw [pL_ne z2, v5L x z1]) (fun b hb => by rw [pL_nf hb, v5L 200 (by decide)])
    have e91 : v5.1 200 91 = L := by rw [v5o 200 (by decide) (by decide), a9, b1]
    refine ⟨u5, pL v5 200 100 (v5.2 95 0), S, L, by omega, ?_, ?_, a1.tr ⟨fun x _ _ z3 _ _ _ z7 => u5o x z3 (by omega), fun b _ => by rw [u5o 304 (by decide) (by decide)], fun b _ _ => by rw [u5o 306 (by decide) (by decide)], fun y hy => u5y y (by omega), fun b _ _ _ => by rw [u5o 311 (by decide) (by decide)], fun x _ _ _ _ _ _ z7 _ => u5L x z7⟩, hRS, ⟨a3.1.ch (fun x hx => u5o x (by omega) (by omega)) (u5L 311 (by decide)), a3.2.1.c (fun x hx => u5o x (by omega) (by omega)), a3.2.2.f (by rw [u5o 304 (by decide) (by decide)]) (u5o 378 (by decide) (by decide))⟩, by rw [u5o 304 (by decide) (by decide), u5o 306 (by decide) (by decide)]; exact a4, ⟨by rw [u5y 13 (by decide)]; exact a5.1, ?_, a5.2.2⟩, Or.inr ⟨L, S, w, a, B, ?_, ?_, ⟨u514, ?_, ?_⟩, ?_, Or.inl ⟨?_, ?_, ?_, ?_⟩⟩⟩
    · rw [hun, b15]
      have := (g4 (fun (t16 : St) => some t16) (fun _ => none) (N - L - 1) 0).1
      rw [hq] at this
      unfold f_X9_findRows
      simp only [lt1_k]
      rw [ht1, f1, bdV_s, ixI_ok (by omega), ixI_ok (by omega), Int.toNat_natCast, ht4, this, bdV_s, bdI_s]
    · rw [a10, cmpI_ok (by omega), if_neg (by omega)]
      rw [show (0 : Int) = ((0 : Nat) : Int) from rfl, p1, w1]
      have := (g4 (fun _ => none) (fun (t50 : St) => ixI 0 2000 (some ((pL t50 200 100 (t50.2 95 (0 : Int).toNat)).1 200 91, pL t50 200 100 (t50.2 95 (0 : Int).toNat)))) 0 (N - L - 1)).2
      rw [hq] at this
      rw [v2o 200 (by decide) (by decide), a9, b1]
      refine this.trans ?_
      rw [ixI_ok (by omega)]
      show some (v5.1 200 91, pL v5 200 100 (v5.2 95 0)) = some ((L : Int), pL v5 200 100 (v5.2 95 0))
      rw [e91]
    · show v5.1 200 89 = _
      rw [v5o 200 (by decide) (by decide)]; exact a5.2.1
    · exact g3.c rfl rfl (fun _ _ => rfl) rfl rfl rfl rfl rfl (by rw [pL_ne (by decide)]) rfl rfl ⟨rfl, rfl⟩
    · rw [pL_ne (by decide)]; exact hpos
    · exact e91
    · rw [pL_at, pL_ne (by decide)]
    · show (w : Int) ≤ v5.1 200 17
      rw [v5o 200 (by decide) (by decide), e17]; omega
    · rw [u5y 16 (by decide)]; exact a6.2.1
    · show v5.1 200 101 = -1
      rw [v5o 200 (by decide) (by decide)]; exact a8
    · show 0 ≤ v5.1 200 102
      rw [v5o 200 (by decide) (by decide), e102]; exact h102.1
    · show v5.1 200 102 ≤ 12
      rw [v5o 200 (by decide) (by decide), e102]; exact h102.2
end
