/-! reading in lock step: a slot, whole -/
section
variable {N : Nat} {B : Nat → Int} {e mm i f n : Nat} {t m t0 m0 : St}
theorem in_k {a lo hi : Int} (ha : inR a) (hl : inR lo) (hh : inR hi) : f_X12_in N a lo hi t = some (if a < lo ∨ hi < a then 0 else 1, t) := by
  unfold f_X12_in
  rw [cmpI_ok ⟨ha, hl⟩, cmpI_ok ⟨ha, hh⟩, boI_0, boI_1]
  by_cases h1 : a < lo
  · rw [if_pos h1, if_pos (Or.inl h1)]
  · rw [if_neg h1]
    by_cases h2 : hi < a
    · rw [if_pos h2, if_pos (Or.inr h2)]
    · rw [if_neg h2, if_neg (by omega)]
theorem slot_br {X Y : Int} {Fr Q : St → St → Prop} {KH : Int → St → Option (Int × St)} {K17 K18 : St → Option (Int × St)} (hN : 5000 ≤ N) (hf : f < 40) (hn : n ≤ 7) (h : SLr f n t m) (h350 : t.1 350 f = n) (hX : inR X) (hY : inR Y) (h19 : m.1 19 (8 * f + n) = X) (h5 : m.1 200 5 = Y) (h0 : (∀ y, y < n → ¬ (m.1 19 (8 * f + y) = X ∧ m.1 20 (8 * f + y) = Y)) → SIMf B e mm Fr Q (KH 0 t) (K18 m)) (h1 : SIMf B e mm Fr Q (KH 1 t) (K17 m)) :
    SIMf B e mm Fr Q (bdI (f_X0_hasSlot N f X Y t) KH) (f_X12_slot_L112 K17 K18 (8 * (f : Int) + (n : Int)) N (8 * (f : Int)) m) := by
  rw [show 8 * (f : Int) + (n : Int) = ((8 * f + n : Nat) : Int) by omega, show 8 * (f : Int) = ((8 * f + 0 : Nat) : Int) by omega]
  rcases slot_dup hf hn h h350 hX hY h19 h5 K17 K18 n 0 N N (by omega) (by omega) (by omega) with ⟨q1, q2, q3⟩ | ⟨q1, q2⟩
  · have q1 : f_X0_hasSlot N f X Y t = some (0, t) := q1
    rw [q1, q2, bdI_s]; exact h0 (fun y hy => q3 y (by omega) hy)
  · have q1 : f_X0_hasSlot N f X Y t = some (1, t) := q1
    rw [q1, q2, bdI_s]; exact h1
theorem slot_both (hN : 5000 ≤ N) (h : PR t m B e mm 0 i) (hf : f < 40) (hn : n ≤ 8) (h14 : m.1 200 14 = f) (hO : fhO t m f n) (hR : ∀ x, x < n → (-32 ≤ m.1 19 (8 * f + x) ∧ m.1 19 (8 * f + x) ≤ 32) ∧ (-32 ≤ m.1 20 (8 * f + x) ∧ m.1 20 (8 * f + x) ≤ 32)) :
    SIMf B e mm (fun u v => FSh f t u ∧ FSm f m v) (RSl B e mm i f n t m) (f_X7_readSlot N f t) (f_X12_slot N n m) := by
  have hq := tq_of h
  generalize hk9 : cKd B e (ch B e i) = w at hq
  have n3 := hq.n3
  unfold f_X7_readSlot f_X12_slot
  simp only [lt1_k, jn1_k]
  rw [nf_at hq (by omega) (by omega), h14, cmpI_ok (show inR (m.1 200 3) ∧ inR 3 by omega)]
  by_cases h39 : w = 39
  · have hlt := tq_lt h (by omega)
    have hV := n3.2.2 h39
    rw [if_pos h39, if_pos (n3.1.mpr h39), in_k (show inR (m.1 200 5) by omega) (by omega) (by omega), bdI_s]
    generalize hX : m.1 200 5 = X at *
    have hT : PR (pI t 303 8 X) m B e mm 0 i := h.pt (by omega)
    by_cases hv : X < -32 ∨ 32 < X
    · rw [if_pos hv, if_pos hv, bdI_s, cmpI_ok (a := 4) (b := 0) (by omega), if_neg (show ¬ (4 : Int) = 0 by decide), cmpI_ok (a := 4) (b := 0) (by omega), if_neg (show ¬ (4 : Int) = 0 by decide), cmpI_ok (a := 0) (b := 0) (by omega), if_pos (show (0 : Int) = 0 from rfl)]
      exact flt_s 4 hT (by omega) FSh.p FSm.rf
    · rw [if_neg hv, if_neg hv, bdI_s, cmpI_ok (a := 0) (b := 0) (by omega), if_pos (show (0 : Int) = 0 from rfl), ixI_ok (by omega), Int.toNat_natCast, show (pI t 303 8 X).1 350 f = (n : Int) by rw [pI_ne (by decide)]; exact hO.1, cmpI_ok (show inR (n : Int) ∧ inR 8 by omega), cmpI_ok (a := 1) (b := 0) (by omega), if_neg (show ¬ (1 : Int) = 0 by decide), cmpI_ok (show inR (n : Int) ∧ inR 8 by omega)]
      by_cases h8 : n = 8
      · rw [if_neg (show ¬ (n : Int) < 8 by omega), if_pos (show (n : Int) = 8 by omega), cmpI_ok (a := 5) (b := 0) (by omega), if_neg (show ¬ (5 : Int) = 0 by decide)]
        exact flt_s 5 hT (by omega) FSh.p FSm.rf
      · rw [if_pos (show (n : Int) < 8 by omega), if_neg (show ¬ (n : Int) = 8 by omega), cmpI_ok (a := 0) (b := 0) (by omega), if_pos (show (0 : Int) = 0 from rfl), ixI_ok (by omega), show (8 * (f : Int) + (n : Int)).toNat = 8 * f + n by omega]
        obtain ⟨u1, v1, p1, p2, p3, p4, p5⟩ := nx0 (N := N) (hT.s (k := 19) (q := 8 * f + n) (v := X) (by omega)) hlt hN
        rw [p1, bdI_s, p2, bdV_s]
        have a1 : FSh f t u1 := FSh.p.tr (FSh.c p4)
        have b1 : FSm f m v1 := (FSm.s (by omega) (by omega)).tr (FSm.c p5)
        have c1 : ∀ x y : Nat, (x < 19 ∨ 22 < x ∨ y < 8 * f + n) → x ≠ 200 → v1.1 x y = m.1 x y := fun x y z1 z2 => by
          rw [p5.1 x y (Or.inl z2)]
          by_cases hx : x = 19
          · subst hx; rw [pI_nf (by omega)]
          · rw [pI_ne hx]
        have d1 : ∀ x y : Nat, 350 ≤ x → x ≤ 353 → u1.1 x y = t.1 x y := fun x y z1 z2 => by rw [p4.1 x y (by omega) (by omega), pI_ne (by omega)]
        have e19 : v1.1 19 (8 * f + n) = X := by rw [p5.1 19 _ (by omega), pI_at]
        have f14 : v1.1 200 14 = f := by rw [p5.1 200 14 (by omega), pI_ne (by decide)]; exact h14
        have hq1 := tq_of p3
        generalize hk1 : cKd B e (ch B e (i + 1)) = w1 at hq1
        have n31 := hq1.n3
        rw [nf_at hq1 (by omega) (by omega), cmpI_ok (show inR (v1.1 200 3) ∧ inR 3 by omega)]
        by_cases h391 : w1 = 39
        · have hlt1 := tq_lt p3 (by omega)
          have hV1 := n31.2.2 h391
          rw [if_pos h391, if_pos (n31.1.mpr h391), in_k (show inR (v1.1 200 5) by omega) (by omega) (by omega), bdI_s]
          generalize hY : v1.1 200 5 = Y at *
          have hT1 : PR (pI u1 303 8 Y) v1 B e mm 0 (i + 1) := p3.pt (by omega)
          by_cases hv1 : Y < -32 ∨ 32 < Y
          · rw [if_pos hv1, if_pos hv1, bdI_s, cmpI_ok (a := 4) (b := 0) (by omega), if_neg (show ¬ (4 : Int) = 0 by decide), cmpI_ok (a := 4) (b := 0) (by omega), if_neg (show ¬ (4 : Int) = 0 by decide), cmpI_ok (a := 0) (b := 0) (by omega), if_pos (show (0 : Int) = 0 from rfl)]
            exact flt_s 4 hT1 (by omega) (a1.tr FSh.p) b1
          · rw [if_neg hv1, if_neg hv1, bdI_s, cmpI_ok (a := 0) (b := 0) (by omega), if_pos (show (0 : Int) = 0 from rfl), cmpI_ok (a := 1) (b := 0) (by omega), if_neg (show ¬ (1 : Int) = 0 by decide), f14, pI_at, pI_at]
            refine slot_br (t := pI u1 303 8 Y) hN hf (by omega) (fun x hx => ?_) (by rw [pI_ne (by decide), d1 350 f (by omega) (by omega)]; exact hO.1) (by omega) (by omega) e19 hY ?_ ?_
            · have ho := (hO.2 x hx).1 0 (by omega)
              have hr := hR x hx
              rw [c1 19 (8 * f + x) (by omega) (by omega), c1 20 (8 * f + x) (by omega) (by omega), pI_ne (by decide), pI_ne (by decide), d1 351 _ (by omega) (by omega), d1 352 _ (by omega) (by omega), show (f * 8 + x) * 4 = 4 * (8 * f + x) + 0 by omega]
              exact ⟨ho.1, ho.2, by omega, by omega⟩
            · intro hD1
              have hD : ∀ x, x < n → ¬ (m.1 19 (8 * f + x) = X ∧ m.1 20 (8 * f + x) = Y) := fun x hx => by
                rw [← c1 19 (8 * f + x) (by omega) (by omega), ← c1 20 (8 * f + x) (by omega) (by omega)]; exact hD1 x hx
              rw [cmpI_ok (a := 0) (b := 0) (by omega), if_pos (show (0 : Int) = 0 from rfl), cmpI_ok (a := 0) (b := 0) (by omega), if_pos (show (0 : Int) = 0 from rfl), ixI_ok (show 0 ≤ 8 * (f : Int) + (n : Int) ∧ 8 * (f : Int) + (n : Int) < 320 by omega), hY]
              obtain ⟨u2, v2, r1, r2, r3, r4, r5⟩ := nx0 (N := N) (hT1.s (k := 20) (q := 8 * f + n) (v := Y) (by omega)) hlt1 hN
              rw [r1, bdI_s, r2, bdV_s, show (pI u1 303 8 Y).1 303 8 = Y from pI_at]
              have a2 : FSh f t u2 := (a1.tr FSh.p).tr (FSh.c r4)
              have b2 : FSm f m v2 := (b1.tr (FSm.s (by omega) (by omega))).tr (FSm.c r5)
              have c2 : ∀ x y : Nat, (x < 19 ∨ 22 < x ∨ y < 8 * f + n) → x ≠ 200 → v2.1 x y = m.1 x y := fun x y z1 z2 => by
                rw [r5.1 x y (Or.inl z2), ← c1 x y z1 z2]
                by_cases hx : x = 20
                · subst hx; rw [pI_nf (by omega)]
                · rw [pI_ne hx]
              have d2 : ∀ x y : Nat, 350 ≤ x → x ≤ 353 → u2.1 x y = t.1 x y := fun x y z1 z2 => by rw [r4.1 x y (by omega) (by omega), pI_ne (by omega), d1 x y z1 z2]
              have e192 : v2.1 19 (8 * f + n) = X := by rw [r5.1 19 _ (by omega), pI_ne (by decide)]; exact e19
              have e202 : v2.1 20 (8 * f + n) = Y := by rw [r5.1 20 _ (by omega), pI_at]
              have hq2 := tq_of r3
              generalize hk2 : cKd B e (ch B e (i + 1 + 1)) = w2 at hq2
              have hr2 := hq2.rng
              rw [hq2.1, cmpI_ok (show inR (w2 - 31) ∧ inR 0 by omega), cmpI_ok (show inR (w2 - 31) ∧ inR 4 by omega)]
              have hbad : SIMf B e mm (fun u v => FSh f t u ∧ FSm f m v) (RSl B e mm i f n t m) (bdI (f_X7_wrong N 1 u2) fun x y => boI x (some (x, y))) (bdI (f_X12_wrong N 1 v2) fun x y => boI x (some (x, y))) := flt_s 1 r3 (by omega) a2 b2
              by_cases z37 : w2 ≤ 37
              · have hw := hq2.wd z37
                rw [hw.1, cmpI_ok (a := 1) (b := 1) (by omega), if_pos (show (1 : Int) = 1 from rfl), hw.2, in_k (show inR w2 by omega) (by omega) (by omega), bdI_s]
                by_cases z31 : w2 < 31
                · rw [if_pos (show w2 - 31 < 0 by omega), if_pos (show w2 < 31 ∨ 35 < w2 by omega), cmpI_ok (a := 0) (b := 0) (by omega), if_pos (show (0 : Int) = 0 from rfl)]
                  exact hbad
                · rw [if_neg (show ¬ w2 - 31 < 0 by omega)]
                  by_cases z35 : 35 < w2
                  · rw [if_pos (show 4 < w2 - 31 by omega), if_pos (show w2 < 31 ∨ 35 < w2 by omega), cmpI_ok (a := 0) (b := 0) (by omega), if_pos (show (0 : Int) = 0 from rfl)]
                    exact hbad
                  · rw [if_neg (show ¬ 4 < w2 - 31 by omega), if_neg (show ¬ (w2 < 31 ∨ 35 < w2) by omega), cmpI_ok (a := 1) (b := 0) (by omega), if_neg (show ¬ (1 : Int) = 0 by decide), ixI_ok (show 0 ≤ 8 * (f : Int) + (n : Int) ∧ 8 * (f : Int) + (n : Int) < 320 by omega), hw.2]
                    have hlt2 := tq_lt r3 (by omega)
                    obtain ⟨u3, v3, s1, s2, s3, s4, s5⟩ := nx0 (N := N) (r3.s (k := 21) (q := 8 * f + n) (v := w2 - 31) (by omega)) hlt2 hN
                    rw [s1, bdI_s, s2, bdV_s]
                    have a3 : FSh f t u3 := a2.tr (FSh.c s4)
                    have b3 : FSm f m v3 := (b2.tr (FSm.s (by omega) (by omega))).tr (FSm.c s5)
                    have c3 : ∀ x y : Nat, (x < 19 ∨ 22 < x ∨ y < 8 * f + n) → x ≠ 200 → v3.1 x y = m.1 x y := fun x y z1 z2 => by
                      rw [s5.1 x y (Or.inl z2), ← c2 x y z1 z2]
                      by_cases hx : x = 21
                      · subst hx; rw [pI_nf (by omega)]
                      · rw [pI_ne hx]
                    have d3 : ∀ x y : Nat, 350 ≤ x → x ≤ 353 → u3.1 x y = t.1 x y := fun x y z1 z2 => by rw [s4.1 x y (by omega) (by omega), d2 x y z1 z2]
                    have g19 : v3.1 19 (8 * f + n) = X := by rw [s5.1 19 _ (by omega), pI_ne (by decide)]; exact e192
                    have g20 : v3.1 20 (8 * f + n) = Y := by rw [s5.1 20 _ (by omega), pI_ne (by decide)]; exact e202
                    have g21 : v3.1 21 (8 * f + n) = w2 - 31 := by rw [s5.1 21 _ (by omega), pI_at]
                    have hq3 := tq_of s3
                    generalize hk3 : cKd B e (ch B e (i + 1 + 1 + 1)) = w3 at hq3
                    have hr3 := hq3.rng
                    have hnext : ∀ R : Int, (R = 1 ∨ R = 2) → i + 1 + 1 + 1 < mm → ∃ u4 v4 : St, f_X7_pass N u3 = some (1, u4) ∧ f_X12_next N (pI v3 22 (8 * f + n) R) = some v4 ∧ ∃ u5, f_X0_addSlot N f X Y (w2 - 31 + 8 * (if R = 0 then 2 else R - 1)) u4 = some u5 ∧ RSl B e mm i f n t m u5 v4 := fun R hR2 hl3 => by
                      obtain ⟨u4, v4, o1, o2, o3, o4, o5⟩ := nx0 (N := N) (s3.s (k := 22) (q := 8 * f + n) (v := R) (by omega)) hl3 hN
                      refine ⟨u4, v4, o1, o2, slot_end o3 hf (by omega) hN (a3.tr (FSh.c o4)) ((b3.tr (FSm.s (by omega) (by omega))).tr (FSm.c o5)) (fun x y z1 z2 => ?_) (fun x y z1 z2 => by rw [o4.1 x y (by omega) (by omega), d3 x y z1 z2]) hO (by omega) (by omega) (by omega) (by rw [o5.1 19 _ (by omega), pI_ne (by decide)]; exact g19) (by rw [o5.1 20 _ (by omega), pI_ne (by decide)]; exact g20) (by rw [o5.1 21 _ (by omega), pI_ne (by decide)]; exact g21) (by rw [o5.1 22 _ (by omega), pI_at]) (by omega) (by omega) hD⟩
                      rw [o5.1 x y (Or.inl z2), ← c3 x y z1 z2]
                      by_cases hx : x = 22
                      · subst hx; rw [pI_nf (by omega)]
                      · rw [pI_ne hx]
                    rw [hq3.1, cmpI_ok (show inR w3 ∧ inR 36 by omega), k_isKey hq3 (by omega), bdI_s, cmpI_ok (show inR w3 ∧ inR 37 by omega)]
                    by_cases z36 : w3 = 36
                    · obtain ⟨u4, v4, o1, o2, u5, o3, o4⟩ := hnext 1 (Or.inl rfl) (tq_lt s3 (by omega))
                      rw [if_pos z36, if_pos z36, cmpI_ok (a := 1) (b := 0) (by omega), if_neg (show ¬ (1 : Int) = 0 by decide), ixI_ok (show 0 ≤ 8 * (f : Int) + (n : Int) ∧ 8 * (f : Int) + (n : Int) < 320 by omega), ixI_ok (show 0 ≤ 8 * (f : Int) + (n : Int) ∧ 8 * (f : Int) + (n : Int) < 320 by omega), pI_at, cmpI_ok (a := 1) (b := 0) (by omega), if_pos (show (0 : Int) < 1 by decide), o1, bdI_s, o2, bdV_s, z36]
                      exact Or.inr ⟨u5, v4, by rw [show w2 - 31 + 8 * (36 - 36) = w2 - 31 + 8 * (if (1 : Int) = 0 then 2 else 1 - 1) from rfl, o3, bdV_s, boI_1], by rw [boI_1], o4⟩
                    · rw [if_neg z36, if_neg z36, cmpI_ok (a := 0) (b := 0) (by omega), if_pos (show (0 : Int) = 0 from rfl), k_isKey hq3 (by omega), bdI_s]
                      by_cases z37' : w3 = 37
                      · obtain ⟨u4, v4, o1, o2, u5, o3, o4⟩ := hnext 2 (Or.inr rfl) (tq_lt s3 (by omega))
                        rw [if_pos z37', if_pos z37', cmpI_ok (a := 1) (b := 0) (by omega), if_neg (show ¬ (1 : Int) = 0 by decide), ixI_ok (show 0 ≤ 8 * (f : Int) + (n : Int) ∧ 8 * (f : Int) + (n : Int) < 320 by omega), ixI_ok (show 0 ≤ 8 * (f : Int) + (n : Int) ∧ 8 * (f : Int) + (n : Int) < 320 by omega), pI_at, cmpI_ok (a := 2) (b := 0) (by omega), if_pos (show (0 : Int) < 2 by decide), o1, bdI_s, o2, bdV_s, z37']
                        exact Or.inr ⟨u5, v4, by rw [show w2 - 31 + 8 * (37 - 36) = w2 - 31 + 8 * (if (2 : Int) = 0 then 2 else 2 - 1) from rfl, o3, bdV_s, boI_1], by rw [boI_1], o4⟩
                      · rw [if_neg z37', if_neg z37', cmpI_ok (a := 0) (b := 0) (by omega), if_pos (show (0 : Int) = 0 from rfl), ixI_ok (show 0 ≤ 8 * (f : Int) + (n : Int) ∧ 8 * (f : Int) + (n : Int) < 320 by omega), ixI_ok (show 0 ≤ 8 * (f : Int) + (n : Int) ∧ 8 * (f : Int) + (n : Int) < 320 by omega), pI_at, cmpI_ok (a := 0) (b := 0) (by omega), if_neg (show ¬ (0 : Int) < 0 by decide)]
                        obtain ⟨u5, o3, o4⟩ := slot_end (N := N) (R := 0) (W := w2 - 31) (s3.s (k := 22) (q := 8 * f + n) (v := 0) (by omega)) hf (by omega) hN a3 (b3.tr (FSm.s (by omega) (by omega))) (fun x y z1 z2 => by
                          rw [← c3 x y z1 z2]
                          by_cases hx : x = 22
                          · subst hx; rw [pI_nf (by omega)]
                          · rw [pI_ne hx]) d3 hO (show i < i + 1 + 1 + 1 by omega) (X := X) (Y := Y) (by omega) (by omega) (by rw [pI_ne (by decide)]; exact g19) (by rw [pI_ne (by decide)]; exact g20) (by rw [pI_ne (by decide)]; exact g21) pI_at (by omega) (by omega) hD
                        exact Or.inr ⟨u5, _, by rw [show w2 - 31 + 8 * 2 = w2 - 31 + 8 * (if (0 : Int) = 0 then 2 else 0 - 1) from rfl, o3, bdV_s, boI_1], by rw [boI_1], o4⟩
              · have hw := hq2.nw (by omega)
                rw [cmpI_ok (show inR (v2.1 200 3) ∧ inR 1 by omega), if_neg hw.1, if_neg (show ¬ w2 - 31 < 0 by omega), if_pos (show 4 < w2 - 31 by omega)]
                exact hbad
            · rw [cmpI_ok (a := 1) (b := 0) (by omega), if_neg (show ¬ (1 : Int) = 0 by decide), cmpI_ok (a := 7) (b := 0) (by omega), if_neg (show ¬ (7 : Int) = 0 by decide)]
              exact flt_s 7 hT1 (by omega) (a1.tr FSh.p) b1
        · rw [if_neg h391, if_neg (fun q => h391 (n31.1.mp q)), bdI_s, cmpI_ok (a := 1) (b := 0) (by omega), if_neg (show ¬ (1 : Int) = 0 by decide), cmpI_ok (a := 1) (b := 0) (by omega), if_neg (show ¬ (1 : Int) = 0 by decide)]
          exact flt_s 1 p3 (by omega) a1 b1
  · rw [if_neg h39, if_neg (fun q => h39 (n3.1.mp q)), bdI_s, cmpI_ok (a := 1) (b := 0) (by omega), if_neg (show ¬ (1 : Int) = 0 by decide), cmpI_ok (a := 1) (b := 0) (by omega), if_neg (show ¬ (1 : Int) = 0 by decide)]
    exact flt_s 1 h (by omega) FSh.rf FSm.rf
end
