/-! a text is begun; named against named -/
section
variable {N : Nat} {B : Nat → Int} {e mm i : Nat} {t m u v : St}
theorem rd_start (hN : 5000 ≤ N) (hB : BK0 t m) (hT : TXt t m) (hkw : kwOK t) : ∃ (B : Nat → Int) (e mm : Nat) (t1 u v : St), f_X10_read N t = some t1 ∧ f_X7_startText N t1 = some u ∧ f_X12_opensText N m = some v ∧ PR u v B e mm 0 0 ∧ u.1 303 6 = 0 ∧ BK0 u v ∧ RDh t u ∧ RDm m v ∧ t1.1 302 18 = t.1 302 18 := by
  obtain ⟨⟨e, he, x1, x2, x3⟩, hby⟩ := hT
  obtain ⟨t1, mm, a1, a2, a3, a4⟩ := s_read (N := N) (t := t) (B := fun i => m.1 0 i % 256) (e := e) ⟨x1, he, x3, fun i _ => ⟨Int.emod_nonneg _ (by decide), Int.emod_lt_of_pos _ (by decide)⟩⟩ hkw hN
  obtain ⟨v0, b1, b2, b3, b4⟩ := op_text (N := N) (B := fun i => m.1 0 i % 256) hN he x2 hby (fun i _ => rfl)
  have hBn := hB.2.1
  obtain ⟨⟨a0, c0, n1, n2, n3, n4, n4'⟩, _⟩ := hBn
  obtain ⟨u0, d1, d2, d3, d4, d5⟩ := st_text (N := N) a4 b2 b3 (by rw [a2.1 302 19 (by omega) (by omega) (by omega) (by omega), b4.1 200 33 (by omega)]; omega)
  have U0 : ∀ x y, x ≠ 332 → x ≠ 333 → x ≠ 334 → x ≠ 301 → x ≠ 303 → u0.1 x y = t.1 x y := fun x y z1 z2 z3 z4 z6 => by rw [d3 x z6, a2.1 x y z1 z2 z3 (by omega)]
  refine ⟨_, e, mm, t1, u0, v0, a1, d1, b1, d2, d5, ?_, ⟨fun a b z1 z2 z3 z4 z5 => by rw [d3 a z5, a2.1 a b z1 z2 z3 z4], fun a ha => by rw [d4, a2.2 a ha], by rw [d3 301 (by decide)]; exact a3⟩, b4, a2.1 302 18 (by omega) (by omega) (by omega) (by omega)⟩
  exact hB.mv (fun x y hx _ => U0 x y (by omega) (by omega) (by omega) (by omega) (by omega)) (fun x y hx _ => b4.1 x y (by omega)) (fun s x hs _ => by rw [d4, a2.2 (340 + s) (by omega)]) ⟨U0 312 2 (by omega) (by omega) (by omega) (by omega) (by omega), U0 313 2 (by omega) (by omega) (by omega) (by omega) (by omega), U0 314 2 (by omega) (by omega) (by omega) (by omega) (by omega)⟩ ⟨U0 302 16 (by omega) (by omega) (by omega) (by omega) (by omega), U0 302 18 (by omega) (by omega) (by omega) (by omega) (by omega), U0 302 19 (by omega) (by omega) (by omega) (by omega) (by omega)⟩ ⟨b4.1 200 13 (by omega), b4.1 200 14 (by omega), b4.1 200 15 (by omega), b4.1 200 16 (by omega), b4.1 200 17 (by omega), b4.1 200 33 (by omega)⟩
/-- what named leaves -/
def NMh (t u : St) : Prop := (∀ a b : Nat, a ≠ 332 → a ≠ 333 → a ≠ 334 → (a ≠ 301 ∨ (b ≠ 7 ∧ b ≠ 1)) → a ≠ 303 → (a ≠ 300 ∨ b ≠ 13) → u.1 a b = t.1 a b) ∧ (∀ a : Nat, a ≠ 335 → u.2 a = t.2 a) ∧ u.1 301 1 = 0
theorem BK0.nm (hB : BK0 t m) (hH : ∀ a b : Nat, a ≠ 332 → a ≠ 333 → a ≠ 334 → a ≠ 301 → a ≠ 303 → a ≠ 300 → u.1 a b = t.1 a b) (hL : ∀ a : Nat, a ≠ 335 → u.2 a = t.2 a) (hM : ∀ a b : Nat, (a ≠ 200 ∨ b = 0 ∨ (8 < b ∧ b ≠ 34 ∧ b ≠ 35 ∧ b ≠ 36)) → v.1 a b = m.1 a b) : BK0 u v :=
  hB.mv (fun x y hx _ => hH x y (by omega) (by omega) (by omega) (by omega) (by omega) (by omega)) (fun x y hx _ => hM x y (by omega)) (fun s x hs _ => by rw [hL (340 + s) (by omega)]) ⟨hH 312 2 (by omega) (by omega) (by omega) (by omega) (by omega) (by omega), hH 313 2 (by omega) (by omega) (by omega) (by omega) (by omega) (by omega), hH 314 2 (by omega) (by omega) (by omega) (by omega) (by omega) (by omega)⟩ ⟨hH 302 16 (by omega) (by omega) (by omega) (by omega) (by omega) (by omega), hH 302 18 (by omega) (by omega) (by omega) (by omega) (by omega) (by omega), hH 302 19 (by omega) (by omega) (by omega) (by omega) (by omega) (by omega)⟩ ⟨hM 200 13 (by omega), hM 200 14 (by omega), hM 200 15 (by omega), hM 200 16 (by omega), hM 200 17 (by omega), hM 200 33 (by omega)⟩
theorem TQk.n2 {w : Int} (hq : TQk t m w) : (m.1 200 3 = 2 ↔ w = 38) := by
  have hs := sgi_rng (m.1 200 5)
  have hs2 := (sgi_neg (c := m.1 200 5))
  rcases hq.2 with h8 | h8 | h8 | h8 | h8 | h8
  · omega
  · omega
  · omega
  · have := h8.2.2; have := h8.2.1
    omega
  · omega
  · omega
def nmT (N : Nat) (a0 : Int) (t2 : St) : Option (Int × St) :=
    lt1 (t2.1 303 5) fun v3 =>
    lt1 (pI t2 300 13 v3) fun t4 =>
    lt1 (t4.1 300 13) fun v5 =>
    cmpI v5 0 (if v5 = 0 then (cmpI a0 0 (if a0 < 0 then (some ((-1), t4))
    else (cmpI a0 2 (if 2 < a0 then (some ((-1), t4))
    else (bdI (f_X7_numberOfName N a0 t4) fun v7 t6 =>
    some (v7, t6))))))
    else (some ((-1), t4)))
theorem nmT_1 {a0 : Int} (h : t.1 303 5 = 1) : nmT N a0 t = some (-1, pI t 300 13 1) := by
  unfold nmT
  simp only [lt1_k]
  rw [h, pI_at, cmpI_ok (by omega), if_neg (by decide)]
theorem nmT_0 {a0 : Int} (h : t.1 303 5 = 0) (ha : inR a0) : nmT N a0 t = if a0 < 0 ∨ 2 < a0 then some (-1, pI t 300 13 0) else (bdI (f_X7_numberOfName N a0 (pI t 300 13 0)) fun v7 t6 => some (v7, t6)) := by
  unfold nmT
  simp only [lt1_k]
  rw [h, pI_at, cmpI_ok (by omega), if_pos rfl, cmpI_ok (by omega), cmpI_ok (by omega)]
  by_cases h1 : a0 < 0
  · rw [if_pos h1, if_pos (Or.inl h1)]
  · rw [if_neg h1]
    by_cases h2 : 2 < a0
    · rw [if_pos h2, if_pos (Or.inr h2)]
    · rw [if_neg h2, if_neg (by omega)]
theorem nm_fin {u0 v0 z y : St} {w : Int} (hB : BK0 t m) (hR : RDh t u0) (hS : RDm m v0) (hz : H0 u0 z) (h19 : z.1 302 19 = u0.1 302 19) (hy : ∀ a b : Nat, (a ≠ 200 ∨ b < 2 ∨ 8 < b) → y.1 a b = v0.1 a b) (hy2 : y.2 = v0.2) : BK0 (pI z 300 13 w) y ∧ NMh t (pI z 300 13 w) ∧ RDm m y := by
  have pz : ∀ a b : Nat, a ≠ 303 → (a ≠ 300 ∨ b ≠ 13) → (pI z 300 13 w).1 a b = u0.1 a b := fun a b z1 z3 => by
    rw [pI_of z3]
    by_cases h : a = 302 ∧ b = 19
    · rw [h.1, h.2]; exact h19
    · exact hz.1 a b z1 (by omega)
  have pL : (pI z 300 13 w).2 = u0.2 := hz.2
  refine ⟨?_, ⟨fun a b z1 z2 z3 z4 z5 z6 => by rw [pz a b z5 z6, hR.1 a b z1 z2 z3 z4 z5], fun a z1 => by rw [pL, hR.2.1 a z1], by rw [pz 301 1 (by omega) (by omega)]; exact hR.2.2⟩, ⟨fun a b z1 => by rw [hy a b (by omega), hS.1 a b z1], hy2.trans hS.2.1, by rw [hy 200 1 (by omega)]; exact hS.2.2⟩⟩
  exact hB.nm (fun a b z1 z2 z3 z4 z5 z6 => by rw [pz a b z5 (Or.inl z6), hR.1 a b z1 z2 z3 (Or.inl z4) z5]) (fun a z1 => by rw [pL, hR.2.1 a z1]) (fun a b z1 => by rw [hy a b (by omega), hS.1 a b z1])
theorem named_both {a0 : Int} (hN : 5000 ≤ N) (hB : BK0 t m) (hT : TXt t m) (hkw : kwOK t) (ha : inR a0) : ∃ (r : Int) (u v : St), f_X11_named N a0 t = some (r, u) ∧ f_X12_named N a0 m = some (r, v) ∧ inR r ∧ BK0 u v ∧ (u.1 300 13 = v.1 200 8 ∧ 0 ≤ v.1 200 8 ∧ v.1 200 8 ≤ 7) ∧ NMh t u ∧ RDm m v := by
  obtain ⟨B, e, mm, t1, u0, v0, a1, a2, a3, hP, h6, hB0, hR, hS, _⟩ := rd_start hN hB hT hkw
  have hq := tq_of hP
  generalize hk9 : cKd B e (ch B e 0) = w at hq
  have hr := hq.rng
  have h0 := hq.e0
  have n2 := hq.n2
  have eH : f_X11_named N a0 t = bdV (f_X10_read N t) fun t1 => bdV (f_X7_readName N t1) fun t2 => nmT N a0 t2 := rfl
  rw [eH, a1, bdV_s]
  unfold f_X7_readName f_X12_named
  simp only [lt1_k, jn1_k]
  rw [a2, bdV_s, a3, bdV_s, take_k hq (by omega), cmpI_ok (show inR (v0.1 200 3) ∧ inR 2 from ⟨h0.2, by omega⟩)]
  obtain ⟨v1, s1, s2, s3⟩ := s_nextT (N := N) hP.2.2.1 hN
  by_cases w38 : w = 38
  · have hlt := tq_lt hP (by omega)
    have h32 := n2.mpr w38
    obtain ⟨u1, v1', q1, q2, q3, q4, q5⟩ := nx0 (N := N) hP hlt hN
    have ev : v1' = v1 := Option.some.inj (q2.symm.trans s1)
    subst ev
    have hq1 := tq_of q3
    generalize hk1 : cKd B e (ch B e (0 + 1)) = w1 at hq1
    have hr1 := hq1.rng
    have h01 := hq1.e0
    have h19 : u1.1 302 19 = u0.1 302 19 := by
      have z1 := q3.2.2.2.2.2.2.2.2.1.1
      have z2 := hP.2.2.2.2.2.2.2.2.1.1
      have z3 := s2.1 200 33 (by omega)
      omega
    have hk2 : tKnd B e (ch B e 0) = 2 := by rw [← hP.2.2.1.2.2.2.2.1]; exact h32
    obtain ⟨hna, _⟩ := nm_at (N := N) hP hB0.1 hk2 hN
    have hk := kn_name hk2
    rw [if_pos w38, q1, bdI_s, boI_1, bdI_s, cmpI_ok (by omega), if_neg (by decide), hq1.1, cmpI_ok (by omega), if_pos h32, hna, bdI_s, cmpI_ok (show inR (v0.1 200 3) ∧ inR 2 from ⟨h0.2, by omega⟩), if_pos h32, q2, bdV_s, cmpI_ok (a := 1) (b := 0) (by omega), if_neg (show ¬ (1 : Int) = 0 by decide), cmpI_ok (show inR (v1'.1 200 3) ∧ inR 0 from ⟨h01.2, by omega⟩)]
    by_cases w48 : w1 = 48
    · have hf := fun z : St => nm_fin (u0 := u0) (v0 := v0) (z := u1) (y := v1') (w := 0) hB hR hS (H0.c q4) h19 (fun a b z => s2.1 a b (by omega)) s2.2
      obtain ⟨f1, f2, f3⟩ := hf t
      have e8 : v1'.1 200 8 = 0 := q3.2.2.2.2.2.2.1.2.2.2.2
      have e13 : (pI u1 300 13 0).1 300 13 = v1'.1 200 8 := by rw [pI_at, e8]
      rw [if_pos w48, bdV_s, nmT_0 q3.2.2.2.2.2.2.1.2.2.2.1 ha, if_pos (h01.1.mpr w48), cmpI_ok (a := 1) (b := 0) (by omega), if_neg (show ¬ (1 : Int) = 0 by decide)]
      generalize hK : fmw (nmb v0 (fun j => B (ch B e 0 + j)) (wnd B e (e - ch B e 0) (ch B e 0) - ch B e 0)) (v0.1 200 13).toNat 0 = K at *
      have hKr := fmw_rng (P := nmb v0 (fun j => B (ch B e 0 + j)) (wnd B e (e - ch B e 0) (ch B e 0) - ch B e 0)) (v0.1 200 13).toNat 0
      rw [hK] at hKr
      have hM13 := hB0.1.1
      have e11 : v1'.1 11 = v0.1 11 := funext fun y => s2.1 11 y (by omega)
      have e12 : v1'.1 12 = v0.1 12 := funext fun y => s2.1 12 y (by omega)
      have hfin : ∀ r : Int, inR r → ∀ F : Option (Int × St), F = some (r, pI u1 300 13 0) → ∀ G : Option (Int × St), G = some (r, v1') → ∃ (r : Int) (u v : St), F = some (r, u) ∧ G = some (r, v) ∧ inR r ∧ BK0 u v ∧ (u.1 300 13 = v.1 200 8 ∧ 0 ≤ v.1 200 8 ∧ v.1 200 8 ≤ 7) ∧ NMh t u ∧ RDm m v := fun r hr F hF G hG => ⟨r, _, _, hF, hG, hr, f1, ⟨e13, by omega, by omega⟩, f2, f3⟩
      rw [e11, e12, cmpI_ok (show inR K ∧ inR (-1) by omega)]
      by_cases hs : a0 < 0 ∨ 2 < a0
      · rw [if_pos hs]
        refine hfin (-1) (by omega) _ rfl _ ?_
        by_cases k1 : K = -1
        · rw [if_pos k1]
        · rw [if_neg k1]
          obtain ⟨kk, hkk⟩ := Int.eq_ofNat_of_zero_le (show 0 ≤ K by omega)
          subst hkk
          obtain ⟨_, _, s9, n9, b1, b2, b3, b4, _⟩ := hB0.1.2.2.1 kk (by omega)
          rw [ixI_ok (by omega), Int.toNat_natCast, b2, cmpI_ok (by omega), if_neg (by omega)]
      · rw [if_neg hs]
        obtain ⟨s, hs9⟩ := Int.eq_ofNat_of_zero_le (show 0 ≤ a0 by omega)
        subst hs9
        have hs3 : s < 3 := by omega
        have hno : ∀ z : St, f_X0_namesOf N (s : Int) z = some ((s : Int), z) := fun z => by
          unfold f_X0_namesOf
          have : s = 0 ∨ s = 1 ∨ s = 2 := by omega
          rcases this with rfl | rfl | rfl <;> rfl
        have hTK := hP.1.1 0 (by omega)
        have hfb := find_both (s := s) hB0.1 hs3 hTK hk.1 hk.2.1 hk.2.2
        dsimp only at hfb
        rw [hK] at hfb
        have efd : fdb (pI u1 300 13 0) s 0 = fdb u0 s 0 := by
          funext n
          have : (pI u1 300 13 0).2 = u0.2 := q4.2
          unfold fdb; rw [this]
        have ect : (pI u1 300 13 0).1 (312 + s) 2 = u0.1 (312 + s) 2 := by rw [pI_ne (by omega), q4.1 (312 + s) 2 (by omega) (by omega)]
        have hns := hB0.1.2.1 s hs3
        have hnl := nmL_rng s
        have hfd : f_X6_find N s 335 12294 ((0 : Nat) : Int) (pI u1 300 13 0) = some (fmw (fdb (pI u1 300 13 0) s 0) (u0.1 (312 + s) 2).toNat 0, pI u1 300 13 0) := s_find (M := (u0.1 (312 + s) 2).toNat) (by omega) (by rw [ect]; omega) (by omega) (by omega)
        rw [efd, hfb] at hfd
        have hnum : ∀ X : Int, f_X6_find N s 335 12294 ((0 : Nat) : Int) (pI u1 300 13 0) = some (X, pI u1 300 13 0) → (bdI (f_X7_numberOfName N (s : Int) (pI u1 300 13 0)) fun v7 t6 => some (v7, t6)) = some (X, pI u1 300 13 0) := fun X hX => by
          unfold f_X7_numberOfName
          have hX' : f_X6_find N s 335 12294 0 (pI u1 300 13 0) = some (X, pI u1 300 13 0) := hX
          rw [hno, bdI_s, Int.toNat_natCast, hX', bdI_s, bdI_s]
        by_cases k1 : K = -1
        · rw [if_pos k1]
          rw [if_pos k1] at hfd
          exact hfin (-1) (by omega) _ (hnum _ hfd) _ rfl
        · rw [if_neg k1]
          rw [if_neg k1] at hfd
          obtain ⟨kk, hkk⟩ := Int.eq_ofNat_of_zero_le (show 0 ≤ K by omega)
          subst hkk
          rw [Int.toNat_natCast] at hfd
          obtain ⟨_, _, s9, n9, b1, b2, b3, b4, _⟩ := hB0.1.2.2.1 kk (by omega)
          have hns9 := hB0.1.2.1 s9 b1
          have hnl9 := nmL_rng s9
          rw [ixI_ok (by omega), ixI_ok (by omega), Int.toNat_natCast, b2, b3, cmpI_ok (by omega)]
          rw [b2, b3] at hfd
          by_cases k2 : (s9 : Int) = (s : Int)
          · rw [if_pos k2]
            rw [if_pos k2] at hfd
            exact hfin n9 (by omega) _ (hnum _ hfd) _ rfl
          · rw [if_neg k2]
            rw [if_neg k2] at hfd
            exact hfin (-1) (by omega) _ (hnum _ hfd) _ rfl
    · obtain ⟨f1, f2, f3⟩ := nm_fin (u0 := u0) (v0 := v0) (z := pI u1 303 5 1) (y := pI v1' 200 8 1) (w := 1) hB hR hS ((H0.c q4).tr H0.p) (by rw [pI_ne (by decide)]; exact h19) (fun a b z => by rw [pI_of (by omega), s2.1 a b (by omega)]) s2.2
      rw [if_neg w48, c_wrong, bdI_s, bdV_s, nmT_1 pI_at, if_neg (fun z => w48 (h01.1.mp z)), cmpI_ok (a := 0) (b := 0) (by omega), if_pos trivial]
      exact ⟨-1, _, _, rfl, rfl, by omega, f1, ⟨by rw [pI_at, pI_at], by rw [pI_at]; omega, by rw [pI_at]; omega⟩, f2, f3⟩
  · obtain ⟨f1, f2, f3⟩ := nm_fin (u0 := u0) (v0 := v0) (z := pI u0 303 5 1) (y := pI v1 200 8 1) (w := 1) hB hR hS H0.p (by rw [pI_ne (by decide)]) (fun a b z => by rw [pI_of (by omega), s2.1 a b (by omega)]) s2.2
    rw [if_neg w38, c_wrong, bdI_s, boI_0, bdI_s, cmpI_ok (by omega), if_pos rfl, bdV_s, nmT_1 pI_at, if_neg (fun z => w38 (n2.mp z)), cmpI_ok (show inR (v0.1 200 3) ∧ inR 2 from ⟨h0.2, by omega⟩), if_neg (fun z => w38 (n2.mp z)), s1, bdV_s, cmpI_ok (a := 0) (b := 0) (by omega), if_pos trivial, cmpI_ok (a := 0) (b := 0) (by omega), if_pos trivial]
    exact ⟨-1, _, _, rfl, rfl, by omega, f1, ⟨by rw [pI_at, pI_at], by rw [pI_at]; omega, by rw [pI_at]; omega⟩, f2, f3⟩
end
