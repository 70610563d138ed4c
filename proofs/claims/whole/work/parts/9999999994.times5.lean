/-! times against times, the whole method -/
theorem EVr.hm {o n : Nat} {t m v : St} (h : EVr o t m n) (hh : ∀ d, d < n → ok4 (m.1 44 d) ∧ ok4 (m.1 45 d) ∧ (0 ≤ m.1 46 d ∧ m.1 46 d ≤ 3) ∧ t.1 (394 + 10 * o) d = cdZ (m.1 44 d) (m.1 45 d) (m.1 46 d)) (e : ∀ a, a ≠ 200 → v.1 a = m.1 a) (e37 : v.1 200 37 = m.1 200 37) (e14 : v.1 200 14 = m.1 200 14) : EVr o t v n := by
  obtain ⟨ho, h1, h2, h3, h4, h5, h6, h7, h8⟩ := h
  refine ⟨ho, ?_, ?_, ?_, fun _ => ?_, h5, h6, ?_, ?_⟩
  · unfold hmF fmF
    rw [e37, e 38 (by decide), e 39 (by decide), e 40 (by decide)]
    exact h1
  · unfold hoO odM
    rw [e 38 (by decide), e 39 (by decide)]
    exact h2
  · rw [e 40 (by decide)]; exact h3
  · rw [e 44 (by decide), e 45 (by decide), e 46 (by decide)]; exact hh
  · rw [e14]; exact h7
  · intro x hf
    rw [e14] at hf
    obtain ⟨k, a1, a2⟩ := h8 x hf
    refine ⟨k, ?_, ?_⟩
    · unfold fmO
      rw [e 18 (by decide), e 19 (by decide), e 20 (by decide), e 21 (by decide), e 22 (by decide)]
      exact a1
    · unfold fhO
      rw [e 19 (by decide), e 20 (by decide), e 21 (by decide), e 22 (by decide)]
      exact a2
section
variable {N n0 : Nat} {t m : St}
set_option maxHeartbeats 1000000 in
theorem times_both {a0 a1 a2 : Int} (hN : 100000 ≤ N) (hB : BK0 t m) (hE : EVr 0 t m n0) (hF : FLr 1 t) (hI : LIn t) (hI2 : t.1 304 11 + 64 * 2001 ≤ 1900000000) (hV : -2000000000 ≤ t.1 306 9 ∧ t.1 306 9 + 2003 < 2000000000) (h54 : m.1 200 54 = 0) (h0 : inR a0) (h1 : inR a1) (h2 : inR a2) :
    ∃ (ans : Int) (u w : St), inR ans ∧ f_X11_times N a0 a1 a2 t = some (ans, u) ∧ f_X12_times N a0 a1 a2 m = some (ans, w) ∧ TFh t u ∧ (CIk u ∧ LIn u ∧ FLr 1 u) ∧ (u.1 304 11 ≤ t.1 304 11 + 64 * 2001 ∧ (t.1 306 9 ≤ u.1 306 9 ∧ u.1 306 9 ≤ t.1 306 9 + 2002)) ∧ TMf m w ∧ (w.1 200 53 = m.1 200 53 ∨ (0 ≤ w.1 200 53 ∧ w.1 200 53 ≤ 29000)) := by
  have hBn := hB.2.1
  obtain ⟨_, ⟨n5, n6, n7, n8⟩, n9, _⟩ := hBn
  have e314 : t.1 (312 + 2) 2 = m.1 200 16 := n7
  have h16 : 0 ≤ m.1 200 16 ∧ m.1 200 16 ≤ 60 := by omega
  have refuse : ¬ (0 ≤ a0 ∧ a0 < m.1 200 16) ∨ ¬ SETk a1 a2 → f_X11_times N a0 a1 a2 t = some (-1, t) ∧ f_X12_times N a0 a1 a2 m = some (-1, m) := by
    intro hbad
    unfold SETk at hbad
    refine ⟨?_, ?_⟩
    · unfold f_X11_times
      simp only [lt1_k]
      rw [e314, cmpI_ok (by omega)]
      by_cases z0 : a0 < 0
      · rw [if_pos z0]
      · rw [if_neg z0, cmpI_ok (by omega)]
        by_cases z1 : a0 < m.1 200 16
        · rw [if_pos z1, h_isSet h1 h2, bdI_s, if_neg (by omega), cmpI_ok (by omega), if_pos rfl]
        · rw [if_neg z1]
    · unfold f_X12_times
      simp only [lt1_k, jn1_k]
      have i0 : f_X12_in N a0 0 (m.1 200 16 - 1) m = some (if a0 < 0 ∨ m.1 200 16 - 1 < a0 then 0 else 1, m) := in_k (by omega) (by omega) (by omega)
      have i1 : f_X12_in N a1 1 3 m = some (if a1 < 1 ∨ 3 < a1 then 0 else 1, m) := in_k (by omega) (by omega) (by omega)
      have i2 : f_X12_in N a2 1 32 m = some (if a2 < 1 ∨ 32 < a2 then 0 else 1, m) := in_k (by omega) (by omega) (by omega)
      have fin : ∀ (j : Int) (K : St → Option (Int × St)), inR j → (a0 < 0 ∨ m.1 200 16 - 1 < a0 ∨ j = 0) → (bdI (f_X12_in N a0 0 (m.1 200 16 - 1) m) fun v6 t5 => cmpI v6 0 (if v6 = 0 then (some ((-1 : Int), t5)) else (cmpI j 0 (if j = 0 then (some ((-1), t5)) else K t5)))) = some (-1, m) := by
        intro j K hj hor
        rw [i0, bdI_s]
        by_cases z0 : a0 < 0 ∨ m.1 200 16 - 1 < a0
        · rw [if_pos z0, cmpI_ok (by omega), if_pos rfl]
        · rw [if_neg z0, cmpI_ok (by omega), if_neg (by decide), cmpI_ok (by omega), if_pos (by omega)]
      have fin0 : (bdI (f_X12_in N a0 0 (m.1 200 16 - 1) m) fun v6 t5 => cmpI v6 0 (if v6 = 0 then (some ((-1 : Int), t5)) else (cmpI 0 0 (some ((-1), t5))))) = some (-1, m) := by
        rw [i0, bdI_s]
        by_cases z0 : a0 < 0 ∨ m.1 200 16 - 1 < a0
        · rw [if_pos z0, cmpI_ok (by omega), if_pos rfl]
        · rw [if_neg z0, cmpI_ok (by omega), if_neg (by decide), cmpI_ok (by omega)]
      rw [cmpI_ok (by omega)]
      by_cases k0 : a1 = 0
      · rw [if_pos k0, cmpI_ok (by omega)]
        by_cases k4 : a2 = 4
        · rw [if_pos k4]
          exact fin 1 _ (by omega) (by omega)
        · rw [if_neg k4]
          exact fin0
      · rw [if_neg k0, i1, bdI_s]
        by_cases k1 : a1 < 1 ∨ 3 < a1
        · rw [if_pos k1, cmpI_ok (by omega), if_pos rfl]
          exact fin0
        · rw [if_neg k1, cmpI_ok (by omega), if_neg (by decide), i2, bdI_s]
          by_cases k2 : a2 < 1 ∨ 32 < a2
          · rw [if_pos k2, cmpI_ok (by omega), if_pos rfl]
            exact fin0
          · rw [if_neg k2, cmpI_ok (by omega), if_neg (by decide)]
            exact fin 1 _ (by omega) (by omega)
  by_cases hgood : (0 ≤ a0 ∧ a0 < m.1 200 16) ∧ SETk a1 a2
  · obtain ⟨⟨g0, g1⟩, hset⟩ := hgood
    obtain ⟨p, hp⟩ := Int.eq_ofNat_of_zero_le g0
    subst hp
    have ha2 : 0 ≤ a2 := by unfold SETk at hset; omega
    obtain ⟨n, hn⟩ := Int.eq_ofNat_of_zero_le ha2
    subst hn
    have hn1 : 1 ≤ n := by unfold SETk at hset; omega
    obtain ⟨m3, hm3⟩ := m_away (N := N) (m := m) hN
    have s4 : ∀ x, (x < 104 ∨ 108 < x) → m3.1 x = m.1 x := hm3.choose_spec.choose_spec.2.2.2.1.1
    have s4' : ∀ x, x ≠ 109 → m3.2 x = m.2 x := hm3.choose_spec.choose_spec.2.2.2.1.2
    have hb3 : EVb t m3 := hE.b.mv (fun a z1 z2 => s4 a (by omega)) (by rw [s4 200 (by omega)])
    obtain ⟨u1, v1, b1, b2, b3, b4, bh, b5, b6, b7, b8, b9, b10, b11⟩ := lay_both (N := N) (o := 1) (t := t) (m := m3) (by omega) (by decide) hset hb3 hF (by show inR (t.1 306 9 + 1); omega)
    generalize hu2 : pI (pI (pI u1 308 8 1) 308 9 0) 308 10 0 = u2
    have hlim : f_X8_limit N 1 u1 = some u2 := by
      unfold f_X8_limit
      simp only [lt1_k]
      rw [boI_1]
      show some (pI (pI (pI u1 308 8 1) 308 9 0) 308 10 0) = some u2
      rw [hu2]
    generalize hm6 : pI (pI v1 200 53 0) 200 54 1 = m6
    have m6o : ∀ x, x ≠ 200 → m6.1 x = v1.1 x := fun x hx => by rw [← hm6, pI_ne hx, pI_ne hx]
    have m6f : ∀ b, b ≠ 53 → b ≠ 54 → m6.1 200 b = v1.1 200 b := fun b z1 z2 => by rw [← hm6, pI_nf z2, pI_nf z1]
    have m6L : m6.2 = v1.2 := by rw [← hm6]; rfl
    have u2o : ∀ x, x ≠ 308 → u2.1 x = u1.1 x := fun x hx => by rw [← hu2, pI_ne hx, pI_ne hx, pI_ne hx]
    have u2L : u2.2 = u1.2 := by rw [← hu2]; rfl
    have gC2 : CIk u2 := b3.2.2.2.2.2.1.rn (fun x z1 z2 => u2o x z2) (by rw [u2L])
    have hE2 : EVr 1 u2 m6 (2 * n) := (b3.hm bh m6o (m6f 37 (by decide) (by decide)) (m6f 14 (by decide) (by decide))).r5 (p := 1) (by decide) (fun x z1 _ _ => u2o x z1) (fun x _ _ _ _ _ => by rw [u2L]) gC2 (fun a ha => rfl) rfl rfl rfl
    have tf1 : TFh t u1 := by
      refine ⟨fun x _ z2 _ _ _ z6 => b6 x (by omega) (by omega), ⟨fun b _ => by rw [b6 304 (by omega) (by omega)], fun b _ _ _ => by rw [b6 311 (by omega) (by omega)], fun b z1 z2 => b7 b z1 z2⟩, fun x _ _ _ _ _ _ z7 => b8 x (by omega)⟩
    have tf2 : TFh u1 u2 := ⟨fun x _ _ z3 _ _ _ => u2o x z3, ⟨fun b _ => by rw [u2o 304 (by decide)], fun b _ _ _ => by rw [u2o 311 (by decide)], fun b _ _ => by rw [u2o 306 (by decide)]⟩, fun x _ _ _ _ _ _ _ => by rw [u2L]⟩
    have tft := tf1.tr tf2
    have mo : ∀ x, (x < 38 ∨ 41 < x) → (x < 44 ∨ 46 < x) → (x < 104 ∨ 108 < x) → x ≠ 200 → m6.1 x = m.1 x := fun x z1 z2 z3 z4 => by rw [m6o x z4, b9 x z1 z2 z4, s4 x z3]
    have mf : ∀ b, b ≠ 37 → b ≠ 53 → b ≠ 54 → m6.1 200 b = m.1 200 b := fun b z1 z2 z3 => by rw [m6f b z2 z3, b10 b z1, s4 200 (by omega)]
    have f : ∀ x, (x = 302 ∨ (312 ≤ x ∧ x ≤ 314) ∨ (350 ≤ x ∧ x ≤ 363)) → u2.1 x = t.1 x := fun x hx => tft.1 x (by omega) (by omega) (by omega) (by omega) (by omega) (by omega)
    have hB2 : BK0 u2 m6 := hB.mv (fun x y hx _ => by rw [f x hx]) (fun x y hx _ => by rw [mo x (by omega) (by omega) (by omega) (by omega)]) (fun s x hs _ => by rw [tft.2.2 (340 + s) (by omega) (by omega) (by omega) (by omega) (by omega) (by omega) (by omega)]) ⟨by rw [f 312 (by omega)], by rw [f 313 (by omega)], by rw [f 314 (by omega)]⟩ ⟨by rw [f 302 (by omega)], by rw [f 302 (by omega)], by rw [f 302 (by omega)]⟩ ⟨mf 13 (by omega) (by omega) (by omega), mf 14 (by omega) (by omega) (by omega), mf 15 (by omega) (by omega) (by omega), mf 16 (by omega) (by omega) (by omega), mf 17 (by omega) (by omega) (by omega), mf 33 (by omega) (by omega) (by omega)⟩
    have e11 : u2.1 304 11 = t.1 304 11 := by rw [u2o 304 (by decide), b6 304 (by omega) (by omega)]
    have e378 : u2.1 378 = t.1 378 := by rw [u2o 378 (by decide), b6 378 (by omega) (by omega)]
    have e9 : u2.1 306 9 = t.1 306 9 + 1 := by rw [u2o 306 (by decide)]; exact b5
    have hT : TMr (2 * n) (t.1 304 11) (t.1 306 9 + 1) 0 u2 m6 u2 m6 := by
      refine ⟨⟨hE2, hB2, by omega⟩, ⟨⟨?_, ?_, ?_⟩, ?_, ?_⟩, ?_, ⟨hI.f e11 e378, ?_, ?_⟩, TFh.rf, ⟨fun _ _ _ _ _ _ _ => rfl, fun _ _ _ _ _ _ _ _ _ => rfl, fun _ _ _ => rfl⟩⟩
      · rw [← hu2, pI_nf (by decide), pI_at]; omega
      · rw [← hu2, ← hm6, pI_nf (by decide), pI_at, pI_nf (by decide), pI_at]
      · rw [← hm6, pI_nf (by decide), pI_at]; omega
      · rw [← hu2, pI_nf (by decide), pI_nf (by decide), pI_at]
      · rw [← hm6, pI_at]
      · rw [← hu2, pI_at]; rfl
      · rw [e11]; omega
      · rw [e9]; omega
    have hI0 := hI.1
    obtain ⟨ans, u, v, c1, c2, c3, c4⟩ := tm_lp (N := N) (n := 2 * n) (t0 := u2) (m0 := m6) (S := t.1 304 11) (V := t.1 306 9 + 1) (p := p) hN ⟨hI0, hI2⟩ (by omega) (by rw [mf 16 (by decide) (by decide) (by decide)]; exact g1) 100 1 N N 0 u2 m6 (by omega) (by omega) (by omega) (by omega) (by omega) hT
    have c3' : f_X12_dancesOn N p m6 = some (ans, v) := by
      unfold f_X12_dancesOn
      exact c3
    obtain ⟨⟨nn, d1⟩, ⟨d2, d3, d4, d5, d6⟩, d7, d8⟩ := c4
    obtain ⟨w, w1, w2, w3⟩ := m_times (N := N) (m := m) (kd := a1) (n := n) (p := p) (ans := ans) (w0 := v) (v := v1) hN h54 m3 hm3 b2 b9 b10 b11 (by rw [hm6]; exact c3') (by rw [hm6]; exact d8) hset g1 h16.2
    refine ⟨ans, u, w, c1, ?_, w1, tft.tr d7, ⟨d1.2.2.2.2.2.1, d2, d1.fl⟩, ⟨d3, by omega⟩, w2, Or.inr (by rw [w3]; omega)⟩
    unfold f_X11_times
    simp only [lt1_k]
    rw [e314, cmpI_ok (by omega), if_neg (by omega), cmpI_ok (by omega), if_pos g1, h_isSet h1 h2, bdI_s, if_pos (by unfold SETk at hset; exact hset), cmpI_ok (by omega), if_neg (by decide), b1, bdV_s, hlim, bdV_s]
    exact c2
  · obtain ⟨r1, r2⟩ := refuse (by by_cases z : 0 ≤ a0 ∧ a0 < m.1 200 16
                                  · exact Or.inr (fun hs => hgood ⟨z, hs⟩)
                                  · exact Or.inl z)
    exact ⟨-1, t, m, by omega, r1, r2, TFh.rf, ⟨hE.2.2.2.2.2.1, hI, hF⟩, ⟨by omega, by omega⟩, TMf.rf, Or.inl rfl⟩
end
