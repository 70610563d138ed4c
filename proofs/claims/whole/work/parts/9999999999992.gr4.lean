/-! set -/
theorem SP_b {kd : Int} {n d : Nat} (h : SETk kd n) (hd : d < 2 * n) : SPX kd d ≤ 4 * (((2 * n : Nat) : Int) - 1) ∧ SPY kd d ≤ 4 * (((2 * n : Nat) : Int) - 1) := by
  rcases h with ⟨h1, h2⟩ | ⟨h1, h2⟩
  · have hn : n = 4 := by omega
    subst hn
    have hs := sq_tab d (by omega)
    have hq : ∀ d : Nat, d < 8 → sqXZ d ≤ 28 ∧ sqYZ d ≤ 28 := by decide +kernel
    unfold SPX SPY
    rw [if_pos h1, if_pos h1]
    have := hq d (by omega)
    omega
  · unfold SPX SPY
    rw [if_neg (show ¬ kd = 0 by omega), if_neg (show ¬ kd = 0 by omega)]
    by_cases k1 : kd = 1
    · rw [if_pos k1, if_pos k1]; omega
    · rw [if_neg k1, if_neg k1]
      by_cases k2 : kd = 2
      · rw [if_pos k2, if_pos k2]; omega
      · rw [if_neg k2, if_neg k2]; omega
section
variable {N n c : Nat} {t m u v : St}
theorem m_beg0 {kd n : Int} (h1 : inR kd) (h2 : inR n) (h : ¬ SETk kd n) : f_X12_begins N kd n m = some (0, m) := by
  unfold SETk at h
  unfold f_X12_begins
  simp only [lt1_k, jn1_k]
  rw [cmpI_ok (show inR kd ∧ inR 0 by omega)]
  by_cases c0 : kd = 0
  · rw [if_pos c0, cmpI_ok (by omega), if_neg (by omega), boI_0]
  · rw [if_neg c0, in_k h1 (by omega) (by omega), bdI_s]
    by_cases c1 : kd < 1 ∨ 3 < kd
    · rw [if_pos c1, cmpI_ok (by omega), if_pos rfl, boI_0]
    · rw [if_neg c1, cmpI_ok (by omega), if_neg (by decide), in_k h2 (by omega) (by omega), bdI_s, if_pos (by omega), cmpI_ok (by omega), if_pos rfl, boI_0]
set_option maxHeartbeats 1000000 in
theorem q_set {a0 a1 : Int} (h0 : inR a0) (h1 : inR a1) (hN : 200 ≤ N) (hc : c ≤ 600) (h : GR0 n c t m) : ∃ (r : Int) (u v : St) (n2 : Nat), f_X11_set N a0 a1 t = some (r, u) ∧ f_X12_set N a0 a1 m = some (r, v) ∧ GR0 n2 (c + 1) u v ∧ ((u = t ∧ v = m ∧ n2 = n) ∨ ((u.1 309 2 = 0 ∧ v.1 200 59 = 0 ∧ u.1 309 1 = t.1 309 1 ∧ v.1 200 60 = m.1 200 60))) := by
  have hi := h_isSet (N := N) (t := t) h0 h1
  by_cases hk : SETk a0 a1
  · obtain ⟨n1, hn1⟩ : ∃ n1 : Nat, a1 = n1 := ⟨a1.toNat, by unfold SETk at hk; omega⟩
    subst hn1
    obtain ⟨hb, hF, hr, hn, ht, hs⟩ := h
    obtain ⟨⟨f0, hE⟩, f2, f3, f4, f5, f6, f7⟩ := hF
    obtain ⟨u1, v1, k1, k2, k3, k4, k5, k6, k7, k8, k9, k10, k11, k12⟩ := lay_both (N := N) (o := 0) hN (by decide) hk hE.b hE.fl (by show inR (t.1 305 9 + 1); omega)
    obtain ⟨u2, v2, j1, j2, j3, j4, j5, j6, j7⟩ := mark_both (N := N) k3 (by omega)
    have haim := m_marks_at (N := N) (by omega) k3.2.1.1 j2
    obtain ⟨v0, s1, s2, _⟩ := m_begins (N := N) (m := m) hk (by omega)
    have hv0 : v1 = v0 := by
      have := k2.symm.trans s1
      exact (Prod.mk.inj (Option.some.inj this)).2
    rw [← hv0] at s2
    have hcoor : ∀ d, d < 2 * n1 → v1.1 38 d ≤ 4 * (((2 * n1 : Nat) : Int) - 1) ∧ v1.1 39 d ≤ 4 * (((2 * n1 : Nat) : Int) - 1) := fun d hd => by
      have := SP_b hk hd
      rw [(s2 d hd).1, (s2 d hd).2.1]
      exact this
    generalize hU : pI (pI (pI (pI (pI (pI (pI u2 309 2 0) (307 + 0) 2 0) 310 14 (-1)) 310 16 0) 310 17 0) 300 11 0) 300 12 0 = U
    generalize hV : pI (pI (pI (pL (pI (pI (pI v2 200 59 0) 200 50 0) 200 51 0) 200 100 (0 : Int64)) 200 101 (-1)) 200 42 0) 200 43 0 = V
    have Uo : ∀ x, x ≠ 300 → x ≠ 307 → x ≠ 309 → x ≠ 310 → U.1 x = u2.1 x := fun x z1 z2 z3 z4 => by rw [← hU, pI_ne z1, pI_ne z1, pI_ne z4, pI_ne z4, pI_ne z4, pI_ne (by omega), pI_ne z3]
    have UL : U.2 = u2.2 := by rw [← hU]; rfl
    have U300 : ∀ b, b ≠ 11 → b ≠ 12 → U.1 300 b = u2.1 300 b := fun b z1 z2 => by rw [← hU, pI_nf z2, pI_nf z1, pI_ne (by decide), pI_ne (by decide), pI_ne (by decide), pI_ne (by decide), pI_ne (by decide)]
    have U30 : U.1 300 11 = 0 ∧ U.1 300 12 = 0 := by rw [← hU]; exact ⟨by rw [pI_nf (by decide), pI_at], by rw [pI_at]⟩
    have U307 : ∀ b, b ≠ 2 → U.1 307 b = u2.1 307 b := fun b z1 => by rw [← hU, pI_ne (by decide), pI_ne (by decide), pI_ne (by decide), pI_ne (by decide), pI_ne (by decide), pI_nf z1, pI_ne (by decide)]
    have U37 : U.1 307 2 = 0 := by rw [← hU, pI_ne (by decide), pI_ne (by decide), pI_ne (by decide), pI_ne (by decide), pI_ne (by decide)]; exact pI_at
    have U309 : U.1 309 2 = 0 ∧ U.1 309 1 = u2.1 309 1 := by
      rw [← hU]
      refine ⟨?_, ?_⟩
      · rw [pI_ne (by decide), pI_ne (by decide), pI_ne (by decide), pI_ne (by decide), pI_ne (by decide), pI_ne (by decide), pI_at]
      · rw [pI_ne (by decide), pI_ne (by decide), pI_ne (by decide), pI_ne (by decide), pI_ne (by decide), pI_ne (by decide), pI_nf (by decide)]
    have U310 : U.1 310 14 = -1 ∧ U.1 310 16 = 0 ∧ U.1 310 13 = u2.1 310 13 := by
      rw [← hU]
      refine ⟨?_, ?_, ?_⟩
      · rw [pI_ne (by decide), pI_ne (by decide), pI_nf (by decide), pI_nf (by decide), pI_at]
      · rw [pI_ne (by decide), pI_ne (by decide), pI_nf (by decide), pI_at]
      · rw [pI_ne (by decide), pI_ne (by decide), pI_nf (by decide), pI_nf (by decide), pI_nf (by decide), pI_ne (by decide), pI_ne (by decide)]
    have Vo : ∀ x, x ≠ 200 → V.1 x = v2.1 x := fun x hx => by
      rw [← hV, pI_ne hx, pI_ne hx, pI_ne hx]
      show (pI (pI (pI v2 200 59 0) 200 50 0) 200 51 0).1 x = _
      rw [pI_ne hx, pI_ne hx, pI_ne hx]
    have V200 : ∀ b, b ≠ 42 → b ≠ 43 → b ≠ 50 → b ≠ 51 → b ≠ 59 → b ≠ 101 → V.1 200 b = v2.1 200 b := fun b z1 z2 z3 z4 z5 z6 => by
      rw [← hV, pI_nf z2, pI_nf z1, pI_nf z6]
      show (pI (pI (pI v2 200 59 0) 200 50 0) 200 51 0).1 200 b = _
      rw [pI_nf z4, pI_nf z3, pI_nf z5]
    have V20 : V.1 200 42 = 0 ∧ V.1 200 43 = 0 ∧ V.1 200 50 = 0 ∧ V.1 200 59 = 0 ∧ V.1 200 101 = -1 := by
      rw [← hV]
      refine ⟨by rw [pI_nf (by decide), pI_at], by rw [pI_at], ?_, ?_, by rw [pI_nf (by decide), pI_nf (by decide), pI_at]⟩
      · rw [pI_nf (by decide), pI_nf (by decide), pI_nf (by decide)]
        show (pI (pI (pI v2 200 59 0) 200 50 0) 200 51 0).1 200 50 = 0
        rw [pI_nf (by decide), pI_at]
      · rw [pI_nf (by decide), pI_nf (by decide), pI_nf (by decide)]
        show (pI (pI (pI v2 200 59 0) 200 50 0) 200 51 0).1 200 59 = 0
        rw [pI_nf (by decide), pI_nf (by decide), pI_at]
    have VL : ∀ x, x ≠ 200 → V.2 x = v2.2 x := fun x hx => by rw [← hV]; show (pL (pI (pI (pI v2 200 59 0) 200 50 0) 200 51 0) 200 100 (0 : Int64)).2 x = _; rw [pL_ne hx]; rfl
    have VL1 : V.2 200 100 = 0 := by rw [← hV]; show (pL (pI (pI (pI v2 200 59 0) 200 50 0) 200 51 0) 200 100 (0 : Int64)).2 200 100 = _; rw [pL_at]
    have tU : ∀ x, x ≠ 300 → x ≠ 305 → x ≠ 307 → x ≠ 309 → x ≠ 310 → x ≠ 320 → (x < 390 ∨ 397 < x) → U.1 x = t.1 x := fun x z1 z2 z3 z4 z5 z6 z7 => by rw [Uo x z1 z3 z4 z5, j4 x z6, k7 x (by omega) (by omega)]
    have tL : ∀ x, x ≠ 396 → U.2 x = t.2 x := fun x hx => by rw [UL, j5, k9 x (by omega)]
    have mV : ∀ x, (x < 38 ∨ 41 < x) → (x < 44 ∨ 49 < x) → x ≠ 200 → V.1 x = m.1 x := fun x z1 z2 z3 => by rw [Vo x z3, j6 x (by omega), k10 x z1 (by omega) z3]
    have mV2 : ∀ b, b ≠ 37 → b ≠ 42 → b ≠ 43 → b ≠ 50 → b ≠ 51 → b ≠ 59 → b ≠ 101 → V.1 200 b = m.1 200 b := fun b z0 z1 z2 z3 z4 z5 z6 => by rw [V200 b z1 z2 z3 z4 z5 z6, j6 200 (by omega), k11 b z0]
    have t3 : ∀ b, b ≠ 11 → b ≠ 12 → U.1 300 b = t.1 300 b := fun b z1 z2 => by rw [U300 b z1 z2, j4 300 (by decide), k7 300 (by decide) (by decide)]
    have t37 : ∀ b, b ≠ 2 → U.1 307 b = t.1 307 b := fun b z1 => by rw [U307 b z1, j4 307 (by decide), k7 307 (by decide) (by decide)]
    have hB : BK0 U V := hb.1.mv (fun x y hx _ => by rw [tU x (by omega) (by omega) (by omega) (by omega) (by omega) (by omega) (by omega)]) (fun x y hx _ => by rw [mV x (by omega) (by omega) (by omega)]) (fun s x hs _ => by rw [tL (340 + s) (by omega)]) ⟨by rw [tU 312 (by omega) (by omega) (by omega) (by omega) (by omega) (by omega) (by omega)], by rw [tU 313 (by omega) (by omega) (by omega) (by omega) (by omega) (by omega) (by omega)], by rw [tU 314 (by omega) (by omega) (by omega) (by omega) (by omega) (by omega) (by omega)]⟩ ⟨by rw [tU 302 (by omega) (by omega) (by omega) (by omega) (by omega) (by omega) (by omega)], by rw [tU 302 (by omega) (by omega) (by omega) (by omega) (by omega) (by omega) (by omega)], by rw [tU 302 (by omega) (by omega) (by omega) (by omega) (by omega) (by omega) (by omega)]⟩ ⟨mV2 13 (by omega) (by omega) (by omega) (by omega) (by omega) (by omega) (by omega), mV2 14 (by omega) (by omega) (by omega) (by omega) (by omega) (by omega) (by omega), mV2 15 (by omega) (by omega) (by omega) (by omega) (by omega) (by omega) (by omega), mV2 16 (by omega) (by omega) (by omega) (by omega) (by omega) (by omega) (by omega), mV2 17 (by omega) (by omega) (by omega) (by omega) (by omega) (by omega) (by omega), mV2 33 (by omega) (by omega) (by omega) (by omega) (by omega) (by omega) (by omega)⟩
    have hu1 : ∀ x, (x = 305 ∨ (390 ≤ x ∧ x ≤ 397)) → U.1 x = u1.1 x := fun x hx => by rw [Uo x (by omega) (by omega) (by omega) (by omega), j4 x (by omega)]
    have hCI : CIk U := k3.2.2.2.2.2.1.ch (fun x hx => by rw [Uo x (by omega) (by omega) (by omega) (by omega), j4 x (by omega)]) (by rw [UL, j5])
    have hEU : EVr 0 U V (2 * n1) := k3.bk hB hCI (fun x hx => hu1 x (by omega)) (by rw [UL, j5]) (fun d _ => by rw [Vo 38 (by decide), Vo 39 (by decide), Vo 40 (by decide), j6 38 (by omega), j6 39 (by omega), j6 40 (by omega)]; exact ⟨rfl, rfl, rfl⟩) (fun _ => ⟨Or.inl rfl, fun d _ => by rw [Vo 44 (by decide), Vo 45 (by decide), Vo 46 (by decide), j6 44 (by omega), j6 45 (by omega), j6 46 (by omega)]; exact ⟨rfl, rfl, rfl⟩⟩) (by rw [V200 37 (by decide) (by decide) (by decide) (by decide) (by decide) (by decide), j6 200 (by omega)])
    have hpos : 1 ≤ n1 := by unfold SETk at hk; omega
    refine ⟨1, U, V, 2 * n1, ?_, ?_, ⟨hb.mv hB (tL 331 (by decide)) ⟨by rw [tU 301 (by omega) (by omega) (by omega) (by omega) (by omega) (by omega) (by omega)], tU 330 (by omega) (by omega) (by omega) (by omega) (by omega) (by omega) (by omega)⟩ (t3 13 (by decide) (by decide)) (mV2 1 (by omega) (by omega) (by omega) (by omega) (by omega) (by omega) (by omega)) (mV 0 (by omega) (by omega) (by omega)) (mV2 8 (by omega) (by omega) (by omega) (by omega) (by omega) (by omega) (by omega)), ⟨⟨by omega, hEU⟩, fun d hd => ?_, fun d hd => ?_, ?_, fun d hd => ?_, ?_⟩, ⟨Or.inl ⟨U37, V20.2.2.1⟩, by rw [t37 8 (by decide), mV2 54 (by omega) (by omega) (by omega) (by omega) (by omega) (by omega) (by omega)]; exact hr.2.1, by rw [t37 9 (by decide)]; have := hr.2.2.1; omega, by rw [mV2 53 (by omega) (by omega) (by omega) (by omega) (by omega) (by omega) (by omega)]; have := hr.2.2.2.1; omega, by rw [t37 10 (by decide)]; have := hr.2.2.2.2; omega⟩, ⟨by rw [U30.1, V20.1]; omega, by rw [U30.2, V20.2.1]; omega, by rw [t3 14 (by decide) (by decide), t3 15 (by decide) (by decide), t3 16 (by decide) (by decide), mV2 67 (by omega) (by omega) (by omega) (by omega) (by omega) (by omega) (by omega), mV2 68 (by omega) (by omega) (by omega) (by omega) (by omega) (by omega) (by omega), mV2 69 (by omega) (by omega) (by omega) (by omega) (by omega) (by omega) (by omega)]; exact hn.2.2⟩, (ht.mv (fun x hx => tU x (by omega) (by omega) (by omega) (by omega) (by omega) (by omega) (by omega)) (by rw [U310.2.2, j4 310 (by decide), k7 310 (by decide) (by decide)]) (mV2 89 (by omega) (by omega) (by omega) (by omega) (by omega) (by omega) (by omega))).up, Or.inl ⟨U310.1, U310.2.1, VL1, V20.2.2.2.2, by rw [mV2 102 (by omega) (by omega) (by omega) (by omega) (by omega) (by omega) (by omega)]; exact hs.b102⟩⟩, Or.inr ⟨U309.1, V20.2.2.2.1, by rw [U309.2, j4 309 (by decide), k7 309 (by decide) (by decide)], mV2 60 (by omega) (by omega) (by omega) (by omega) (by omega) (by omega) (by omega)⟩⟩
    · unfold f_X11_set f_X4_clear f_X9_forget
      simp only [lt1_k]
      rw [hi, bdI_s, if_pos (show (a0 = 0 ∧ ((n1 : Nat) : Int) = 4) ∨ ((1 ≤ a0 ∧ a0 ≤ 3) ∧ (1 ≤ ((n1 : Nat) : Int) ∧ ((n1 : Nat) : Int) ≤ 32)) from hk), cmpI_ok (by omega), if_neg (by decide), k1, bdV_s, j1, bdV_s, bdV_s, boI_0, boI_0, bdV_s, boI_1, hU]
    · unfold f_X12_set
      simp only [lt1_k]
      rw [k2, bdI_s, cmpI_ok (by omega), if_neg (by decide), j2, bdV_s, boI_0, boI_1, hV]
    · have q := (k4 d hd)
      rw [hu1 393 (by omega), Vo 41 (by decide), j6 41 (by omega), q.2.1]
      refine ⟨q.1, by omega, by omega⟩
    · rw [Vo 38 (by decide), Vo 39 (by decide), j6 38 (by omega), j6 39 (by omega)]; exact hcoor d hd
    · unfold AIMr
      rw [Uo 320 (by decide) (by decide) (by decide) (by decide), Vo 47 (by decide), Vo 48 (by decide), Vo 49 (by decide)]
      exact j3
    · rw [Vo 47 (by decide), Vo 48 (by decide), (haim d hd).1, (haim d hd).2.1]; exact hcoor d hd
    · rw [hu1 305 (by omega), show u1.1 305 9 = t.1 305 9 + 1 from k6]; omega
  · refine ⟨0, t, m, n, ?_, ?_, h.up, Or.inl ⟨rfl, rfl, rfl⟩⟩
    · unfold f_X11_set
      rw [hi, bdI_s, if_neg (show ¬ ((a0 = 0 ∧ a1 = 4) ∨ ((1 ≤ a0 ∧ a0 ≤ 3) ∧ (1 ≤ a1 ∧ a1 ≤ 32))) from hk), cmpI_ok (by omega), if_pos rfl, boI_0]
    · unfold f_X12_set
      rw [m_beg0 h0 h1 hk, bdI_s, cmpI_ok (by omega), if_pos rfl, boI_0]
end
