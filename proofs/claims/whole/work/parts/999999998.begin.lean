/-! a part is begun -/
section
variable {N o n : Nat} {t m u v : St}
theorem h_evb (h : t.1 (305 + o) 8 = n) (hn : n ≤ 64) : f_X3_everybody N o t = some (evb n, t) := by
  unfold f_X3_everybody evb
  simp only [lt1_k]
  rw [h, cmpI_ok (by omega)]
  by_cases h1 : n < 64
  · rw [if_pos (by omega), if_pos h1]
  · rw [if_neg (by omega), if_neg h1]
theorem m_evb (h : m.1 200 37 = n) (hn : n ≤ 64) : f_X12_everybody N m = some (evb n, m) := by
  unfold f_X12_everybody f_X12_one evb
  simp only [lt1_k]
  rw [h, cmpI_ok (by omega)]
  by_cases h1 : n < 64
  · rw [if_neg (by omega), if_pos h1, bdL_s]
  · rw [if_pos (by omega), if_neg h1]
theorem EVr.ev (hE : EVr o t m n) : f_X3_everybody N o t = some (evb n, t) ∧ f_X12_everybody N m = some (evb n, m) := ⟨h_evb hE.2.1.2.1 hE.n64, m_evb hE.2.1.1.1 hE.n64⟩
/-- all at home -/
theorem home_both (hE : EVr o t m n) (hg : hGd o m) (hN : 200 ≤ N) : ∃ r : Int, (r = 0 ∨ r = 1) ∧ f_X3_isAt N o (394 + 10 * o) 64 t = some (r, t) ∧ f_X12_isHome N m = some (r, m) := by
  have hho := hE.2.2.2.2.1 hg
  have hF := hE.2.1.1
  have hq : ∀ d, d < n → inR (m.1 44 d) ∧ inR (m.1 45 d) ∧ inR (m.1 46 d) := fun d hd => by have := hho d hd; omega
  have e1 := s_isHome (N := N) hF hq (by omega)
  have e2 := h_isAt (N := N) (o := o) (t := t) (q0 := 394 + 10 * o) hE.2.1.2 hF.2 (fun d hd => by have h9 := hho d hd; rw [h9.2.2.2]; have := cdZ_rng h9.1 h9.2.1 h9.2.2.1; omega) (by omega)
  rw [at_eq hF.2 (A := m.1 44) (B := m.1 45) (D := m.1 46) (fun d hd => hho d hd) n 0 (by omega)] at e2
  generalize hr9 : (if atM (m.1 44) (m.1 45) (m.1 46) (m.1 38) (m.1 39) (m.1 40) n 0 = true then (1 : Int) else 0) = r at e1 e2
  refine ⟨r, ?_, e2, e1⟩
  rw [← hr9]; split
  · exact Or.inr rfl
  · exact Or.inl rfl
/-- start against starts -/
theorem start_both {p : Nat} (ho : o < 2) (hB : BK0 t m) (hE : EVr o t m n) (hp : (p : Int) < m.1 200 16) : ∃ (u v : St) (a : Nat), f_X8_start N o p (evb n) t = some u ∧ f_X12_starts N p m = some v ∧ RUNP o n u v 0 0 a ∧ (u.1 (307 + o) 2 = 1 ∧ v.1 200 52 = 0) ∧
    ((∀ x, x ≠ 307 + o → u.1 x = t.1 x) ∧ (∀ y, y ≠ 2 → y ≠ 3 → y ≠ 6 → u.1 (307 + o) y = t.1 (307 + o) y) ∧ (∀ x, x ≠ 307 + o → u.2 x = t.2 x)) ∧ ((∀ x, x ≠ 55 → x ≠ 56 → x ≠ 57 → x ≠ 200 → v.1 x = m.1 x) ∧ (∀ b, b ≠ 51 → b ≠ 52 → v.1 200 b = m.1 200 b) ∧ (∀ x, x ≠ 58 → v.2 x = m.2 x)) := by
  have hBn := hB.2.1
  obtain ⟨⟨a0, c0, n1, n2, n3, n4, n4'⟩, _, n9, _⟩ := hBn
  obtain ⟨M', f', a', b', c', d', ⟨t1, t2, t3⟩, ⟨t4, t5⟩, ⟨t6, t7, t8⟩, t9, t10, t11⟩ := hB.2.2.2.2.1 p hp
  have t71 := t7.1
  generalize hu : pI (pL (pI (pI t (307 + o) 2 1) (307 + o) 3 (a' : Int)) (307 + o) 4 (evb n)) (307 + o) 6 0 = u
  have hH : f_X8_start N o p (evb n) t = some u := by
    unfold f_X8_start
    simp only [lt1_k]
    rw [boI_1, ixI_ok (by omega), Int.toNat_natCast, pI_ne (show (360 : Nat) ≠ 307 + o by omega), t9, hu]
  have uo : ∀ x, x ≠ 307 + o → u.1 x = t.1 x := fun x hx => by rw [← hu, pI_ne hx, pL_I, pI_ne hx, pI_ne hx]
  have uL : ∀ x, x ≠ 307 + o → u.2 x = t.2 x := fun x hx => by rw [← hu, pI_L, pL_ne hx]; rfl
  generalize hv : ENf (pI (pI m 200 51 0) 200 52 0) 0 ((c' : Int) + 1) (c' : Int) 0 (evb n) = v
  have hev : f_X12_everybody N (pI (pI m 200 51 0) 200 52 0) = some (evb n, pI (pI m 200 51 0) 200 52 0) := m_evb (by rw [pI_nf (by decide), pI_nf (by decide)]; exact hE.2.1.1.1) hE.n64
  have hM : f_X12_starts N p m = some v := by
    unfold f_X12_starts
    simp only [lt1_k]
    rw [ixI_ok (by omega), ixI_ok (by omega), Int.toNat_natCast, pI_ne (show (29 : Nat) ≠ 200 by decide), pI_ne (show (29 : Nat) ≠ 200 by decide), t10, hev, bdL_s, m_enters (k := 0) (by rw [pI_nf (by decide), pI_at]; rfl) (by decide), bdV_s, hv]
  have vo : ∀ x, x ≠ 55 → x ≠ 56 → x ≠ 57 → x ≠ 200 → v.1 x = m.1 x := fun x h1 h2 h3 h4 => by
    rw [← hv]; unfold ENf
    rw [pI_ne h4, pL_I, pI_ne h3, pI_ne h2, pI_ne h1, pI_ne h4, pI_ne h4]
  have vf : ∀ b, b ≠ 51 → b ≠ 52 → v.1 200 b = m.1 200 b := fun b h1 h2 => by
    rw [← hv]; unfold ENf
    rw [pI_nf h1, pL_I, pI_ne (by decide), pI_ne (by decide), pI_ne (by decide), pI_nf h2, pI_nf h1]
  have v52 : v.1 200 52 = 0 := by
    rw [← hv]; unfold ENf
    rw [pI_nf (by decide), pL_I, pI_ne (by decide), pI_ne (by decide), pI_ne (by decide), pI_at]
  have v55 : v.1 55 0 = ((c' + 1 : Nat) : Int) := by
    rw [← hv]; unfold ENf
    rw [pI_ne (by decide), pL_I, pI_ne (by decide), pI_ne (by decide), pI_at]; rfl
  have v56 : v.1 56 0 = (c' : Int) := by
    rw [← hv]; unfold ENf
    rw [pI_ne (by decide), pL_I, pI_ne (by decide), pI_at]
  have v58 : v.2 58 0 = evb n := by
    rw [← hv]; unfold ENf
    rw [pI_L, pL_at]
  have v51 : v.1 200 51 = ((0 + 1 : Nat) : Int) := by rw [← hv]; unfold ENf; rw [pI_at]
  have vL : ∀ x, x ≠ 58 → v.2 x = m.2 x := fun x hx => by rw [← hv]; unfold ENf; rw [pI_L, pL_ne hx]; rfl
  have eX : XC u v = XC t m := by
    show (u.1 363, v.1 31, v.1 32) = (t.1 363, m.1 31, m.1 32)
    rw [uo 363 (by omega), vo 31 (by decide) (by decide) (by decide) (by decide), vo 32 (by decide) (by decide) (by decide) (by decide)]
  refine ⟨u, v, a', hH, hM, ⟨⟨by rw [← hu, pI_nf (by decide), pL_I, pI_at], by rw [← hu, pI_at]; rfl, v51, by rw [v58, ← hu, pI_L, pL_at]⟩, ?_⟩, ⟨by rw [← hu, pI_nf (by decide), pL_I, pI_nf (by decide), pI_at], v52⟩, ⟨uo, fun y h1 h2 h3 => by rw [← hu, pI_nf h3, pL_I, pI_nf h2, pI_nf h1], uL⟩, ⟨vo, vf, vL⟩⟩
  rw [eX, uo 302 (by omega)]
  refine ⟨M', f', b', c' + 1, d', c' - 2, c', ⟨v55, t6, t7.2.2.1, t4, ⟨by omega, by rw [vf 33 (by decide) (by decide)]; exact t5⟩, by omega, ⟨t1.tr ⟨by rw [vf 14 (by decide) (by decide)]; exact Int.le_refl _, fun f _ => by rw [vo 18 (by decide) (by decide) (by decide) (by decide)]⟩, by rw [vf 15 (by decide) (by decide)]; exact t2, p, t3, by rw [vf 16 (by decide) (by decide)]; exact hp, by rw [vo 29 (by decide) (by decide) (by decide) (by decide), t10]; omega⟩, fun e he hb => ?_⟩, v56, by omega, rfl, t7.2.1, t8⟩
  rw [v58, bq_evb hE.n64 he] at hb
  exact of_decide_eq_true hb
/-- begin against begin -/
theorem begin_both {a0 : Int} (hB : BK0 t m) (hE : EVr 0 t m n) (ha : inR a0) : ∃ (r : Int) (u v : St), f_X11_begin N a0 t = some (r, u) ∧ f_X12_begin N a0 m = some (r, v) ∧ ((r = 0 ∧ u = t ∧ v = m) ∨ (r = 1 ∧ (∃ a, RUNP 0 n u v 0 0 a) ∧ (u.1 307 2 = 1 ∧ v.1 200 50 = 1 ∧ v.1 200 52 = 0) ∧ ((∀ x, x ≠ 307 → u.1 x = t.1 x) ∧ (∀ y, y ≠ 2 → y ≠ 3 → y ≠ 6 → u.1 307 y = t.1 307 y) ∧ (∀ x, x ≠ 307 → u.2 x = t.2 x)) ∧ ((∀ x, x ≠ 55 → x ≠ 56 → x ≠ 57 → x ≠ 200 → v.1 x = m.1 x) ∧ (∀ b, b ≠ 50 → b ≠ 51 → b ≠ 52 → v.1 200 b = m.1 200 b) ∧ (∀ x, x ≠ 58 → v.2 x = m.2 x)))) := by
  have hBn := hB.2.1
  obtain ⟨_, ⟨n5, n6, n7, n8⟩, n9, _⟩ := hBn
  have e314 : t.1 (312 + 2) 2 = m.1 200 16 := n7
  unfold f_X11_begin f_X12_begin
  simp only [lt1_k]
  rw [e314, in_k ha (by omega) (by omega), bdI_s, cmpI_ok (by omega)]
  by_cases h0 : a0 < 0
  · rw [if_pos h0, if_pos (Or.inl h0), cmpI_ok (by omega), if_pos rfl, boI_0, boI_0]
    exact ⟨0, t, m, rfl, rfl, Or.inl ⟨rfl, rfl, rfl⟩⟩
  · rw [if_neg h0, cmpI_ok (by omega)]
    by_cases h1 : a0 < m.1 200 16
    · rw [if_pos h1, if_neg (by omega), cmpI_ok (by omega), if_neg (by decide), boI_1]
      obtain ⟨p, hp⟩ := Int.eq_ofNat_of_zero_le (show 0 ≤ a0 by omega)
      subst hp
      have po : ∀ x, x ≠ 200 → (pI m 200 50 1).1 x = m.1 x := fun x hx => pI_ne hx
      have pf : ∀ b, b ≠ 50 → (pI m 200 50 1).1 200 b = m.1 200 b := fun b hb => pI_nf hb
      have hB1 : BK0 t (pI m 200 50 1) := hB.mv (fun _ _ _ _ => rfl) (fun x y hx _ => by rw [po x (by omega)]) (fun _ _ _ _ => rfl) ⟨rfl, rfl, rfl⟩ ⟨rfl, rfl, rfl⟩ ⟨pf 13 (by decide), pf 14 (by decide), pf 15 (by decide), pf 16 (by decide), pf 17 (by decide), pf 33 (by decide)⟩
      have hE1 : EVr 0 t (pI m 200 50 1) n := hE.r5 (p := 0) (by decide) (fun _ _ _ _ => rfl) (fun _ _ _ _ _ _ => rfl) hE.2.2.2.2.2.1 (fun a ha => po a (by omega)) (pf 37 (by decide)) (pf 14 (by decide)) (pf 54 (by decide))
      · obtain ⟨u, v, a, s1, s2, s3, s4, s5, s6, s7, s8⟩ := start_both (N := N) (o := 0) (p := p) (by decide) hB1 hE1 (by rw [pf 16 (by decide)]; exact h1)
        rw [(hE.ev (N := N)).1, bdL_s, s1, bdV_s, s2, bdV_s, boI_1]
        refine ⟨1, u, v, rfl, rfl, Or.inr ⟨rfl, ⟨a, s3⟩, ⟨s4.1, ?_, s4.2⟩, s5, fun x h1 h2 h3 h4 => by rw [s6 x h1 h2 h3 h4, po x h4], fun b h1 h2 h3 => by rw [s7 b h2 h3, pf b h1], fun x hx => by rw [s8 x hx]; rfl⟩⟩
        rw [s7 50 (by decide) (by decide), pI_at]
    · rw [if_neg h1, if_pos (Or.inr (by omega)), cmpI_ok (by omega), if_pos rfl, boI_0, boI_0]
      exact ⟨0, t, m, rfl, rfl, Or.inl ⟨rfl, rfl, rfl⟩⟩
end
