/-! calls that ask, feed, mark -/
/-- what a call leaves for the history -/
def HKf (t m u v : St) : Prop := u.1 309 = t.1 309 ∧ (v.1 200 59 = m.1 200 59 ∧ v.1 200 60 = m.1 200 60) ∧ (∀ a, 61 ≤ a → a ≤ 64 → v.1 a = m.1 a) ∧ (v.2 65 = m.2 65 ∧ v.2 66 = m.2 66) ∧ BGr (XC t m) m (t.1 302 18) (XC u v) v (u.1 302 18)
section
variable {N n c : Nat} {t m : St}
theorem BGr.rf : BGr (XC t m) m (t.1 302 18) (XC t m) m (t.1 302 18) := BGr.same rfl rfl rfl rfl rfl rfl (fun _ _ => rfl)
theorem HKf.rf : HKf t m t m := ⟨rfl, ⟨rfl, rfl⟩, fun _ _ _ => rfl, ⟨rfl, rfl⟩, BGr.rf⟩
theorem q_fault (h : GR0 n c t m) : ∃ r : Int, f_X11_fault N t = some (r, t) ∧ f_X12_fault N m = some (r, m) := by
  refine ⟨m.1 200 8, ?_, rfl⟩
  unfold f_X11_fault
  rw [lt1_k, h.1.2.2.2.1]
theorem q_failed {a0 : Int} (ha : inR a0) (h : GR0 n c t m) : ∃ r : Int, f_X11_failed N a0 t = some (r, t) ∧ f_X12_failed N a0 m = some (r, m) := by
  obtain ⟨_, _, _, ⟨_, _, ⟨h1, h2, h3⟩, _⟩, _⟩ := h
  unfold f_X11_failed f_X12_failed
  simp only [lt1_k]
  rw [rnI_ok ha, cmpI_ok (by omega), h1, h2, h3]
  by_cases c0 : a0 = 0
  · exact ⟨_, by rw [if_pos c0], by rw [if_pos c0]⟩
  · rw [if_neg c0, if_neg c0, cmpI_ok (by omega)]
    by_cases c1 : a0 = 1
    · exact ⟨_, by rw [if_pos c1], by rw [if_pos c1]⟩
    · rw [if_neg c1, if_neg c1, cmpI_ok (by omega)]
      by_cases c2 : a0 = 2
      · exact ⟨_, by rw [if_pos c2], by rw [if_pos c2]⟩
      · exact ⟨_, by rw [if_neg c2], by rw [if_neg c2]⟩
theorem q_dancer {a0 a1 : Int} (ha : inR a0) (ha1 : inR a1) (h : GR0 n c t m) : ∃ r : Int, f_X11_dancer N a0 a1 t = some (r, t) ∧ f_X12_dancer N a0 a1 m = some (r, m) := by
  obtain ⟨_, ⟨⟨h0, hE⟩, hT, _⟩, _⟩ := h
  have h64 := hE.n64
  have h37 := hE.2.1.1.1
  have hF := hE.2.1.2
  have h8 : t.1 (305 + 0) 8 = n := hF.1
  unfold f_X11_dancer f_X12_dancer
  simp only [lt1_k]
  rw [h37, h8, in_k ha (by omega) (by omega), bdI_s]
  by_cases c0 : a0 < 0
  · exact ⟨-1, by rw [cmpI_ok (by omega), if_pos c0], by rw [if_pos (by omega), cmpI_ok (by omega), if_pos rfl]⟩
  rw [cmpI_ok (by omega), if_neg c0]
  by_cases c1 : a0 < n
  · obtain ⟨d, hd⟩ : ∃ d : Nat, a0 = d := ⟨a0.toNat, by omega⟩
    subst hd
    have g1 := hF.2.1 d (by omega)
    have g2 : t.1 (393 + 10 * 0) d = m.1 41 d := (hT d (by omega)).1
    have nn : ((d : Int)).toNat = d := Int.toNat_natCast d
    rw [cmpI_ok (show inR (d : Int) ∧ inR (n : Int) by omega), if_pos c1, if_neg (show ¬ ((d : Int) < 0 ∨ (n : Int) - 1 < (d : Int)) by omega), rnI_ok ha1, cmpI_ok (show inR (1 : Int) ∧ inR (0 : Int) by omega), if_neg (show ¬ (1 : Int) = 0 by decide)]
    by_cases e0 : a1 = 0
    · exact ⟨m.1 38 d, by rw [if_pos e0, ixI_ok (by omega), nn, g1.1], by rw [cmpI_ok (by omega), if_pos e0, ixI_ok (by omega), nn]⟩
    by_cases e1 : a1 = 1
    · exact ⟨m.1 39 d, by rw [if_neg e0, if_pos e1, ixI_ok (by omega), nn, g1.2.1], by rw [cmpI_ok (by omega), if_neg e0, cmpI_ok (by omega), if_pos e1, ixI_ok (by omega), nn]⟩
    by_cases e2 : a1 = 2
    · exact ⟨m.1 40 d, by rw [if_neg e0, if_neg e1, if_pos e2, ixI_ok (by omega), nn, g1.2.2], by rw [cmpI_ok (by omega), if_neg e0, cmpI_ok (by omega), if_neg e1, cmpI_ok (by omega), if_pos e2, ixI_ok (by omega), nn]⟩
    by_cases e3 : a1 = 3
    · exact ⟨m.1 41 d, by rw [if_neg e0, if_neg e1, if_neg e2, if_pos e3, ixI_ok (by omega), nn, g2], by rw [cmpI_ok (by omega), if_neg e0, cmpI_ok (by omega), if_neg e1, cmpI_ok (by omega), if_neg e2, cmpI_ok (by omega), if_pos e3, ixI_ok (by omega), nn]⟩
    · exact ⟨-1, by rw [if_neg e0, if_neg e1, if_neg e2, if_neg e3], by rw [cmpI_ok (by omega), if_neg e0, cmpI_ok (by omega), if_neg e1, cmpI_ok (by omega), if_neg e2, cmpI_ok (by omega), if_neg e3]⟩
  · exact ⟨-1, by rw [cmpI_ok (by omega), if_neg c1], by rw [if_pos (by omega), cmpI_ok (by omega), if_pos rfl]⟩
theorem q_at {a0 a1 : Int} (ha : inR a0) (ha1 : inR a1) (hN : 100 ≤ N) (h : GR0 n c t m) : ∃ r : Int, f_X11_at N a0 a1 t = some (r, t) ∧ f_X12_at N a0 a1 m = some (r, m) := at_same h.2.1.1.2 ha ha1 hN
theorem q_rows (h : GR0 n c t m) : f_X11_rows N t = some (m.2 200 100, t) ∧ f_X12_rows N m = some (m.2 200 100, m) := by
  refine ⟨?_, rfl⟩
  unfold f_X11_rows
  rw [(rows_both h.2.2.2.2.2).1, bdL_s]
theorem q_found {a0 : Int} (ha : inR a0) (h : GR0 n c t m) : ∃ r : Int, f_X11_found N a0 t = some (r, t) ∧ f_X12_found N a0 m = some (r, m) := by
  obtain ⟨x, h1, h2⟩ := found_both (N := N) ha h.2.2.2.2.2
  refine ⟨x, ?_, h2⟩
  unfold f_X11_found
  rw [h1, bdI_s]
/-- only text was read or fed -/
theorem GR0.tx {u v : St} (h : GR0 n c t m) (hT : TXt u v) (hf : u.1 300 13 = v.1 200 8 ∧ 0 ≤ v.1 200 8 ∧ v.1 200 8 ≤ 7) (g : ∀ x, x ≠ 300 → x ≠ 301 → x ≠ 303 → (x < 330 ∨ 335 < x) → u.1 x = t.1 x) (g3 : ∀ b, b ≠ 13 → u.1 300 b = t.1 300 b) (gL : ∀ x, x ≠ 335 → u.2 x = t.2 x) (e : ∀ x, x ≠ 0 → x ≠ 200 → v.1 x = m.1 x) (e2 : ∀ b, 8 < b → b ≠ 34 → b ≠ 35 → b ≠ 36 → v.1 200 b = m.1 200 b) (eL : v.2 = m.2) : GR0 n c u v ∧ HKf t m u v := by
  obtain ⟨hb, hF, hr, hn, ht, hs⟩ := h
  have gg : ∀ x, (x = 302 ∨ (304 ≤ x ∧ x ≤ 329) ∨ 336 ≤ x) → u.1 x = t.1 x := fun x hx => g x (by omega) (by omega) (by omega) (by omega)
  have hB : BK0 u v := hb.1.mv (fun x y hx _ => by rw [gg x (by omega)]) (fun x y hx _ => by rw [e x (by omega) (by omega)]) (fun s x hs _ => by rw [gL (340 + s) (by omega)]) ⟨by rw [gg 312 (by omega)], by rw [gg 313 (by omega)], by rw [gg 314 (by omega)]⟩ ⟨by rw [gg 302 (by omega)], by rw [gg 302 (by omega)], by rw [gg 302 (by omega)]⟩ ⟨e2 13 (by omega) (by omega) (by omega) (by omega), e2 14 (by omega) (by omega) (by omega) (by omega), e2 15 (by omega) (by omega) (by omega) (by omega), e2 16 (by omega) (by omega) (by omega) (by omega), e2 17 (by omega) (by omega) (by omega) (by omega), e2 33 (by omega) (by omega) (by omega) (by omega)⟩
  have hG : BGr (XC t m) m (t.1 302 18) (XC u v) v (u.1 302 18) := BGr.same (gg 363 (by omega)) (by rw [gg 302 (by omega)]) (e 31 (by omega) (by omega)) (e 32 (by omega) (by omega)) (e 18 (by omega) (by omega)) (e 29 (by omega) (by omega)) (fun b hb => e2 b (by omega) (by omega) (by omega) (by omega))
  refine ⟨⟨⟨hB, by unfold kwOK; rw [gL 331 (by decide)]; exact hb.2.1, hT, hf⟩, hF.mv hB (hF.1.2.2.2.2.2.2.1.ch (fun x hx => gg x (by omega)) (gL 311 (by decide))) (fun x hx => gg x (by omega)) (gL 396 (by decide)) (fun d _ => by rw [e 38 (by omega) (by omega), e 39 (by omega) (by omega), e 40 (by omega) (by omega), e 41 (by omega) (by omega), e 44 (by omega) (by omega), e 45 (by omega) (by omega), e 46 (by omega) (by omega)]; exact ⟨rfl, rfl, rfl, rfl, rfl, rfl, rfl⟩) ⟨e 47 (by omega) (by omega), e 48 (by omega) (by omega), e 49 (by omega) (by omega)⟩ (e2 37 (by omega) (by omega) (by omega) (by omega)), hr.mv hG (fun b _ => by rw [gg 307 (by omega)]) ⟨gL 307 (by decide), gL 410 (by decide)⟩ (fun d _ => by rw [e 55 (by omega) (by omega), e 56 (by omega) (by omega), e 57 (by omega) (by omega), eL]; exact ⟨rfl, rfl, rfl, rfl⟩) (fun b hb => e2 b (by omega) (by omega) (by omega) (by omega)) (by rw [e2 53 (by omega) (by omega) (by omega) (by omega)]; exact hr.2.2.2.1), hn.mv (fun b _ _ h3 => g3 b h3) (fun b hb => e2 b (by omega) (by omega) (by omega) (by omega)), ht.mv (fun x hx => gg x (by omega)) (by rw [gg 310 (by omega)]) (e2 89 (by omega) (by omega) (by omega) (by omega)), hs.mv (gg 433 (by omega)) (gg 432 (by omega)) (fun i _ => by rw [gg 362 (by omega)]) (fun b _ => by rw [gg 310 (by omega)]) (gg 435 (by omega)) (gL 434 (by decide)) (gg 438 (by omega)) (fun a ha => e a (by omega) (by omega)) (by rw [eL]) (fun b hb => e2 b (by omega) (by omega) (by omega) (by omega)) (by rw [e2 17 (by omega) (by omega) (by omega) (by omega)]; exact Int.le_refl _) (by rw [eL])⟩, gg 309 (by omega), ⟨e2 59 (by omega) (by omega) (by omega) (by omega), e2 60 (by omega) (by omega) (by omega) (by omega)⟩, fun a h1 h2 => e a (by omega) (by omega), ⟨by rw [eL], by rw [eL]⟩, hG⟩
theorem GR0.fd {u v : St} {p : Nat} (h : GR0 n c t m) (hp : p ≤ 4096) (hF : FDr t m p u v) : GR0 n c u v ∧ HKf t m u v := by
  obtain ⟨b1, b2, b3, b4, b5, b6, b7, b8, b9⟩ := hF
  exact h.tx ⟨⟨p, hp, b1.1, b1.2, b2⟩, b3⟩ (by rw [b4 300 (by decide) (by decide), b8 8 (by decide)]; exact h.1.2.2.2) (fun x _ h2 _ h4 => b4 x h2 (by omega)) (fun b _ => by rw [b4 300 (by decide) (by decide)]) (fun x _ => by rw [b6]) b7 (fun b h1 _ _ _ => b8 b (by omega)) b9
theorem q_feed {a0 a1 a2 a3 a4 : Int} (h0 : inR a0) (h1 : inR a1) (h2 : inR a2) (h3 : inR a3) (h4 : inR a4) (hN : 100 ≤ N) (h : GR0 n c t m) : ∃ (r : Int) (u v : St), f_X11_feed N a0 a1 a2 a3 a4 t = some (r, u) ∧ f_X12_feed N a0 a1 a2 a3 a4 m = some (r, v) ∧ GR0 n c u v ∧ HKf t m u v := by
  obtain ⟨r, p, u, v, k1, k2, _, k4, k5⟩ := feed_both (N := N) hN h.1.2.2.1 h0 h1 h2 h3 h4
  exact ⟨r, u, v, k1, k2, h.fd k4 k5⟩
theorem q_end {a0 : Int} (h0 : inR a0) (h : GR0 n c t m) : ∃ (r : Int) (u v : St), f_X11_end N a0 t = some (r, u) ∧ f_X12_end N a0 m = some (r, v) ∧ GR0 n c u v ∧ HKf t m u v := by
  obtain ⟨r, p, u, v, k1, k2, _, k4, k5⟩ := end_both (N := N) h.1.2.2.1 h0
  exact ⟨r, u, v, k1, k2, h.fd k4 k5⟩
theorem q_named {a0 : Int} (h0 : inR a0) (hN : 5000 ≤ N) (h : GR0 n c t m) : ∃ (r : Int) (u v : St), f_X11_named N a0 t = some (r, u) ∧ f_X12_named N a0 m = some (r, v) ∧ GR0 n c u v ∧ HKf t m u v := by
  obtain ⟨r, u, v, k1, k2, _, _, k5, ⟨k6, k7, k8⟩, k9, k10, k11⟩ := named_both (N := N) hN h.1.1 h.1.2.2.1 h.1.2.1 h0
  have hm := h.1.2.2.1.2
  refine ⟨r, u, v, k1, k2, h.tx ⟨⟨0, by omega, k8, k11, fun i hi => by omega⟩, ?_⟩ k5 (fun x h1 h2 h3 h4 => by funext b; exact k6 x b (by omega) (by omega) (by omega) (Or.inl h2) h3 (Or.inl h1)) (fun b hb => k6 300 b (by decide) (by decide) (by decide) (Or.inl (by decide)) (by decide) (Or.inr hb)) (fun x hx => k7 x hx) (fun x _ h2 => by funext b; exact k9 x b (Or.inl h2)) (fun b h1 h2 h3 h4 => k9 200 b (Or.inr (Or.inr ⟨h1, h2, h3, h4⟩))) k10⟩
  unfold mBy at hm ⊢
  intro i hi
  rw [k9 0 i (Or.inl (by decide))]
  exact hm i hi
theorem m_marks_at {v : St} (hN : 100 ≤ N) (hF : fmF m n) (h : f_X12_marks N m = some v) : ∀ d, d < n → v.1 47 d = m.1 38 d ∧ v.1 48 d = m.1 39 d ∧ v.1 49 d = m.1 40 d := by
  have h64 := hF.2.1
  obtain ⟨v', b1, b2, b3, b4, b5⟩ := m_marksL h64 n 0 N m hF.1 (by omega) (by omega)
  have h2 : f_X12_marks N m = some v' := b1 (fun (t11 : St) => some t11)
  have h3 : v = v' := Option.some.inj (h.symm.trans h2)
  rw [h3]
  exact fun d hd => b4 d (by omega) hd
/-- the aim is marked -/
theorem q_mark (hN : 100 ≤ N) (h : GR0 n c t m) : ∃ (u v : St), f_X11_mark N t = some u ∧ f_X12_mark N m = some v ∧ GR0 n c u v ∧ HKf t m u v := by
  obtain ⟨u, v, k1, k2, k3, k4, k5, k6, k7⟩ := mark_both (N := N) h.2.1.1.2 hN
  obtain ⟨hb, hF, hr, hn, ht, hs⟩ := h
  have hB : BK0 u v := hb.1.mv (fun x y hx _ => by rw [k4 x (by omega)]) (fun x y hx _ => by rw [k6 x (by omega)]) (fun s x hs _ => by rw [k5]) ⟨by rw [k4 312 (by omega)], by rw [k4 313 (by omega)], by rw [k4 314 (by omega)]⟩ ⟨by rw [k4 302 (by omega)], by rw [k4 302 (by omega)], by rw [k4 302 (by omega)]⟩ ⟨by rw [k6 200 (by omega)], by rw [k6 200 (by omega)], by rw [k6 200 (by omega)], by rw [k6 200 (by omega)], by rw [k6 200 (by omega)], by rw [k6 200 (by omega)]⟩
  have hG : BGr (XC t m) m (t.1 302 18) (XC u v) v (u.1 302 18) := BGr.same (k4 363 (by omega)) (by rw [k4 302 (by omega)]) (k6 31 (by omega)) (k6 32 (by omega)) (k6 18 (by omega)) (k6 29 (by omega)) (fun b hb => by rw [k6 200 (by omega)])
  obtain ⟨⟨h0, hE⟩, h2, h3, h4, h5, h6⟩ := hF
  have h64 := hE.n64
  have hcod := k3
  have hE2 : EVr 0 u v n := hE.bk hB (hE.2.2.2.2.2.1.ch (fun x hx => k4 x (by omega)) (by rw [k5])) (fun x hx => k4 x (by omega)) (by rw [k5]) (fun d _ => by rw [k6 38 (by omega), k6 39 (by omega), k6 40 (by omega)]; exact ⟨rfl, rfl, rfl⟩) (fun _ => ⟨Or.inl rfl, fun d _ => by rw [k6 44 (by omega), k6 45 (by omega), k6 46 (by omega)]; exact ⟨rfl, rfl, rfl⟩⟩) (by rw [k6 200 (by omega)])
  have haim : ∀ d, d < n → v.1 47 d = m.1 38 d ∧ v.1 48 d = m.1 39 d ∧ v.1 49 d = m.1 40 d := m_marks_at (N := N) hN hE.2.1.1 k2
  refine ⟨u, v, ?_, ?_, ⟨hb.mv hB (by rw [k5]) ⟨by rw [k4 301 (by omega)], k4 330 (by omega)⟩ (by rw [k4 300 (by omega)]) (by rw [k6 200 (by omega)]) (k6 0 (by omega)) (by rw [k6 200 (by omega)]), ⟨⟨h0, hE2⟩, ?_, ?_, k3, ?_, by rw [k4 305 (by omega)]; exact h6⟩, hr.mv hG (fun b _ => by rw [k4 307 (by omega)]) ⟨by rw [k5], by rw [k5]⟩ (fun d _ => by rw [k6 55 (by omega), k6 56 (by omega), k6 57 (by omega), k7]; exact ⟨rfl, rfl, rfl, rfl⟩) (fun b hb => by rw [k6 200 (by omega)]) (by rw [k6 200 (by omega)]; exact hr.2.2.2.1), hn.mv (fun b _ _ _ => by rw [k4 300 (by omega)]) (fun b hb => by rw [k6 200 (by omega)]), ht.mv (fun x hx => k4 x (by omega)) (by rw [k4 310 (by omega)]) (by rw [k6 200 (by omega)]), hs.mv (k4 433 (by omega)) (k4 432 (by omega)) (fun i _ => by rw [k4 362 (by omega)]) (fun b _ => by rw [k4 310 (by omega)]) (k4 435 (by omega)) (by rw [k5]) (k4 438 (by omega)) (fun a ha => k6 a (by omega)) (by rw [k7]) (fun b hb => by rw [k6 200 (by omega)]) (by rw [k6 200 (by omega)]; exact Int.le_refl _) (by rw [k7])⟩, k4 309 (by omega), ⟨by rw [k6 200 (by omega)], by rw [k6 200 (by omega)]⟩, fun a h1 h2 => k6 a (by omega), ⟨by rw [k7], by rw [k7]⟩, hG⟩
  · unfold f_X11_mark; rw [k1, bdV_s]
  · unfold f_X12_mark; rw [k2, bdV_s]
  · intro d hd; rw [k4 393 (by omega), k6 41 (by omega)]; exact h2 d hd
  · intro d hd; rw [k6 38 (by omega), k6 39 (by omega)]; exact h3 d hd
  · intro d hd; rw [(haim d hd).1, (haim d hd).2.1]; exact h3 d hd
/-- numbers that tell about the hall -/
theorem q_about {a0 : Int} (ha : inR a0) (hN : 200 ≤ N) (h : GR0 n c t m) (h309 : t.1 309 2 = m.1 200 59) : ∃ r : Int, f_X11_about N a0 t = some (r, t) ∧ f_X12_about N a0 m = some (r, m) := by
  obtain ⟨hb, hF, hr, hn, ht, hs⟩ := h
  obtain ⟨⟨h0, hE⟩, h2, h3, h4, h5, h6⟩ := hF
  obtain ⟨r1, q1, q2, q3⟩ := home_both (N := N) hE (Or.inl rfl) hN
  obtain ⟨r2, p1, p2, p3, _⟩ := aim_both (N := N) hE.2.1 h4 hN
  have h37 := hE.2.1.1.1
  have h8 : t.1 (305 + 0) 8 = n := hE.2.1.2.1
  obtain ⟨⟨a9, c9, x1, x2, _, _, x5⟩, ⟨y1, y2, y3, y4⟩, _⟩ := hb.1.2.1
  obtain ⟨e9, _, z1, z2, _⟩ := hb.2.2.1.1
  obtain ⟨_, e8, _, w1, w2, _⟩ := ht
  have hlive : t.1 (307 + 0) 2 = m.1 200 50 ∧ (m.1 200 50 = 0 ∨ m.1 200 50 = 1) := by
    show t.1 307 2 = m.1 200 50 ∧ _
    rcases hr.1 with ⟨g1, g2⟩ | ⟨g1, g2, _⟩
    · exact ⟨by rw [g1, g2], Or.inl g2⟩
    · exact ⟨by rw [g1, g2], Or.inr g2⟩
  unfold f_X11_about f_X12_about
  simp only [lt1_k]
  rw [rnI_ok ha, rnI_ok ha, h8, h37, hn.1.1, hn.2.1.1, h309, q2, q3, bdI_s, bdI_s, p2, p3, bdI_s, bdI_s, show t.1 (312 + 0) 2 = m.1 200 14 from y1, show t.1 (312 + 1) 2 = m.1 200 15 from y2, show t.1 (312 + 2) 2 = m.1 200 16 from y3, y4, hlive.1, w1, w2, z1, z2, x5, x2]
  repeat' (first | (rw [cmpI_ok (by omega)]))
  by_cases c0 : a0 = 0
  · exact ⟨_, by rw [if_pos c0], by rw [if_pos c0]⟩
  rw [if_neg c0, if_neg c0]
  by_cases c1 : a0 = 1
  · exact ⟨_, by rw [if_pos c1], by rw [if_pos c1]⟩
  rw [if_neg c1, if_neg c1]
  by_cases c2 : a0 = 2
  · exact ⟨_, by rw [if_pos c2], by rw [if_pos c2]⟩
  rw [if_neg c2, if_neg c2]
  by_cases c3 : a0 = 3
  · exact ⟨_, by rw [if_pos c3], by rw [if_pos c3]⟩
  rw [if_neg c3, if_neg c3]
  by_cases c4 : a0 = 4
  · rw [if_pos c4, if_pos c4]
    rcases q1 with q1 | q1
    · exact ⟨0, by rw [q1, if_pos rfl], by rw [q1, if_pos rfl]⟩
    · exact ⟨1, by rw [q1, if_neg (by decide)], by rw [q1, if_neg (by decide)]⟩
  rw [if_neg c4, if_neg c4]
  by_cases c5 : a0 = 5
  · rw [if_pos c5, if_pos c5]
    rcases p1 with q1 | q1
    · exact ⟨0, by rw [q1, if_pos rfl], by rw [q1, if_pos rfl]⟩
    · exact ⟨1, by rw [q1, if_neg (by decide)], by rw [q1, if_neg (by decide)]⟩
  rw [if_neg c5, if_neg c5]
  by_cases c6 : a0 = 6
  · exact ⟨_, by rw [if_pos c6], by rw [if_pos c6]⟩
  rw [if_neg c6, if_neg c6]
  by_cases c7 : a0 = 7
  · exact ⟨_, by rw [if_pos c7], by rw [if_pos c7]⟩
  rw [if_neg c7, if_neg c7]
  by_cases c8 : a0 = 8
  · exact ⟨_, by rw [if_pos c8], by rw [if_pos c8]⟩
  rw [if_neg c8, if_neg c8]
  by_cases d9 : a0 = 9
  · exact ⟨_, by rw [if_pos d9], by rw [if_pos d9]⟩
  rw [if_neg d9, if_neg d9]
  by_cases c10 : a0 = 10
  · rw [if_pos c10, if_pos c10]
    rcases hlive.2 with q1 | q1
    · exact ⟨0, by rw [q1, if_pos rfl], by rw [q1, if_pos rfl]⟩
    · exact ⟨1, by rw [q1, if_neg (by decide)], by rw [q1, if_neg (by decide)]⟩
  rw [if_neg c10, if_neg c10]
  by_cases c11 : a0 = 11
  · exact ⟨_, by rw [if_pos c11], by rw [if_pos c11]⟩
  rw [if_neg c11, if_neg c11]
  by_cases c12 : a0 = 12
  · exact ⟨_, by rw [if_pos c12], by rw [if_pos c12]⟩
  rw [if_neg c12, if_neg c12]
  by_cases c13 : a0 = 13
  · exact ⟨_, by rw [if_pos c13], by rw [if_pos c13]⟩
  rw [if_neg c13, if_neg c13]
  exact ⟨_, rfl, rfl⟩
end
