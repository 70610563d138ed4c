/-! step, both sides: all -/
section
variable {N n c : Nat} {t m μ : St} {B : Nat} {len : Nat → Nat}
/-- a step of the part can't be danced -/
theorem step_no {u v u2 w : St} {r : Int} (hr0 : inR r) (h : GR0 n c t m) (g1 : CIk u2) (g2 : LIn u2) (g3 : u2.1 304 11 ≤ t.1 304 11 + 64) (g4 : DHs 0 t u2) (g5 : DMs m w) (h9 : 0 ≤ u2.1 307 9 ∧ u2.1 307 9 ≤ 29000 + 9000 * ((c + 1 : Nat) : Int)) (h53 : 0 ≤ w.1 200 53 ∧ w.1 200 53 ≤ 29000 + 9000 * ((c + 1 : Nat) : Int)) (h10 : u2.1 307 10 = t.1 307 10 + 1) (f3 : blm u2 w r) (f4 : EVr 0 u2 w n) (f5 : u2.1 305 9 = t.1 305 9) (f6 : ∀ d, u2.1 393 d = t.1 393 d ∧ w.1 41 d = m.1 41 d) (f7 : w.1 200 42 = m.1 200 42 ∧ w.1 200 43 = m.1 200 43) (f8 : w.1 38 = m.1 38 ∧ w.1 39 = m.1 39 ∧ w.1 40 = m.1 40) : ∃ u3 v3 : St, f_X11_noteFailure N (pI u2 307 2 0) = some u3 ∧ f_X12_notes N w = some v3 ∧ v3.1 200 70 = r ∧ GR0 n (c + 1) u3 (pI v3 200 50 0) ∧ HKf t m u3 (pI v3 200 50 0) := by
  have hbl : blm (pI u2 307 2 0) w r := by
    unfold blm at f3 ⊢
    rw [pI_ne (by decide)]
    exact f3
  obtain ⟨u3, v3, y1, y2, y3, y4, y5, y6, y7, y8, y9⟩ := q_note (N := N) hr0 hbl
  have uo : ∀ x, x ≠ 300 → x ≠ 307 → u3.1 x = u2.1 x := fun x z1 z2 => by rw [y4 x z1, pI_ne z2]
  have ub : ∀ b, (b < 14 ∨ 16 < b) → u3.1 300 b = u2.1 300 b := fun b hb => by rw [y5 b hb, pI_ne (by decide)]
  have u7 : ∀ b, b ≠ 2 → u3.1 307 b = u2.1 307 b := fun b hb => by rw [y4 307 (by decide), pI_nf hb]
  have uL : u3.2 = u2.2 := by rw [y6]; rfl
  have vo : ∀ x, x ≠ 200 → (pI v3 200 50 0).1 x = w.1 x := fun x hx => by rw [pI_ne hx, y7 x hx]
  have vb : ∀ b, b ≠ 50 → (b < 67 ∨ 69 < b) → (pI v3 200 50 0).1 200 b = w.1 200 b := fun b z1 z2 => by rw [pI_nf z1, y8 b z2]
  have vL : (pI v3 200 50 0).2 = w.2 := y9
  have tU : ∀ x, x ≠ 300 → x ≠ 304 → x ≠ 305 → x ≠ 307 → x ≠ 311 → (x < 372 ∨ 383 < x) → (x < 390 ∨ 397 < x) → u3.1 x = t.1 x := fun x z1 z2 z3 z4 z5 z6 z7 => by rw [uo x z1 z4]; exact g4.1 x z2 (by omega) (by omega) z5 z6 (by omega)
  have e300 : u2.1 300 = t.1 300 := g4.1 300 (by omega) (by omega) (by omega) (by omega) (by omega) (by omega)
  have mV : ∀ b, b ≠ 42 → b ≠ 43 → (b < 50 ∨ 53 < b) → (b < 67 ∨ 75 < b) → (b < 82 ∨ 85 < b) → b ≠ 88 → b ≠ 114 → b ≠ 115 → (pI v3 200 50 0).1 200 b = m.1 200 b := fun b z1 z2 z3 z4 z5 z6 z7 z8 => by rw [vb b (by omega) (by omega)]; exact g5.2.1 b z1 z2 (by omega) (by omega) z5 z6 z7 z8
  have hC : CIk u3 := g1.ch (fun x hx => uo x (by omega) (by omega)) (by rw [uL])
  have hE : EVr 0 u3 (pI v3 200 50 0) n := f4.ch (fun x hx => uo x (by omega) (by omega)) (by rw [uL]) hC (fun d _ => by rw [vo 38 (by decide), vo 39 (by decide), vo 40 (by decide)]; exact ⟨rfl, rfl, rfl⟩) (fun _ => ⟨Or.inl rfl, fun d _ => by rw [vo 44 (by decide), vo 45 (by decide), vo 46 (by decide)]; exact ⟨rfl, rfl, rfl⟩⟩) (fun a z1 z2 => vo a (by omega)) (vb 37 (by omega) (by omega)) (vb 14 (by omega) (by omega))
  have hn := h.2.2.2.1
  have hr := h.2.2.1
  refine ⟨u3, v3, y1, y2, by rw [y8 70 (by omega)]; exact f3.2.1, h.ru hE (g2.f (by rw [uo 304 (by decide) (by decide)]) (uo 378 (by decide) (by decide))) (by rw [uo 304 (by decide) (by decide)]; exact g3) tU (by rw [ub 13 (by omega), e300]) (fun x z1 z2 z3 z4 z5 z6 z7 => by rw [uL]; exact g4.2.2 x z1 z2 z3 z4 (by omega) (by omega) (by omega)) (fun x z1 z2 z3 z4 z5 z6 => by rw [vo x z6]; exact g5.1 x z1 z2 z3 z4 z5 z6) (fun b hb => mV b (by omega) (by omega) (by omega) (by omega) (by omega) (by omega) (by omega) (by omega)) (fun x z1 z2 => by rw [vL]; exact g5.2.2 x z1 z2) ⟨?_, ?_, ?_⟩ (fun d hd => ?_) (fun d hd => ?_) (by rw [uo 305 (by decide) (by decide), f5]; omega) (fun _ => ⟨Or.inl ⟨?_, pI_at⟩, ⟨?_, ?_⟩, ?_, ?_, ?_⟩)⟩
  · rw [ub 11 (by omega), e300, vb 42 (by omega) (by omega), f7.1]; have := hn.1; omega
  · rw [ub 12 (by omega), e300, vb 43 (by omega) (by omega), f7.2]; have := hn.2.1; omega
  · rw [pI_nf (by decide), pI_nf (by decide), pI_nf (by decide)]; exact y3
  · rw [uo 393 (by decide) (by decide), vo 41 (by decide), (f6 d).1, (f6 d).2]; exact ⟨(h.2.1.2.1 d hd).1, by omega, by omega⟩
  · rw [vo 38 (by decide), vo 39 (by decide), f8.1, f8.2.1]; exact h.2.1.2.2.1 d hd
  · rw [y4 307 (by decide), pI_at]
  · rw [u7 8 (by decide)]; exact (g4.2.1.2.1 8 (by omega) (by omega) (by omega) (by omega) (by omega)).trans hr.2.1.1
  · rw [mV 54 (by omega) (by omega) (by omega) (by omega) (by omega) (by omega) (by omega) (by omega)]; exact hr.2.1.2
  · rw [u7 9 (by decide)]; exact h9
  · rw [vb 53 (by omega) (by omega)]; exact h53
  · rw [u7 10 (by decide), h10]; have := hr.2.2.2.2; omega
/-- a step of the part is danced -/
theorem step_yes {u2 w : St} {R : Int} {k' h' b1 : Nat} (hR : R ≤ 29000 + 9000 * ((c + 1 : Nat) : Int)) (h : GR0 n c t m) (hl : t.1 307 2 = 1 ∧ m.1 200 50 = 1) (g1 : CIk u2) (g2 : LIn u2) (g3 : u2.1 304 11 ≤ t.1 304 11 + 64) (g4 : DHs 0 t u2) (g5 : DMs m w) (h10 : u2.1 307 10 = t.1 307 10 + 1) (f4 : EVr 0 u2 w n) (f5 : u2.1 305 9 = t.1 305 9 + 1) (f6 : ∀ d, d < n → u2.1 393 d - t.1 393 d = w.1 41 d - m.1 41 d) (f7 : w.1 200 42 = m.1 200 42 + u2.1 304 13 ∧ w.1 200 43 = m.1 200 43 + 1 ∧ 0 ≤ u2.1 304 13 ∧ u2.1 304 13 ≤ 64) (f8 : RLm 0 R u2 w) (f9 : RUNP 0 n u2 w k' h' b1) (f10 : ∀ d, d < n → -8 ≤ w.1 41 d - m.1 41 d ∧ w.1 41 d - m.1 41 d ≤ 8) (f11 : ∀ d, d < n → w.1 38 d ≤ 4 * ((n : Int) - 1) ∧ w.1 39 d ≤ 4 * ((n : Int) - 1)) : GR0 n (c + 1) (pI (pI u2 300 11 (u2.1 300 11 + u2.1 304 13)) 300 12 (u2.1 300 12 + 1)) w ∧ HKf t m (pI (pI u2 300 11 (u2.1 300 11 + u2.1 304 13)) 300 12 (u2.1 300 12 + 1)) w := by
  generalize h3 : pI (pI u2 300 11 (u2.1 300 11 + u2.1 304 13)) 300 12 (u2.1 300 12 + 1) = t3
  have uo : ∀ x, x ≠ 300 → t3.1 x = u2.1 x := fun x hx => by rw [← h3, pI_ne hx, pI_ne hx]
  have ub : ∀ b, b ≠ 11 → b ≠ 12 → t3.1 300 b = u2.1 300 b := fun b z1 z2 => by rw [← h3, pI_nf z2, pI_nf z1]
  have u11 : t3.1 300 11 = u2.1 300 11 + u2.1 304 13 := by rw [← h3, pI_nf (by decide), pI_at]
  have u12 : t3.1 300 12 = u2.1 300 12 + 1 := by rw [← h3, pI_at]
  have uL : t3.2 = u2.2 := by rw [← h3]; rfl
  have e300 : u2.1 300 = t.1 300 := g4.1 300 (by omega) (by omega) (by omega) (by omega) (by omega) (by omega)
  have mV : ∀ b, b ≠ 42 → b ≠ 43 → (b < 51 ∨ 53 < b) → (b < 67 ∨ 75 < b) → (b < 82 ∨ 85 < b) → b ≠ 88 → b ≠ 114 → b ≠ 115 → w.1 200 b = m.1 200 b := fun b z1 z2 z3 z4 z5 z6 z7 z8 => g5.2.1 b z1 z2 z3 (by omega) z5 z6 z7 z8
  have hC : CIk t3 := g1.ch (fun x hx => uo x (by omega)) (by rw [uL])
  have hE : EVr 0 t3 w n := f4.ch (fun x hx => uo x (by omega)) (by rw [uL]) hC (fun d _ => ⟨rfl, rfl, rfl⟩) (fun q => ⟨q, fun d _ => ⟨rfl, rfl, rfl⟩⟩) (fun a z1 z2 => rfl) rfl rfl
  have hn := h.2.2.2.1
  have hr := h.2.2.1
  obtain ⟨l1, ⟨l2, l3, l4, l5⟩, _⟩ := f8
  have l2 : 0 ≤ u2.1 307 9 := l2
  have l3 : u2.1 307 9 ≤ R := l3
  refine h.ru hE (g2.f (by rw [uo 304 (by decide)]) (uo 378 (by decide))) (by rw [uo 304 (by decide)]; exact g3) (fun x z1 z2 z3 z4 z5 z6 z7 => by rw [uo x z1]; exact g4.1 x z2 (by omega) (by omega) z5 z6 (by omega)) (by rw [ub 13 (by omega) (by omega), e300]) (fun x z1 z2 z3 z4 z5 z6 z7 => by rw [uL]; exact g4.2.2 x z1 z2 z3 z4 (by omega) (by omega) (by omega)) (fun x z1 z2 z3 z4 z5 z6 => g5.1 x z1 z2 z3 z4 z5 z6) (fun b hb => mV b (by omega) (by omega) (by omega) (by omega) (by omega) (by omega) (by omega) (by omega)) (fun x z1 z2 => g5.2.2 x z1 z2) ⟨?_, ?_, ?_⟩ (fun d hd => ?_) f11 (by rw [uo 305 (by decide), f5]; omega) (fun _ => ⟨Or.inr ⟨?_, ?_, l1, k', h', b1, ⟨?_, ?_, f9.1.2.2.1, ?_⟩, ?_⟩, ⟨?_, ?_⟩, ?_, ?_, ?_⟩)
  · rw [u11, e300, f7.1]; have := hn.1; omega
  · rw [u12, e300, f7.2.1]; have := hn.2.1; omega
  · rw [ub 14 (by omega) (by omega), ub 15 (by omega) (by omega), ub 16 (by omega) (by omega), e300, g5.2.1 67 (by omega) (by omega) (by omega) (by omega) (by omega) (by omega) (by omega) (by omega), g5.2.1 68 (by omega) (by omega) (by omega) (by omega) (by omega) (by omega) (by omega) (by omega), g5.2.1 69 (by omega) (by omega) (by omega) (by omega) (by omega) (by omega) (by omega) (by omega)]; exact hn.2.2
  · rw [uo 393 (by decide)]
    have q1 := f6 d hd
    have q2 := f10 d hd
    have q3 := (h.2.1.2.1 d hd).1
    omega
  · rw [uo 307 (by decide)]; exact (g4.2.1.2.1 2 (by omega) (by omega) (by omega) (by omega) (by omega)).trans hl.1
  · rw [mV 50 (by omega) (by omega) (by omega) (by omega) (by omega) (by omega) (by omega) (by omega)]; exact hl.2
  · show t3.1 307 3 = b1
    rw [uo 307 (by decide)]; exact f9.1.1
  · show t3.1 307 6 = h'
    rw [uo 307 (by decide)]; exact f9.1.2.1
  · show t3.2 307 4 = w.2 58 k'
    rw [uL]; exact f9.1.2.2.2
  · have q := f9.2
    rw [show XC t3 w = XC u2 w by show (t3.1 363, w.1 31, w.1 32) = (u2.1 363, w.1 31, w.1 32); rw [uo 363 (by decide)], uo 302 (by decide), uL]
    exact q
  · rw [uo 307 (by decide)]; exact (g4.2.1.2.1 8 (by omega) (by omega) (by omega) (by omega) (by omega)).trans hr.2.1.1
  · rw [mV 54 (by omega) (by omega) (by omega) (by omega) (by omega) (by omega) (by omega) (by omega)]; exact hr.2.1.2
  · rw [uo 307 (by decide)]; exact ⟨l2, by omega⟩
  · exact ⟨l4, by omega⟩
  · rw [uo 307 (by decide), h10]; have := hr.2.2.2.2; omega
theorem q_step (hN : 100000 ≤ N) (hc : c ≤ 600) (h : GR0 n c t m) (hH : HISr n c t m μ B len) (h57 : ∀ j, inR (m.1 57 j)) (h51 : inR (m.1 200 51)) : ∃ (x : Int) (m9 : St), f_X12_step N m = some (x, m9) ∧ ∀ (l : Launch) (E : cE) (r : Nat → Nat), HC l E yX11_step cX11_step 2 (some .int) rm_step [.ref (r 300)] (gW E r shH t ++ exL E r B len μ) (HRL n (c + 1) E r m9 x) := by
  rcases h.2.2.1.1 with ⟨r1, r2⟩ | ⟨r1, r2, r3, _⟩
  · refine ⟨-1, m, ?_, fun l E r => HC.sm (c_step0 l E r _ t r1) h.up (hH.mv HKf.rf (by omega))⟩
    unfold f_X12_step
    simp only [lt1_k]
    rw [r2, cmpI_ok (by omega), if_pos rfl]
  · obtain ⟨i, hi⟩ : ∃ i : Nat, m.1 200 60 = i := ⟨(m.1 200 60).toNat, by have := hH.2.1; omega⟩
    have hi2 : i < 201 := by have := hH.2.1; omega
    have hiB : i ≤ B := by have := hH.2.2.1.1; omega
    obtain ⟨w0, k1, k2, k3, k4, k5⟩ := wr_go (N := N) (i := i) (by omega) h hH h57 h51 hi
    obtain ⟨z, z1, z2⟩ := nt_of (N := N) (t5 := t) h hH hi hc (by omega) (fun _ _ => rfl) ⟨rfl, rfl⟩ h.2.1.1.2.2.2.2.2.2.1
    have hr := k4.2.2.1
    rcases hr.1 with ⟨s1, s2⟩ | ⟨s1, s2, s3, k, hh, a, hP⟩
    · omega
    · obtain ⟨u, v, gU, gC, gV, hb9, hcs⟩ := go_both (N := N) (o := 0) (n := n) (t := t) (m := w0) (R := 29000 + 9000 * (c : Int)) hN k4.1.1 k4.2.1.1.2 hP ⟨s3, ⟨hr.2.2.1.1, hr.2.2.1.2, hr.2.2.2.1.1, hr.2.2.2.1.2⟩, Or.inl ⟨rfl, hr.2.1.1, hr.2.1.2⟩⟩ (by omega)
      have hb1 : 0 ≤ u.1 307 9 ∧ u.1 307 9 ≤ 29000 + 9000 * ((c + 1 : Nat) : Int) := ⟨hb9.1, by have : u.1 307 9 ≤ 29000 + 9000 * (c : Int) + 9000 := hb9.2.1; omega⟩
      have hb2 : 0 ≤ v.1 200 53 ∧ v.1 200 53 ≤ 29000 + 9000 * ((c + 1 : Nat) : Int) := ⟨hb9.2.2.1, by have := hb9.2.2.2; omega⟩
      have hmu : f_X12_step N m = (bdI (f_X12_goesToStep N w0) fun v4 t3 => cmpI v4 1 (if v4 = 1 then (ixI (t3.1 200 51 - 1) 1600 (bdI (f_X12_dances N (t3.1 200 115) (t3.2 58 (t3.1 200 51 - 1).toNat) t3) fun v9 t8 => cmpI v9 0 (if 0 < v9 then (boI 0 (some (2, pI t8 200 50 0))) else (bdV (f_X12_keeps N t8) fun t10 => some (1, t10))))) else (boI 0 (some (v4, pI t3 200 50 0))))) := by
        unfold f_X12_step
        simp only [lt1_k]
        rw [r2, cmpI_ok (by omega), if_neg (by decide), k1, bdV_s]
      have en : ∀ x : Int, (x = 0 ∨ x = 3 ∨ x = 4) → f_X8_goOn N 0 0 t = some (x, u) → f_X12_goesToStep N w0 = some (x, v) → ∃ (x : Int) (m9 : St), f_X12_step N m = some (x, m9) ∧ ∀ (l : Launch) (E : cE) (r : Nat → Nat), HC l E yX11_step cX11_step 2 (some .int) rm_step [.ref (r 300)] (gW E r shH t ++ exL E r B len μ) (HRL n (c + 1) E r m9 x) := fun x hx g1 g2 => by
        have hk := step_end k4 gU gC gV ⟨hb1.1, hb1.2, hb2.1, hb2.2⟩
        refine ⟨x, pI v 200 50 0, ?_, fun l E r => HC.dn (c_step1 l E r N t μ u (pI u 307 2 0) z x B i len (by omega) r1 z1 g1 ?_) hk.1 (fun q hq => (hH.nt (len2 := len) hi k2 hq).mv hk.2 (by omega))⟩
        · rw [hmu, g2, bdI_s, cmpI_ok (by omega), if_neg (by omega), boI_0]
        · unfold f_step2
          rw [g1, bdI_s, if_neg (by omega), if_neg (by omega)]
      rcases hcs with ⟨g1, g2, _⟩ | ⟨x, hx, g1, g2⟩ | ⟨M, k', h', a', b1, c1, d1, e1, e2, e3, e4, e5, e6, e7, e8⟩
      · exact en 0 (by omega) g1 g2
      · exact en x (by omega) g1 g2
      · obtain ⟨⟨t1, t2⟩, e9, t3, t4, t5, t6, t7, t8⟩ := h.2.2.2.2.1
        have hF9 := h.2.1.2.2.2.2.2
        have hu8 : u.1 307 8 = 0 := (gU.2.1 8 (by omega) (by omega) (by omega) (by omega)).trans hr.2.1.1
        have hu10 : u.1 307 10 = t.1 307 10 := gU.2.1 10 (by omega) (by omega) (by omega) (by omega)
        have hr10 := hr.2.2.2.2
        obtain ⟨u2, w, g1, g2, g3, g4, g5, ⟨g6, g7⟩, hcs⟩ := dn_both (N := N) (o := 0) (n := n) (t := t) (m := w0) (u := u) (v := v) (R := 29000 + 9000 * (c : Int) + 2000) hN k4.1.1 gU gV e7 k4.2.1.1.1 e3 e4 e5 e6 e8 t2 (by omega) (by show t.1 305 9 < 2000000000; omega) (by show 0 ≤ t.1 307 10 ∧ t.1 307 10 ≤ 1000000000; omega) (by show ¬ (u.1 307 8 = 1 ∧ _); omega)
        have hd9 := dn_9 (N := N) (o := 0) (n := n) (t := t) (m := w0) (u := u) (v := v) (R := 29000 + 9000 * (c : Int) + 2000) hN k4.1.1 gU gV e7 k4.2.1.1.1 e3 e4 e5 e6 e8 t2 (by omega) (by show t.1 305 9 < 2000000000; omega) (by show 0 ≤ t.1 307 10 ∧ t.1 307 10 ≤ 1000000000; omega) (by show ¬ (u.1 307 8 = 1 ∧ _); omega)
        have g6 : u2.1 307 10 = u.1 307 10 + 1 := g6
        have hst : ∀ (y : Int) (mm : St), f_X12_dances N (c1 : Int) (v.2 58 k') v = some (y, mm) → f_X12_step N m = cmpI y 0 (if 0 < y then (boI 0 (some (2, pI mm 200 50 0))) else (bdV (f_X12_keeps N mm) fun t10 => some (1, t10))) := fun y mm hy => by
          have q4 := e5.2.2.2.1
          have q6 := e5.2.2.2.2.2
          rw [hmu, e2, bdI_s, cmpI_ok (by omega), if_pos rfl, q4, ixI_ok (by omega), e5.1, show (((k' + 1 : Nat) : Int) - 1).toNat = k' by omega, hy, bdI_s]
        rcases hcs with ⟨r, rr, f1, f2, f3, f4, f5, f6, f7, f8, f9, f10⟩ | ⟨w1, f1, f2, f3, f4, f5, f6, f7, f8, f9, f10, f11⟩
        · have q9 : u2.1 307 9 = u.1 307 9 := hd9 u2 f1
          obtain ⟨u3, v3, j1, j2, j3, j4, j5⟩ := step_no (N := N) (u := u) (v := v) (r := r) (by omega) k4 g1 g2 g3 g4 g5 (by rw [q9]; exact hb1) (by rw [g7]; exact hb2) (by rw [g6, hu10]) f3 f4 f5 f6 f7 ⟨f8, f9, f10⟩
          have gg : f_X8_goOn N 0 0 t = some (2, u2) := by rw [e1, f1, bdI_s]
          refine ⟨2, pI v3 200 50 0, ?_, fun l E r => HC.dn (c_step1 l E r N t μ u2 u3 z 2 B i len (by omega) r1 z1 gg ?_) j4 (fun q hq => (hH.nt (len2 := len) hi k2 hq).mv j5 (by omega))⟩
          · rw [hst _ _ (dn_no f2 j2), j3, cmpI_ok (by omega), if_pos (by omega), boI_0]
          · unfold f_step2
            rw [gg, bdI_s, if_neg (by omega), if_pos rfl, j1, bdV_s]
        · have hk := step_yes (R := 29000 + 9000 * (c : Int) + 2000) (by omega) k4 ⟨s1, s2⟩ g1 g2 g3 g4 g5 (by rw [g6, hu10]) f4 f5 f6 f7 f8 f9 f10 f11
          generalize h3 : pI (pI u2 300 11 (u2.1 300 11 + u2.1 304 13)) 300 12 (u2.1 300 12 + 1) = t3' at hk
          have ke := keep_eq (N := N) (k5.mv hk.2 (c2 := c + 1) (by omega)) h3.symm
          have gg : f_X8_goOn N 0 0 t = some (1, u2) := by rw [e1, f1, bdI_s]
          have e60 : w.1 200 60 = i := by rw [hk.2.2.1.2, k2.1 200 (by omega)]; exact hi
          refine ⟨1, kpM w, ?_, fun l E r => HC.dn (c_step1 l E r N t μ u2 (kpT t3' w) z 1 B i len (by omega) r1 z1 gg ?_) (keep_rel hk.1) (fun q hq => ?_)⟩
          · rw [hst _ _ (dn_yes f2 f3), cmpI_ok (by omega), if_neg (by omega), ke.2, bdV_s]
          · unfold f_step2
            rw [gg, bdI_s, if_pos rfl, ke.1, bdV_s]
          · have hM := (((MOMr.new (μ := μ) h z2 k2 k3 hi2).mv hk.2).up (c2 := c + 1) (by omega))
            have hN2 := ((hH.nt (len2 := len) (b := t.1 300 11) (st := t.1 300 12) hi k2 hq).mv hk.2 (c2 := c + 1) (by omega))
            refine hN2.kp e60 hM (by split <;> omega) ?_
            have hU := mU_c (μ := μ) (z := z) (b := t.1 300 11) (st := t.1 300 12) hi2
            rw [hU.1]
            exact hq.2.2.2
end
