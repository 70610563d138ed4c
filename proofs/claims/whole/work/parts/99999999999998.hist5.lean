/-! back, both sides -/
section
variable {N n c : Nat} {t m μ : St} {B : Nat} {len : Nat → Nat}
theorem back_go {a0 : Int} (hN : 1700 ≤ N) (hc : c ≤ 600) (h : GR0 n c t m) (hH : HISr n c t m μ B len) (ha : 0 < a0 ∧ a0 ≤ m.1 200 59) : ∃ (i : Nat) (z t9 w : St), f_X12_back N a0 m = some (1, w) ∧ slB t a0 = i ∧ (i < B ∧ B ≤ 201) ∧ len i ≤ 1500 ∧ f_X5_restore N 0 0 (len i) (cmb t μ i) = some z ∧ z.1 311 3 ≤ 1000 ∧ (z.1 1000 = μ.1 (1000 + i) ∧ z.1 1300 = μ.1 (1300 + i) ∧ z.2 1000 = μ.2 (1000 + i) ∧ z.2 1600 = μ.2 (1600 + i)) ∧ f_X4_drop N a0 (pI (pI z 300 11 (z.1 1000 6)) 300 12 (z.1 1000 7)) = some t9 ∧ GR0 n (c + 1) t9 w ∧ HISr n (c + 1) t9 w μ B len := by
  obtain ⟨h1, h2, h3, h4, h5⟩ := hH
  obtain ⟨hb, hF, hr, hn, ht, hs⟩ := h
  obtain ⟨s, rfl⟩ : ∃ s : Nat, a0 = s := ⟨a0.toNat, by omega⟩
  obtain ⟨i, hi⟩ : ∃ i : Nat, i = slT (m.1 200 60) s := ⟨_, rfl⟩
  have hsl := h5 s (by omega) ha.2
  rw [← hi] at hsl
  obtain ⟨hiB, hil, hM⟩ := hsl
  have hi2 : (m.1 200 60 + 201 - (s : Int)) % 201 = i := by rw [hi]; unfold slT; omega
  have hisB : slB t (s : Int) = i := by unfold slB; rw [h2.1]; omega
  obtain ⟨⟨X, Y, W, T, hV, hX⟩, hM6, hM7, hML⟩ := id hM
  have hli := h4 i hiB
  have hCI := hF.1.2.2.2.2.2.2.1
  have h311 : t.1 311 3 ≤ 1000 := by have := hCI.1; omega
  have cmo : ∀ a, a < 1000 → (cmb t μ i).1 a = t.1 a ∧ (cmb t μ i).2 a = t.2 a := fun a ha => ⟨by
    show (if a = 1000 then _ else if a = 1300 then _ else t.1 a) = _
    rw [if_neg (by omega), if_neg (by omega)], by
    show (if a = 1000 then _ else if a = 1600 then _ else t.2 a) = _
    rw [if_neg (by omega), if_neg (by omega)]⟩
  have c13 : (cmb t μ i).1 1300 = μ.1 (1300 + i) := by
    show (if (1300 : Nat) = 1000 then μ.1 (1000 + i) else if (1300 : Nat) = 1300 then μ.1 (1300 + i) else t.1 1300) = _
    rw [if_neg (by decide), if_pos rfl]
  have c16 : (cmb t μ i).2 1600 = μ.2 (1600 + i) := by
    show (if (1600 : Nat) = 1000 then μ.2 (1000 + i) else if (1600 : Nat) = 1600 then μ.2 (1600 + i) else t.2 1600) = _
    rw [if_neg (by decide), if_pos rfl]
  have c10 : (cmb t μ i).1 1000 = μ.1 (1000 + i) := by
    show (if (1000 : Nat) = 1000 then μ.1 (1000 + i) else if (1000 : Nat) = 1300 then μ.1 (1300 + i) else t.1 1000) = _
    rw [if_pos rfl]
  have c1L : (cmb t μ i).2 1000 = μ.2 (1000 + i) := by
    show (if (1000 : Nat) = 1000 then μ.2 (1000 + i) else if (1000 : Nat) = 1600 then μ.2 (1600 + i) else t.2 1000) = _
    rw [if_pos rfl]
  have hF1 : FH 0 (cmb t μ i) (m.1 38) (m.1 39) (m.1 40) n := by
    have := hF.1.2.2.1.2
    unfold FH at this ⊢
    rw [(cmo (305 + 0) (by omega)).1, (cmo (390 + 10 * 0) (by omega)).1, (cmo (391 + 10 * 0) (by omega)).1, (cmo (392 + 10 * 0) (by omega)).1, (cmo (397 + 10 * 0) (by omega)).1]
    exact this
  obtain ⟨L, hL⟩ : ∃ L : Int, L = μ.1 (1000 + i) 1 := ⟨_, rfl⟩
  obtain ⟨D, hD⟩ : ∃ D : Int, D = μ.1 (1000 + i) 5 := ⟨_, rfl⟩
  have hL2 : L = 0 ∨ L = 1 := by
    rcases hML with q | q
    · exact Or.inl (by rw [hL]; exact q.1)
    · exact Or.inr (by rw [hL]; exact q.1)
  have hD2 : 0 ≤ D ∧ D ≤ (len i : Int) := by
    rw [hD]
    refine ⟨?_, hil⟩
    rcases hML with q | ⟨_, k, hh, a, _, _, q, _⟩
    · omega
    · omega
  obtain ⟨t1, u, z, r1, r2, r3, r4, r5, r6, r7, r8, r9, r10, r11, r12, r13, r14⟩ := rest_pure (N := N) (n6 := len i) (τ := cmb t μ i) (L := L) (D := D) (T := T) hF.1.2.2.1.1.2 hF1 hV (fun d hd => by have := (hX d hd).2.2.1; omega) (fun d hd => by rw [c13]; exact (hX d hd).1) ⟨by rw [c10]; exact hL.symm, hL2⟩ ⟨by rw [c10]; exact hD.symm, hD2⟩ hli (by omega)
  have uo : ∀ a, a < 305 ∨ (305 < a ∧ a < 390) ∨ 397 < a ∨ a = 394 → u.1 a = (cmb t μ i).1 a := fun a ha => by rw [r9.1 a (by omega) (by omega) (by omega) (by omega) (by omega) (by omega), r2 a (by omega)]
  have zo : ∀ a, (a < 305 ∨ (305 < a ∧ a < 390 ∧ a ≠ 307) ∨ 397 < a ∨ a = 394) → z.1 a = (cmb t μ i).1 a := fun a ha => by rw [r10 a (by omega), uo a (by omega)]
  have zL : ∀ a, a ≠ 396 → a ≠ 307 → a ≠ 410 → z.2 a = (cmb t μ i).2 a := fun a x1 x2 x3 => by rw [r12 a x2 x3, r9.2.2 a x1, r3]
  have z1000 : z.1 1000 = μ.1 (1000 + i) := by rw [zo 1000 (by omega)]; exact c10
  generalize hy : pI (pI z 300 11 (z.1 1000 6)) 300 12 (z.1 1000 7) = y
  have yo : ∀ a, a ≠ 300 → y.1 a = z.1 a := fun a ha => by rw [← hy, pI_ne ha, pI_ne ha]
  have yL : y.2 = z.2 := by rw [← hy]; rfl
  have y11 : y.1 300 11 = m.1 62 i := by rw [← hy, pI_nf (by decide), pI_at, z1000]; exact hM6.1
  have y12 : y.1 300 12 = m.1 63 i := by rw [← hy, pI_at, z1000]; exact hM7.1
  have yb : ∀ b, b ≠ 11 → b ≠ 12 → y.1 300 b = t.1 300 b := fun b b1 b2 => by rw [← hy, pI_nf b2, pI_nf b1, zo 300 (by omega), (cmo 300 (by omega)).1]
  have y309 : y.1 309 = t.1 309 := by rw [yo 309 (by decide), zo 309 (by omega), (cmo 309 (by omega)).1]
  have hd : f_X4_drop N (s : Int) y = some (pI (pI y 309 1 (i : Int)) 309 2 (m.1 200 59 - (s : Int))) := by
    unfold f_X4_drop
    simp only [lt1_k]
    rw [cmpI_ok (by omega), if_neg (by omega), y309, h1.1, cmpI_ok (by omega), if_neg (by omega), h2.1, dvI_ok (by omega), show (m.1 200 60 - (s : Int) + 200 + 1) % 201 = (i : Int) by omega, pI_nf (by decide), y309, h1.1]
  generalize h9 : pI (pI y 309 1 (i : Int)) 309 2 (m.1 200 59 - (s : Int)) = t9 at hd
  have to : ∀ a, a ≠ 309 → t9.1 a = y.1 a := fun a ha => by rw [← h9, pI_ne ha, pI_ne ha]
  have tL : t9.2 = z.2 := by rw [← h9]; exact yL
  have tg : ∀ a, (a < 300 ∨ (300 < a ∧ a < 305) ∨ a = 306 ∨ a = 308 ∨ (309 < a ∧ a < 390) ∨ (397 < a ∧ a < 1000) ∨ a = 394) → t9.1 a = t.1 a := fun a ha => by rw [to a (by omega), yo a (by omega), zo a (by omega), (cmo a (by omega)).1]
  have tgL : ∀ a, a < 1000 → a ≠ 396 → a ≠ 307 → a ≠ 410 → t9.2 a = t.2 a := fun a x0 x1 x2 x3 => by rw [tL, zL a x1 x2 x3, (cmo a x0).2]
  have tu : ∀ a, (a = 305 ∨ (390 ≤ a ∧ a ≤ 397)) → t9.1 a = u.1 a := fun a ha => by rw [to a (by omega), yo a (by omega), r10 a (by omega)]
  have t307 : t9.1 307 = z.1 307 := by rw [to 307 (by decide), yo 307 (by decide)]
  obtain ⟨w, b1, b2, b3, b4, b5, b6, b7⟩ := m_back (N := N) (n := n) (m := m) (i := i) (a0 := (s : Int)) hV.1 hF.1.2.2.1.1.1 ⟨ha.1, ha.2, h1.2.2⟩ h2.2 hi2 hN (by
    rcases hML with q | ⟨_, k, hh, a, q, _, _, _, q5⟩
    · exact Or.inl q.2.2
    · exact Or.inr ⟨k, q, q5.kk⟩)
  have hBm : ∀ (x y9 : St), (∀ a, (a = 302 ∨ (312 ≤ a ∧ a ≤ 314) ∨ (350 ≤ a ∧ a ≤ 363)) → x.1 a = t.1 a) → (∀ a, 340 ≤ a → a < 343 → x.2 a = t.2 a) → (∀ a, (9 ≤ a ∧ a < 33) → y9.1 a = m.1 a) → (∀ b, (b = 13 ∨ b = 14 ∨ b = 15 ∨ b = 16 ∨ b = 17 ∨ b = 33) → y9.1 200 b = m.1 200 b) → BK0 x y9 := fun x y9 q1 q2 q3 q4 => hb.1.mv (fun a y ha _ => by rw [q1 a ha]) (fun a y ha _ => by rw [q3 a ha]) (fun s x hs _ => by rw [q2 (340 + s) (by omega) (by omega)]) ⟨by rw [q1 312 (by omega)], by rw [q1 313 (by omega)], by rw [q1 314 (by omega)]⟩ ⟨by rw [q1 302 (by omega)], by rw [q1 302 (by omega)], by rw [q1 302 (by omega)]⟩ ⟨q4 13 (by omega), q4 14 (by omega), q4 15 (by omega), q4 16 (by omega), q4 17 (by omega), q4 33 (by omega)⟩
  have t1o : ∀ a, a < 1000 → a ≠ 393 → t1.1 a = t.1 a := fun a x1 x2 => by rw [r2 a x2, (cmo a x1).1]
  have t1L : ∀ a, a < 1000 → t1.2 a = t.2 a := fun a x1 => by rw [r3, (cmo a x1).2]
  have hB1 : BK0 t1 m := hBm t1 m (fun a ha => t1o a (by omega) (by omega)) (fun a x1 x2 => t1L a (by omega)) (fun _ _ => rfl) (fun _ _ => rfl)
  have hB9 : BK0 t9 w := hBm t9 w (fun a ha => tg a (by omega)) (fun a x1 x2 => tgL a (by omega) (by omega) (by omega) (by omega)) (fun a ha => b2 a (by omega)) (fun b hb => b3 b (by omega))
  have hCc : CIk ((fun a => if a < 1000 then t1.1 a else t.1 a, t1.2) : St) := hCI.r9 (o := 0) (by decide) (fun x x1 x2 => by
      show (if x < 1000 then t1.1 x else t.1 x) = t.1 x
      by_cases hx : x < 1000
      · rw [if_pos hx]; exact t1o x hx (by omega)
      · rw [if_neg hx]) (t1L 311 (by omega))
  have hC1 : CIk t1 := hCc.ch (fun x hx => by
      show t1.1 x = (if x < 1000 then t1.1 x else t.1 x)
      rw [if_pos (by omega)]) rfl
  have hEu : EVr 0 u w n := EVb.pw (by decide) (hB1.eb hC1) hV r5 r6 r7 r8 (by rw [t1o (305 + 0) (by decide) (by decide)]; have q := hF.2.2.2.2.2; show inR (t.1 305 9 + 1); omega) r9 (fun d hd => by
      have q := b5 d hd
      have q2 := (hX d hd).2.1
      exact ⟨q.1.trans q2.1, q.2.1.trans q2.2.1, q.2.2.1.trans q2.2.2.1⟩) (by rw [b3 37 (by omega)]; exact hF.1.2.2.1.1.1) (fun d hd => by
      rw [b2 44 (by omega), b2 45 (by omega), b2 46 (by omega), t1o (394 + 10 * 0) (by decide) (by decide)]
      exact hF.1.2.2.2.2.2.1 (Or.inl rfl) d hd) (fun a x1 x2 => b2 a (by omega)) (b3 14 (by omega))
  have hC9 : CIk t9 := hEu.2.2.2.2.2.1.ch (fun x hx => by
      by_cases h5 : x = 305 ∨ (390 ≤ x ∧ x ≤ 397)
      · exact tu x h5
      · rw [tg x (by omega), uo x (by omega), (cmo x (by omega)).1]) (by rw [tL, r12 311 (by decide) (by decide)])
  have hG : BGr (XC t m) m (t.1 302 18) (XC t9 w) w (t9.1 302 18) := BGr.same (tg 363 (by omega)) (by rw [tg 302 (by omega)]) (b2 31 (by omega)) (b2 32 (by omega)) (b2 18 (by omega)) (b2 29 (by omega)) (fun b _ => b3 b (by omega))
  have hE9 : EVr 0 t9 w n := hEu.bk hB9 hC9 (fun x hx => tu x (by omega)) (by rw [tL, r12 _ (by decide) (by decide)]) (fun _ _ => ⟨rfl, rfl, rfl⟩) (fun q => ⟨q, fun _ _ => ⟨rfl, rfl, rfl⟩⟩) rfl
  refine ⟨i, z, t9, w, b1, hisB, ⟨hiB, h3.2⟩, hli, r1, by rw [zo 311 (by omega), (cmo 311 (by omega)).1]; exact h311, ⟨z1000, by rw [zo 1300 (by omega)]; exact c13, by rw [zL 1000 (by omega) (by omega) (by omega)]; exact c1L, by rw [zL 1600 (by omega) (by omega) (by omega)]; exact c16⟩, by rw [hy]; exact hd, ⟨hb.mv hB9 (tgL 331 (by omega) (by omega) (by omega) (by omega)) ⟨by rw [tg 301 (by omega)], tg 330 (by omega)⟩ (by rw [to 300 (by omega), yb 13 (by omega) (by omega)]) (b3 1 (by omega)) (b2 0 (by omega)) (b3 8 (by omega)), ⟨⟨hF.1.1, hE9⟩, fun d hd => ?_, fun d hd => ?_, ?_, ?_, ?_, ?_⟩, ⟨?_, ?_, ?_, ?_, ?_⟩, ⟨?_, ?_, ?_⟩, ?_, ?_⟩, ?_⟩
  · have q := hX d hd
    rw [tu 393 (by omega), r9.1 393 (by decide) (by decide) (by decide) (by decide) (by decide) (by decide), r4 d hd, (b5 d hd).2.2.2, q.2.1.2.2.2]
    exact ⟨rfl, by omega, by omega⟩
  · have q := hX d hd
    rw [(b5 d hd).1, (b5 d hd).2.1, q.2.1.1, q.2.1.2.1]
    exact q.2.2.2
  · have q := hF.2.2.2.1
    unfold AIMr at q ⊢
    rw [tg 320 (by omega), b2 47 (by omega), b2 48 (by omega), b2 49 (by omega)]
    exact q
  · rw [b2 47 (by omega), b2 48 (by omega)]; exact hF.2.2.2.2.1
  · have q := hF.2.2.2.2.2
    have e : t9.1 305 9 = t.1 305 9 + 1 := by rw [tu 305 (by omega)]; exact r8.trans (by rw [t1o (305 + 0) (by decide) (by decide)])
    rw [e]; omega
  · have q := hF.2.2.2.2.2
    have e : t9.1 305 9 = t.1 305 9 + 1 := by rw [tu 305 (by omega)]; exact r8.trans (by rw [t1o (305 + 0) (by decide) (by decide)])
    rw [e]; omega
  · rw [t307, r11.1]
    rcases hML with q | ⟨q1, k, hh, a, q2, q3, q4, q5, q6⟩
    · refine Or.inl ⟨by rw [hL]; exact q.1, ?_⟩
      rcases b7 with x | ⟨k, x, _⟩
      · exact x.2
      · omega
    · rcases b7 with x | ⟨k2, x1, x2, x3, x4, x5⟩
      · omega
      · have hkk : k2 = k := by omega
        subst hkk
        refine Or.inr ⟨by rw [hL]; exact q1, x2, x4, k2, hh, a, ⟨?_, ?_, x3, ?_⟩, ?_⟩
        · show t9.1 307 3 = a
          rw [t307, r11.2.1, c10]; exact q3
        · show t9.1 307 6 = hh
          rw [t307, r11.2.2.1, hD]; exact q4
        · show t9.2 307 4 = w.2 58 k2
          rw [tL, r13, (x5 k2 (Nat.le_refl _)).2.2.2, c1L]; exact q5
        · refine (q6.lw hG).cg (fun j hj => ?_) (fun j hj => (x5 j hj).1) (fun j hj => (x5 j hj).2.1) (fun j hj => (x5 j hj).2.2.1) (fun j hj => (x5 j hj).2.2.2)
          show t9.2 410 j = μ.2 (1600 + i) j
          rw [tL, r14 j (by omega), c16]
  · rw [t307, r11.2.2.2 8 (by decide) (by decide) (by decide), (cmo 307 (by omega)).1, b3 54 (by omega)]; exact hr.2.1
  · rw [t307, r11.2.2.2 9 (by decide) (by decide) (by decide), (cmo 307 (by omega)).1]; have := hr.2.2.1; omega
  · rw [b3 53 (by omega)]; have := hr.2.2.2.1; omega
  · rw [t307, r11.2.2.2 10 (by decide) (by decide) (by decide), (cmo 307 (by omega)).1]; have := hr.2.2.2.2; omega
  · rw [to 300 (by decide), y11, b4.2.2.1]; exact ⟨rfl, hM6.2.1, by have := hM6.2.2; omega⟩
  · rw [to 300 (by decide), y12, b4.2.2.2]; exact ⟨rfl, hM7.2.1, by have := hM7.2.2; omega⟩
  · rw [to 300 (by decide), yb 14 (by decide) (by decide), yb 15 (by decide) (by decide), yb 16 (by decide) (by decide), b3 67 (by omega), b3 68 (by omega), b3 69 (by omega)]; exact hn.2.2
  · exact (ht.mv (fun x hx => tg x (by omega)) (by rw [tg 310 (by omega)]) (b3 89 (by omega))).up
  · exact hs.mv (tg 433 (by omega)) (tg 432 (by omega)) (fun i _ => by rw [tg 362 (by omega)]) (fun b _ => by rw [tg 310 (by omega)]) (tg 435 (by omega)) (tgL 434 (by decide) (by decide) (by decide) (by decide)) (tg 438 (by omega)) (fun a ha => b2 a (by omega)) (b6 95 (by decide)) (fun b hb => b3 b (by omega)) (by rw [b3 17 (by omega)]; exact Int.le_refl _) (by rw [b6 200 (by decide)])
  · have p2 : t9.1 309 2 = m.1 200 59 - (s : Int) := by rw [← h9, pI_at]
    have p1 : t9.1 309 1 = i := by rw [← h9, pI_nf (by decide), pI_at]
    refine ⟨⟨by rw [p2, b4.2.1], by rw [b4.2.1]; omega, by rw [b4.2.1]; omega⟩, ⟨by rw [p1, b4.1], by rw [b4.1]; omega, by rw [b4.1]; omega⟩, ⟨by rw [b4.1]; omega, h3.2⟩, h4, fun s2 x1 x2 => ?_⟩
    rw [b4.1]
    rw [b4.2.1] at x2
    have e : slT (i : Int) s2 = slT (m.1 200 60) (s + s2) := by unfold slT; omega
    rw [e]
    obtain ⟨q1, q2, q3⟩ := h5 (s + s2) (by omega) (by omega)
    exact ⟨q1, q2, (q3.cg (fun y _ _ => by rw [b2 61 (by omega)]) ⟨by rw [b2 62 (by omega)], by rw [b2 63 (by omega)], by rw [b2 64 (by omega)]⟩ (fun y _ _ => by rw [b6 65 (by decide), b6 66 (by decide)]; exact ⟨rfl, rfl⟩) hG ⟨rfl, rfl, rfl, rfl⟩).up (by omega)⟩
theorem q_back {a0 : Int} (ha : inR a0) (hN : 1700 ≤ N) (hc : c ≤ 600) (h : GR0 n c t m) (hH : HISr n c t m μ B len) : ∃ (x : Int) (t9 w : St), f_X12_back N a0 m = some (x, w) ∧ GR0 n (c + 1) t9 w ∧ HISr n (c + 1) t9 w μ B len ∧ ∀ (l : Launch) (E : cE) (r : Nat → Nat), cM l E yX11_back cX11_back 3 (some .boolean) rm_back [.ref (r 300), iv a0] (gW E r shH t ++ exL E r B len μ) (qSm E r (exL E r B len μ) x t9) := by
  obtain ⟨h1, h2, h3, h4, h5⟩ := id hH
  have h311 : t.1 311 3 ≤ 1000 := by have := h.2.1.1.2.2.2.2.2.2.1.1; omega
  by_cases c0 : a0 < 0 ∨ m.1 200 59 < a0
  · refine ⟨0, t, m, ?_, h.up, hH.mv HKf.rf (by omega), fun l E r => c_back0 l E r a0 _ t ha (by omega) (by omega)⟩
    unfold f_X12_back
    simp only [lt1_k]
    rw [cmpI_ok (by omega)]
    by_cases c1 : a0 < 0
    · rw [if_pos c1, boI_0]
    · rw [if_neg c1, cmpI_ok (by omega), if_pos (by omega), boI_0]
  · by_cases c1 : a0 = 0
    · subst c1
      refine ⟨1, t, m, ?_, h.up, hH.mv HKf.rf (by omega), fun l E r => c_back1 l E r B len t μ (by omega) (by omega) (by omega)⟩
      unfold f_X12_back
      simp only [lt1_k]
      rw [cmpI_ok (by omega), if_neg (by omega), cmpI_ok (by omega), if_neg (by omega), cmpI_ok (by omega), if_pos trivial, boI_1]
    · obtain ⟨i, z, t9, w, k1, k2, k3, k4, k5, k6, k7, k8, k9, k10⟩ := back_go (N := N) (a0 := a0) hN hc h hH (by omega)
      exact ⟨1, t9, w, k1, k9, k10, fun l E r => c_back2 l E r N a0 B i len t μ z t9 (by omega) (by omega) (by omega) k2 k3 h311 k4 k5 k6 k7 k8⟩
end
