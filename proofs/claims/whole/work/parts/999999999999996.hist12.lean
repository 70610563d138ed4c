/-! call, both sides -/
section
variable {N n c : Nat} {t m μ : St} {B : Nat} {len : Nat → Nat}
set_option maxHeartbeats 1000000 in
theorem q_call (hN : 100000 ≤ N) (hc : c ≤ 600) (h : GR0 n c t m) (hH : HISr n c t m μ B len) (h57 : ∀ j, inR (m.1 57 j)) (h51 : inR (m.1 200 51)) : ∃ (x : Int) (m9 : St), f_X12_call N m = some (x, m9) ∧ ∀ (l : Launch) (E : cE) (r : Nat → Nat), HC l E yX11_call cX11_call 3 (some .int) rm_call [.ref (r 300)] (gW E r shH t ++ exL E r B len μ) (HRL n (c + 1) E r m9 x) := by
  obtain ⟨Bt, e, mm, a, t1, u0, v0, t2, v2, a1, h18, a2, ⟨hR, hFh, ha⟩, ⟨hS, hFm⟩, hB0, hcs⟩ := call_read (N := N) (by omega) h.1.1 h.1.2.2.1 h.1.2.1
  have h18' : t1.1 302 18 = (a : Int) := h18.trans ha
  have a99 : inR (t1.1 302 18) := by
    obtain ⟨a9, c9, n1, n2, n3, n4, n5⟩ := h.1.1.2.1.1
    omega
  rcases hcs with ⟨⟨f1, i0, f2, f3, f4, f5, f6, f7, f8⟩, hcl⟩ | ⟨i2, b, d, hX, hSt, hd, hcl⟩
  · -- a fault
    have hb := call_base (f := t2.1 303 5) (V := pI v2 200 36 0) h hR hFh ha hS hFm f8 ⟨f5, by omega, f7⟩ (fun x y z1 z2 => by
      by_cases hx : x = 200
      · subst hx; exact pI_nf (by omega)
      · exact congrFun (pI_ne hx) y) rfl
    have hw : f_X7_wrongPlace N (pI t2 300 13 (t2.1 303 5)) = some ((ch Bt e i0 : Int), pI t2 300 13 (t2.1 303 5)) := h_wplace (f1.mv (by rw [pI_ne (by decide)]) (fun x hx => pI_ne (by omega)) rfl) f2 (by rw [pI_ne (by decide)]; exact f3)
    refine ⟨(-2) - (ch Bt e i0 : Int), pI v2 200 36 0, by rw [hcl, f4], fun l E r => HC.sm (c_call0 l E r N _ t t1 t2 _ (ch Bt e i0 : Int) a1 a2 a99 (by omega) (by omega) hw) ?_ ?_⟩
    · rw [h18']; exact hb.1.up
    · rw [h18']; exact hH.mv hb.2 (by omega)
  · -- the text is read
    obtain ⟨x1, x2, x3, x4, x5, x6, x7⟩ := id hX
    have p7 := x1.2.2.2.2.2.2.1
    have p9 := x1.2.2.2.2.2.2.2.2.1
    have p10 := x1.2.2.2.2.2.2.2.2.2
    have pi := x1.2.1
    have hmm := x1.1.2.2.2.2.2
    have e34 : v2.1 200 34 = (i2 : Int) := by
      have q : 6000 + (v2.1 200 34).toNat = d := x4
      omega
    generalize hVd : pI (pI v2 200 36 0) 31 d 5000 = V
    have hV : ∀ x y, (x ≠ 200 ∨ y ≠ 36) → (x ≠ 31 ∨ y ≠ d) → V.1 x y = v2.1 x y := fun x y z1 z2 => by
      rw [← hVd]
      by_cases hx : x = 31
      · subst hx; rw [pI_nf (by omega), pI_ne (by decide)]
      · rw [pI_ne hx]
        by_cases hx2 : x = 200
        · subst hx2; exact pI_nf (by omega)
        · exact congrFun (pI_ne hx2) y
    have hVdd : V.1 31 d = 5000 := by rw [← hVd, pI_at]
    have hVL : V.2 = v2.2 := by rw [← hVd]; rfl
    have e5 : t2.1 303 5 = 0 := p7.2.2.2.1
    have hb := call_base (f := t2.1 303 5) (V := V) h hR hFh ha hS hFm p9.1 ⟨by rw [e5]; exact p7.2.2.2.2.symm, by have := p7.2.2.2.2; omega, by have := p7.2.2.2.2; omega⟩ (fun x y z1 z2 => hV x y z1 (by omega)) hVL
    generalize htb : pI t2 300 13 (t2.1 303 5) = tb at hb
    obtain ⟨h0, hk0⟩ := hb
    have hH0 := hH.mv hk0 (Nat.le_refl c)
    have tbo : ∀ x, x ≠ 300 → tb.1 x = t2.1 x := fun x hx => by rw [← htb, pI_ne hx]
    have tq : ∀ y, y ≠ 302 → (pI tb 302 18 (a : Int)).1 y = tb.1 y := fun y hy => pI_ne hy
    have Vm : ∀ x y, (x ≠ 31 ∨ y < 6000) → (x ≠ 32 ∨ y < 6000) → (x ≠ 200 ∨ (8 < y ∧ (y < 34 ∨ 36 < y) ∧ (y < 110 ∨ 113 < y))) → V.1 x y = m.1 x y := fun x y z1 z2 z3 => by
      have h3 : x ≠ 200 ∨ ¬ PFd y ∨ (y = 33 ∧ 6000 ≤ 6000) := by
        rcases z3 with z | z
        · exact Or.inl z
        · by_cases hy : y = 33
          · exact Or.inr (Or.inr ⟨hy, Nat.le_refl _⟩)
          · exact Or.inr (Or.inl (by unfold PFd; omega))
      rw [hV x y (by omega) (by omega), hFm.1 x y z1 z2 h3, hS.1 x y (by omega)]
    obtain ⟨i, hi⟩ : ∃ i : Nat, V.1 200 60 = i := ⟨(V.1 200 60).toNat, by have := hH0.2.1; omega⟩
    obtain ⟨w0, k1, k2, k3, k4, k5⟩ := wr_go (N := N) (i := i) (by omega) h0 hH0 (fun j => by rw [Vm 57 j (by omega) (by omega) (by omega)]; exact h57 j) (by rw [Vm 200 51 (by omega) (by omega) (by omega)]; exact h51) hi
    have w0o : ∀ x, (x < 61 ∨ 64 < x) → w0.1 x = V.1 x := fun x hx => k2.1 x hx
    have hE0 := k4.2.1.1.2
    have hn1 := k4.2.1.1.1
    have hCb : CIk tb := hE0.2.2.2.2.2.1.ch (fun x hx => (tq x (by omega)).symm) rfl
    have hEb : EVr 0 tb w0 n := hE0.ch (fun x hx => (tq x (by omega)).symm) rfl hCb (fun _ _ => ⟨rfl, rfl, rfl⟩) (fun q => ⟨q, fun _ _ => ⟨rfl, rfl, rfl⟩⟩) (fun _ _ _ => rfl) rfl rfl
    have hev := hEb.ev (N := N)
    have h64 := hEb.n64
    obtain ⟨⟨l1, l2⟩, e9, l3, l4, l5, l6, l7, l8⟩ := k4.2.2.2.2.1
    have hLb : LIn tb := l2.f (by rw [tq 304 (by decide)]) (tq 378 (by decide)).symm
    have hFG : FGr tb w0 := by
      have q := k4.1.1.fg
      unfold FGr at q ⊢
      rw [tq 313 (by decide), tq 354 (by decide), tq 355 (by decide), tq 356 (by decide), tq 357 (by decide), tq 358 (by decide), tq 359 (by decide)] at q
      exact q
    have ew : ∀ y, (8 < y ∧ (y < 33 ∨ 36 < y) ∧ (y < 110 ∨ 113 < y)) → w0.1 200 y = v0.1 200 y := fun y hy => by
      rw [w0o 200 (by omega), hV 200 y (by omega) (by omega), hFm.1 200 y (by omega) (by omega) (Or.inr (Or.inl (by unfold PFd; omega)))]
    have hbk : bkG v0 w0 := ⟨by rw [ew 14 (by omega)]; exact Int.le_refl _, fun f hf => by rw [w0o 18 (by omega), hV 18 f (by omega) (by omega), hFm.1 18 f (by omega) (by omega) (by omega)]⟩
    obtain ⟨_, ⟨y1, y2, y3, y4⟩, y5, _⟩ := hB0.2.1
    have tb18 : tb.1 302 18 = (b : Int) := by rw [tbo 302 (by decide)]; exact x3
    have hab : a < b ∧ 6000 ≤ d := by
      obtain ⟨H2, p, q1, q2, e2, q3, q4, q5⟩ := hSt
      have := STq.lt q4
      omega
    obtain ⟨u, w, r1, r2, r3, r4, r5, r6⟩ := at_both (N := N) (o := 0) (n := n) (t := tb) (m := w0) (s := evb n) hSt (by omega) ⟨by omega, hEb, fun e he hbq => by rw [bq_evb h64 he] at hbq; exact of_decide_eq_true hbq, by omega, hbk⟩ hFG (by rw [ew 15 (by omega)]; exact Int.le_refl _) hn1 ⟨fun x _ _ => by rw [tbo 363 (by decide)], by omega⟩ ⟨fun x z1 z2 => by rw [w0o 31 (by omega), hV 31 x (by omega) (by omega)], by omega⟩ (by omega) (by rw [w0o 31 (by omega), hVdd]; omega) (by rw [w0o 31 (by omega), hVdd]; omega) hLb (by rw [← tq 304 (by decide)]; omega)
    have hm9 : ∀ (y : Int) (w9 : St), f_X12_dances N 6000 (evb n) w0 = some (y, w9) → f_X12_call N m = cmpI y 0 (if y = 0 then (bdV (f_X12_keeps N w9) fun t16 => some (y, t16)) else (some (y, w9))) := fun y w9 hy => by
      rw [hcl]
      unfold callB
      have q34 : (pI v2 200 36 0).1 200 34 = (i2 : Int) := by rw [pI_nf (by decide)]; exact e34
      rw [q34, ixI_ok (by omega), show (6000 + (i2 : Int)).toNat = d by omega, hVd, k1, bdV_s, hev.2, bdL_s, hy, bdI_s]
    rcases r6 with ⟨r, q1, q2, q3, q4⟩ | ⟨q1, q2, q3, _, q5⟩
    · obtain ⟨u2, w2, z1, z2, z3, z4, z5, z6, z7, z8, z9⟩ := q_note (N := N) (show inR r by omega) q4
      have T9 : ∀ x, x ≠ 300 → x ≠ 302 → (pI u2 302 18 (a : Int)).1 x = u.1 x := fun x g1 g2 => by rw [pI_ne g2, z4 x g1]
      have hk := k4.k5 (u := pI u2 302 18 (a : Int)) (v := w2) (r2.ch (fun x hx => T9 x (by omega) (by omega)) (by show u2.2 311 = _; rw [z6])) (r4.f (by rw [T9 304 (by decide) (by decide)]) (T9 378 (by decide) (by decide))) (by rw [T9 304 (by decide) (by decide), tq 304 (by decide)]; exact r5) (fun x g1 g2 g3 g4 => by
        by_cases hx : x = 302
        · subst hx
          funext y
          by_cases hy : y = 18
          · subst hy; rw [pI_at, pI_at]
          · rw [pI_nf hy, pI_nf hy, z4 302 g1, r1.1 302 g2 g3 g4]
        · rw [T9 x g1 hx, r1.1 x g2 g3 g4, tq x hx]) (fun b hb => by rw [pI_ne (by decide), z5 b (by omega), r1.1 300 (by decide) (by decide) (by decide), tq 300 (by decide)]) (fun x g1 g2 g3 g4 => by show u2.2 x = tb.2 x; rw [z6, r1.2.2.2 x g1 g2 g3 g4]) (fun x g1 g2 g3 g4 => by rw [z7 x g4, r3.1 x (by omega) (by omega) (by omega) (by omega) (by omega) (by omega) (by omega) g2 g3 g4]) (fun b g1 g2 g3 g4 => by rw [z8 b (by omega), r3.2.1 b (by omega) (by omega) (by omega) (by omega) (by omega) (by omega) (by omega) (by omega) g3 g4]) (fun x g1 => by rw [z9, r3.2.2 x g1]) (by rw [pI_ne (by decide)]; exact z3)
      refine ⟨r, w2, ?_, fun l E r0 => HC.sm (c_call1 l E r0 N _ t t1 t2 u u2 (evb n) r a1 a2 a99 e5 (by omega) (by omega) (by rw [htb]; exact hev.1) (by rw [htb, h18']; exact q2) z1) ?_ ?_⟩
      · rw [hm9 _ _ (dn_no q3 z2), z8 70 (by omega), q4.2.1, cmpI_ok (by omega), if_neg (by omega)]
      · rw [h18']; exact hk.1
      · rw [h18']; exact k5.mv hk.2 (by omega)
    · obtain ⟨z, t6, m6, t7, m7, b1, b2, b3, b4, b5, b6, b7⟩ := dance_okx (N := N) (u := u) (tb := tb) (a := (a : Int)) hN hc h0 hH0 hi k2 k3 k4 r1 r2 r3 r4 r5 q3 q5
      refine ⟨0, m7, ?_, fun l E r0 => HC.dn (c_call2 l E r0 N t μ t1 t2 u t6 t7 z (evb n) B i len a1 a2 a99 e5 (by rw [htb]; exact hev.1) (by rw [htb, h18']; exact q1) b1 b2 b4) ?_ (fun q hq => ?_)⟩
      · rw [hm9 _ _ (dn_yes q2 b3), cmpI_ok (by omega), if_pos rfl, b5, bdV_s]
      · rw [h18']; exact b6
      · rw [h18']; exact b7 r0 q hq
end
