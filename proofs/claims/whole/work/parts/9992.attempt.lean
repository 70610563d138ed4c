/-! a step is tried: both sides -/
theorem h_stay {N o n : Nat} {m : St} (ho : o < 2) (hF : fmF m n) (K : St → Option St) : ∀ (i d q : Nat) (u : St), d + i = n → i < q → FH o u (m.1 38) (m.1 39) (m.1 40) n →
    (∀ e, e < d → u.1 373 e = m.1 38 e ∧ u.1 374 e = m.1 39 e ∧ u.1 376 e = m.1 40 e ∧ u.1 375 e = 0) →
    ∃ w : St, f_X1_stayAll_L2 o K q d u = K w ∧ (∀ e, e < n → w.1 373 e = m.1 38 e ∧ w.1 374 e = m.1 39 e ∧ w.1 376 e = m.1 40 e ∧ w.1 375 e = 0) ∧ (∀ a, a < 373 ∨ 376 < a → w.1 a = u.1 a) ∧ w.2 = u.2 := by
  have h64 := hF.2.1
  intro i
  induction i with
  | zero =>
    intro d q u h1 h2 hH h3
    obtain ⟨q, rfl⟩ : ∃ k, q = k + 1 := ⟨q - 1, by omega⟩
    have : d = n := by omega
    subst this
    refine ⟨u, ?_, h3, fun _ _ => rfl, rfl⟩
    unfold f_X1_stayAll_L2
    rw [lt1_k, hH.1, cmpI_ok (by omega), if_neg (by omega)]
  | succ i ih =>
    intro d q u h1 h2 hH h3
    obtain ⟨q, rfl⟩ : ∃ k, q = k + 1 := ⟨q - 1, by omega⟩
    have hd := hH.2.1 d (by omega)
    generalize hu2 : pI (pI (pI (pI u 373 d (m.1 38 d)) 374 d (m.1 39 d)) 376 d (m.1 40 d)) 375 d 0 = u2
    have e2 : ∀ a, a < 373 ∨ 376 < a → u2.1 a = u.1 a := fun a ha => by rw [← hu2, pI_ne (by omega), pI_ne (by omega), pI_ne (by omega), pI_ne (by omega)]
    have hH2 : FH o u2 (m.1 38) (m.1 39) (m.1 40) n := by
      unfold FH
      rw [e2 (305 + o) (by omega), e2 (390 + 10 * o) (by omega), e2 (391 + 10 * o) (by omega), e2 (392 + 10 * o) (by omega), e2 (397 + 10 * o) (by omega)]
      exact hH
    obtain ⟨w, w1, w2, w3, w4⟩ := ih (d + 1) q u2 (by omega) (by omega) hH2 (fun e he => by
      have a3 : u2.1 373 = (pI u 373 d (m.1 38 d)).1 373 := by rw [← hu2, pI_ne (by decide), pI_ne (by decide), pI_ne (by decide)]
      have a4 : u2.1 374 = (pI (pI u 373 d (m.1 38 d)) 374 d (m.1 39 d)).1 374 := by rw [← hu2, pI_ne (by decide), pI_ne (by decide)]
      have a6 : u2.1 376 = (pI (pI (pI u 373 d (m.1 38 d)) 374 d (m.1 39 d)) 376 d (m.1 40 d)).1 376 := by rw [← hu2, pI_ne (by decide)]
      rw [a3, a4, a6]
      by_cases hed : e = d
      · subst hed
        rw [pI_at, pI_at, pI_at, ← hu2, pI_at]
        exact ⟨rfl, rfl, rfl, rfl⟩
      · have := h3 e (by omega)
        rw [← hu2]
        simp only [pI_nf hed]
        exact this)
    refine ⟨w, ?_, w2, fun a ha => by rw [w3 a ha, e2 a ha], by rw [w4, ← hu2]; rfl⟩
    unfold f_X1_stayAll_L2
    have k1 : ∀ x : Int, (pI u 373 d x).1 (391 + 10 * o) = u.1 (391 + 10 * o) := fun x => pI_ne (by omega)
    have k2 : ∀ x y : Int, (pI (pI u 373 d x) 374 d y).1 (392 + 10 * o) = u.1 (392 + 10 * o) := fun x y => by rw [pI_ne (by omega), pI_ne (by omega)]
    simp only [lt1_k, Int.toNat_natCast, k1, k2]
    rw [hH.1, cmpI_ok (by omega), if_pos (by omega), ixI_ok (by omega), ixI_ok (by omega), ixI_ok (by omega), ixI_ok (by omega), ixI_ok (by omega), ixI_ok (by omega), ixI_ok (by omega), hd.1, hd.2.1, hd.2.2, hu2, show ((d : Int) + 1) = ((d + 1 : Nat) : Int) by omega]
    exact w1
theorem s_stay {n : Nat} {m : St} (hF : fmF m n) (K : St → Option (Int × St)) : ∀ (i d q : Nat) (u : St), d + i = n → i < q → u.1 200 37 = n → u.1 38 = m.1 38 → u.1 39 = m.1 39 → u.1 40 = m.1 40 → u.1 41 = m.1 41 →
    (∀ e, e < d → u.1 76 e = m.1 38 e ∧ u.1 77 e = m.1 39 e ∧ u.1 78 e = m.1 40 e ∧ u.1 79 e = m.1 41 e) →
    ∃ w : St, f_X12_reckons_L113 K q d u = K w ∧ (∀ e, e < n → w.1 76 e = m.1 38 e ∧ w.1 77 e = m.1 39 e ∧ w.1 78 e = m.1 40 e ∧ w.1 79 e = m.1 41 e) ∧ (∀ a, a < 76 ∨ 79 < a → w.1 a = u.1 a) ∧ w.2 = u.2 := by
  have h64 := hF.2.1
  intro i
  induction i with
  | zero =>
    intro d q u h1 h2 hn _ _ _ _ h3
    obtain ⟨q, rfl⟩ : ∃ k, q = k + 1 := ⟨q - 1, by omega⟩
    have : d = n := by omega
    subst this
    refine ⟨u, ?_, h3, fun _ _ => rfl, rfl⟩
    unfold f_X12_reckons_L113
    rw [lt1_k, hn, cmpI_ok (by omega), if_neg (by omega)]
  | succ i ih =>
    intro d q u h1 h2 hn e38 e39 e40 e41 h3
    obtain ⟨q, rfl⟩ : ∃ k, q = k + 1 := ⟨q - 1, by omega⟩
    generalize hu2 : pI (pI (pI (pI u 76 d (m.1 38 d)) 77 d (m.1 39 d)) 78 d (m.1 40 d)) 79 d (m.1 41 d) = u2
    have e2 : ∀ a, a < 76 ∨ 79 < a → u2.1 a = u.1 a := fun a ha => by rw [← hu2, pI_ne (by omega), pI_ne (by omega), pI_ne (by omega), pI_ne (by omega)]
    obtain ⟨w, w1, w2, w3, w4⟩ := ih (d + 1) q u2 (by omega) (by omega) (by rw [e2 200 (by omega)]; exact hn) (by rw [e2 38 (by omega)]; exact e38) (by rw [e2 39 (by omega)]; exact e39) (by rw [e2 40 (by omega)]; exact e40) (by rw [e2 41 (by omega)]; exact e41) (fun e he => by
      have a3 : u2.1 76 = (pI u 76 d (m.1 38 d)).1 76 := by rw [← hu2, pI_ne (by decide), pI_ne (by decide), pI_ne (by decide)]
      have a4 : u2.1 77 = (pI (pI u 76 d (m.1 38 d)) 77 d (m.1 39 d)).1 77 := by rw [← hu2, pI_ne (by decide), pI_ne (by decide)]
      have a6 : u2.1 78 = (pI (pI (pI u 76 d (m.1 38 d)) 77 d (m.1 39 d)) 78 d (m.1 40 d)).1 78 := by rw [← hu2, pI_ne (by decide)]
      rw [a3, a4, a6]
      by_cases hed : e = d
      · subst hed
        rw [pI_at, pI_at, pI_at, ← hu2, pI_at]
        exact ⟨rfl, rfl, rfl, rfl⟩
      · have := h3 e (by omega)
        rw [← hu2]
        simp only [pI_nf hed]
        exact this)
    refine ⟨w, ?_, w2, fun a ha => by rw [w3 a ha, e2 a ha], by rw [w4, ← hu2]; rfl⟩
    unfold f_X12_reckons_L113
    have k1 : ∀ x : Int, (pI u 76 d x).1 39 = u.1 39 := fun x => pI_ne (by omega)
    have k2 : ∀ x y : Int, (pI (pI u 76 d x) 77 d y).1 40 = u.1 40 := fun x y => by rw [pI_ne (by omega), pI_ne (by omega)]
    have k3 : ∀ x y z : Int, (pI (pI (pI u 76 d x) 77 d y) 78 d z).1 41 = u.1 41 := fun x y z => by rw [pI_ne (by omega), pI_ne (by omega), pI_ne (by omega)]
    simp only [lt1_k, Int.toNat_natCast, k1, k2, k3, e38, e39, e40, e41]
    rw [hn, cmpI_ok (by omega), if_pos (by omega), ixI_ok (by omega), ixI_ok (by omega), ixI_ok (by omega), ixI_ok (by omega), ixI_ok (by omega), ixI_ok (by omega), ixI_ok (by omega), ixI_ok (by omega), hu2, show ((d : Int) + 1) = ((d + 1 : Nat) : Int) by omega]
    exact w1
theorem prB_cong {R R2 : Nat → Int} {lo : Int} {i : Nat} : ∀ d, (∀ e, e < d → R e = R2 e) → prB R lo d i = prB R2 lo d i := by
  intro d
  induction d with
  | zero => intro _; rfl
  | succ d ih => intro h; rw [prB_s, prB_s, ih (fun e he => h e (by omega)), h d (by omega)]
theorem rk9_cong {R R2 : Nat → Int} {v : Int} : ∀ n, (∀ e, e < n → R e = R2 e) → rk9 R v n = rk9 R2 v n := by
  intro n
  induction n with
  | zero => intro _; rfl
  | succ n ih => intro h; rw [rk9_s, rk9_s, ih (fun e he => h e (by omega)), h n (by omega), prB_cong n (fun e he => h e (by omega))]
/-- stamps -/
def LIn (t : St) : Prop := 0 ≤ t.1 304 11 ∧ ∀ s, s < 4096 → 0 ≤ t.1 378 s ∧ t.1 378 s < t.1 304 11 + 64
/-- a step's code and tokens -/
def STp (M : St) (cd tk : Nat → Int) (a b c d : Nat) : Prop := ∃ (H p : Nat), H ≤ 30 ∧ p ≤ 4 ∧ ∃ e, b = e + 1 ∧ STq M H cd tk p a e c d ∧ cd e = 18
/-- what a step that can be danced comes to: new places (ranked), facings, turns, beats -/
def DNC (u w : St) (n : Nat) : Prop :=
  (∀ d, d < n → u.1 376 d = cdZ (4 * (rk9 (w.1 76) (w.1 76 d) n : Int)) (4 * (rk9 (w.1 77) (w.1 77 d) n : Int)) (w.1 78 d) ∧ w.1 79 d = w.1 41 d + u.1 375 d ∧ (-8 ≤ u.1 375 d ∧ u.1 375 d ≤ 8) ∧ (-64 ≤ w.1 76 d ∧ w.1 76 d ≤ 316) ∧ (-64 ≤ w.1 77 d ∧ w.1 77 d ≤ 316) ∧ (0 ≤ w.1 78 d ∧ w.1 78 d ≤ 3)) ∧
  FXs (fun d => 4 * (rk9 (w.1 76) (w.1 76 d) n : Int)) (fun d => 4 * (rk9 (w.1 77) (w.1 77 d) n : Int)) (w.1 78) n
set_option maxHeartbeats 1000000 in
theorem at_both {M : St} {cd tk : Nat → Int} {N o n a b c d : Nat} {t m : St} {s : Int64} (hS : STp M cd tk a b c d) (hM15 : M.1 200 15 ≤ 100) (hX : CXr M N o n t m s) (hG : FGr t m) (hMG : M.1 200 15 ≤ m.1 200 15) (hn1 : 1 ≤ n) (hC : agC t cd a b) (hT : agT m tk c d) (hd9 : d < 10099) (hi : inR (m.1 31 d)) (h38 : m.1 31 d ≠ 5038) (hL : LIn t) (hLb : t.1 304 11 ≤ 1900000000) :
    ∃ (u w : St), hk5 t u ∧ CIk u ∧ mk5 m w ∧ LIn u ∧ u.1 304 11 ≤ t.1 304 11 + 64 ∧
      ((∃ r : Int, (r = 1 ∨ r = 2 ∨ r = 3 ∨ r = 4 ∨ r = 5) ∧ f_X1_attempt N o a s t = some (r, u) ∧ f_X12_reckons N c s m = some (0, w) ∧ blm u w r) ∨
       (f_X1_attempt N o a s t = some (0, u) ∧ f_X12_reckons N c s m = some (1, w) ∧ DNC u w n ∧ u.1 304 12 = b ∧ (∃ p : Nat, 1 ≤ p ∧ p ≤ 4 ∧ w.1 200 75 = p ∧ u.1 304 13 = mxc w p ∧ ∀ j, j < p → 0 ≤ w.1 74 j ∧ w.1 74 j < m.1 200 15))) := by
  obtain ⟨H, p, hH, hp, e, hbe, hSq, hcd⟩ := hS
  subst hbe
  have hlt := STq.lt hSq
  have hN := hX.1
  have hE := hX.2.1
  have h64 := hE.n64
  have hlen := hX.2.2.2.1
  have hcl := hC.2
  have hdl := hT.2
  -- the pairs
  have hm0 : mk5 m (pI (pI m 200 114 c) 200 75 0) := (mk5.F (by omega)).tr (mk5.F (by omega))
  have hX0 : CXr M N o n t (pI (pI m 200 114 c) 200 75 0) s := by
    refine ⟨hN, hE.k5 hk5.rf hE.2.2.2.2.2.1 hm0, hX.2.2.1, hlen, ?_⟩
    refine ⟨by rw [pI_nf (by decide), pI_nf (by decide)]; exact hX.2.2.2.2.1, fun f hf => by rw [pI_ne (by decide), pI_ne (by decide)]; exact hX.2.2.2.2.2 f hf⟩
  have h310 : (pI (pI m 200 114 c) 200 75 0).1 31 = m.1 31 := by rw [pI_ne (by decide), pI_ne (by decide)]
  obtain ⟨t1, m1, g1, ⟨g2, g2a, g2b⟩, g3, g4, g5, g6, g7, g8⟩ := st_gather (N := N) (o := o) (n := n) (s := s) hH hM15 p a e c d t (pI (pI m 200 114 c) 200 75 0) hSq hp hX0 (hC.sub (by omega) (by omega)) (by unfold agT; rw [h310]; exact hT) (by rw [pI_nf (by decide), pI_at]) (by rw [h310]; exact hi) hd9 pI_at
  have hm1 : mk5 m (pI m1 200 114 (d : Int)) := (hm0.tr g5).tr (mk5.F (by omega))
  have h15 : (pI m1 200 114 (d : Int)).1 200 15 = m.1 200 15 := hm1.2.1 15 (by decide) (by decide) (by decide) (by decide) (by decide) (by decide) (by decide) (by decide) (by decide) (by decide)
  have hP1 : PRs t1 (pI m1 200 114 (d : Int)) n (m.1 200 15) p := by
    intro j hj
    have := g8 j hj
    refine ⟨this.1, this.2.1, by rw [pI_ne (by decide)]; exact this.2.2.1, by rw [pI_ne (by decide)]; exact this.2.2.2.1, by rw [pI_ne (by decide)]; have := this.2.2.2.2; omega⟩
  have h75 : (pI m1 200 114 (d : Int)).1 200 75 = p := by rw [pI_nf (by decide)]; exact g7
  have hA13 : ∀ K : St → Option (Int × St), f_X12_reckons_L13 N K s N 1 (pI (pI m 200 114 c) 200 75 0) = K (pI m1 200 114 (d : Int)) := by
    intro K
    obtain ⟨q, hq⟩ : ∃ q, N = (q + 1) + p := ⟨N - p - 1, by omega⟩
    have := g4 K (q + 1)
    rw [← hq, h310, if_neg h38] at this
    rw [this]
    unfold f_X12_reckons_L13
    rw [cmpI_ok (by omega), if_pos rfl]
  generalize pI m1 200 114 (d : Int) = mm at *
  have hE1 : EVr o t1 mm n := hE.k5 g2 g3 hm1
  have ho := hE1.1
  -- the hall's loop of pairs ends
  have hA6 : ∀ K : Int → Int → St → Option (Int × St), f_X1_attempt_L6 N o K s N a 0 t = K e p t1 := by
    intro K
    obtain ⟨q, hq⟩ : ∃ q, N = (q + 1) + p := ⟨N - p - 1, by omega⟩
    have := g1 K (q + 1)
    rw [← hq] at this
    rw [this]
    have hl1 : t1.1 302 18 = t.1 302 18 := by rw [g2.1 302 (by decide) (by decide) (by decide)]
    have hk := h_kind (N := N) (x := e) (kd := 18) (vl := 0) (t := t1) (by omega) (by omega) (by rw [hl1]; omega) (by rw [hl1]; exact hlen) (by rw [g2.1 363 (by decide) (by decide) (by decide), hC.1 e (by omega) (by omega), hcd]; rfl)
    unfold f_X1_attempt_L6
    rw [cmpI_ok (by omega)]
    by_cases hp4 : p < 4
    · rw [if_pos (by omega), lt1_k, hl1, cmpI_ok (by omega), if_pos (by omega), hk.1, bdI_s, cmpI_ok (by omega), if_pos (by omega)]
    · rw [if_neg (by omega)]
  -- all stay
  have hF1 := hE1.2.1.1
  have hFH2 : FH o (pI t1 304 12 ((e : Int) + 1)) (mm.1 38) (mm.1 39) (mm.1 40) n := by
    have := hE1.2.1.2
    have q : ∀ a, a ≠ 304 → (pI t1 304 12 ((e : Int) + 1)).1 a = t1.1 a := fun a ha => pI_ne ha
    unfold FH at this ⊢
    rw [q (305 + o) (by omega), q (390 + 10 * o) (by omega), q (391 + 10 * o) (by omega), q (392 + 10 * o) (by omega), q (397 + 10 * o) (by omega)]
    exact this
  obtain ⟨t2, k1, k2, k3, k4⟩ := h_stay (N := N) ho hF1 (fun (t12 : St) => some t12) n 0 N (pI t1 304 12 ((e : Int) + 1)) (by omega) (by omega) hFH2 (fun x hx => by omega)
  rw [show ((0 : Nat) : Int) = 0 from rfl] at k1
  obtain ⟨m2, l1, l2, l3, l4⟩ := s_stay hF1 (fun (t40 : St) => f_X12_reckons_L190 N (rK1 N) (rK2 N) (rK3 N) (rK4 N) N (0 : Int64) 0 t40) n 0 N mm (by omega) (by omega) hF1.1 rfl rfl rfl rfl (fun x hx => by omega)
  rw [show ((0 : Nat) : Int) = 0 from rfl] at l1
  have hmm2 : mk5 mm m2 := ⟨fun x h1 h2 h3 h4 h5 _ _ _ _ _ => l3 x (by omega), fun b _ _ _ _ _ _ _ _ _ _ => by rw [l3 200 (by omega)], fun x _ => by rw [l4]⟩
  -- the hall's state ahead of the moves
  generalize ht3 : pI t2 304 13 0 = t3
  have q3 : ∀ x, x ≠ 304 → (x < 373 ∨ 376 < x) → t3.1 x = t1.1 x := fun x h1 h2 => by rw [← ht3, pI_ne h1, k3 x h2, pI_ne h1]
  have q3b : ∀ b, b ≠ 12 → b ≠ 13 → t3.1 304 b = t1.1 304 b := fun b h1 h2 => by rw [← ht3, pI_nf h2, k3 304 (by omega), pI_nf h1]
  have q3L : t3.2 = t1.2 := by rw [← ht3]; show t2.2 = _; rw [k4]; rfl
  have q12 : t3.1 304 12 = ((e + 1 : Nat) : Int) := by rw [← ht3, pI_nf (by decide), k3 304 (by omega), pI_at]; omega
  have q13 : t3.1 304 13 = 0 := by rw [← ht3, pI_at]
  have h13 : hk5 t1 t3 := ⟨fun x h1 h2 h3 => q3 x h1 (by omega), fun b hb => q3b b (by omega) (by omega), fun b _ _ _ => by rw [q3 311 (by decide) (by decide)], fun x _ _ _ _ => by rw [q3L]⟩
  have hC3 : CIk t3 := g3.k5 ⟨fun x h1 h2 => q3 x h1 (by omega), by rw [q3L]⟩
  have hE3 : EVr o t3 m2 n := hE1.k5 h13 hC3 hmm2
  have hR3 : RMv t3 m2 n := by
    intro x hx
    have a1 := k2 x hx
    have a2 := l2 x hx
    have a3 := hF1.2.2.1 x hx
    have e373 : t3.1 373 = t2.1 373 := by rw [← ht3, pI_ne (by decide)]
    have e374 : t3.1 374 = t2.1 374 := by rw [← ht3, pI_ne (by decide)]
    have e375 : t3.1 375 = t2.1 375 := by rw [← ht3, pI_ne (by decide)]
    rw [e373, e374, e375, a1.1, a1.2.1, a1.2.2.2, a2.1, a2.2.1, a2.2.2.1, a2.2.2.2, l3 40 (by omega), l3 41 (by omega)]
    omega
  have hz376 : ∀ x, x < n → t3.1 376 x = mm.1 40 x := fun x hx => by rw [← ht3, pI_ne (by decide)]; exact (k2 x hx).2.2.1
  -- both beginnings
  have hAt : f_X1_attempt N o a s t = f_X1_attempt_L110 N o (fun (t37 : St) => lt1 (t37.1 (305 + o) 8) fun v38 => bdI (f_X1_land N v38 t37) fun v40 t39 => some (v40, t39)) p N (0 : Int64) 0 t3 := by
    unfold f_X1_attempt
    rw [hA6]
    unfold f_X1_stayAll
    simp only [lt1_k]
    rw [k1, bdV_s, ht3]
  have hRe : f_X12_reckons N c s m = f_X12_reckons_L190 N (rK1 N) (rK2 N) (rK3 N) (rK4 N) N (0 : Int64) 0 m2 := by
    rw [reck_u, hA13, l1]
  have h15b : m2.1 200 15 = m.1 200 15 := by rw [l3 200 (by omega)]; exact h15
  have hG3 : FGr t3 m2 := hG.k5 (g2.tr h13) (hm1.tr hmm2)
  have hP3 : PRs t3 m2 n (m2.1 200 15) p := by
    intro j hj
    have := hP1 j hj
    rw [q3L, q3 372 (by decide) (by omega), l3 74 (by omega), l4, h15b]
    exact this
  have h75b : m2.1 200 75 = p := by rw [l3 200 (by omega)]; exact h75
  have hjn := t_joint (N := N) (o := o) (n := n) (p := p) hN hp p 0 t3 m2 0 (by omega) hE3 hG3 hP3 h75b hR3 (by rw [q13]; rfl) ⟨Int.le_refl _, by show (0 : Int) ≤ 64; decide⟩
  rw [show ((0 : Nat) : Int) = 0 from rfl] at hjn
  have h378t : t3.1 378 = t.1 378 := by rw [q3 378 (by decide) (by omega), g2b]
  have h11t : t3.1 304 11 = t.1 304 11 := by rw [q3b 11 (by decide) (by decide), g2a]
  rcases hjn with ⟨r, u, w, y1, y2, y3, y4, y5, y6, y7, y8, y9⟩ | ⟨u, w, y1, y2, y3, y4, y5, y6, y7, y8, y9, y10, y11, y12, y13⟩
  · refine ⟨u, w, (g2.tr h13).tr y4, y5, (hm1.tr hmm2).tr y6, ?_, by rw [y9, h11t]; omega, Or.inl ⟨r, by omega, by rw [hAt]; exact y2 _ N (by omega), by rw [hRe]; exact y3 N (by omega), y7⟩⟩
    unfold LIn
    rw [y8, y9, h378t, h11t]
    exact hL
  · -- land
    have hAt2 := hAt.trans (y1 _ N (by omega))
    have hRe2 := hRe.trans (y2 N (by omega))
    have hEu : EVr o u w n := hE3.k5 y3 y4 y5
    simp only [lt1_k] at hAt2
    rw [hEu.2.1.2.1] at hAt2
    have hb76 : ∀ x, x < n → -64 ≤ u.1 373 x ∧ u.1 373 x ≤ 316 := fun x hx => by have := (y6 x hx).1; omega
    have hb77 : ∀ x, x < n → -64 ≤ u.1 374 x ∧ u.1 374 x ≤ 316 := fun x hx => by have := (y6 x hx).2.1; omega
    obtain ⟨G1, Q1, s1, s2⟩ := h_square (N := N) (q0 := 373) (n := n) (t := u) (by decide) ⟨hn1, h64⟩ rfl hb76 (by omega)
    obtain ⟨G2, Q2, r1, r2⟩ := h_square (N := N) (q0 := 374) (n := n) (t := pA (pA u 377 G1) 373 Q1) (by decide) ⟨hn1, h64⟩ rfl (by rw [pA_ne (by decide), pA_ne (by decide)]; exact hb77) (by omega)
    rw [pA_ne (by decide), pA_ne (by decide)] at r2
    have hq1 : ∀ x, x < n → Q1 x = 4 * (rk9 (w.1 76) (w.1 76 x) n : Int) := fun x hx => by
      rw [s2 x hx, (y6 x hx).1.1, rk9_cong n (fun e he => (y6 e he).1.1)]
    have hq2 : ∀ x, x < n → Q2 x = 4 * (rk9 (w.1 77) (w.1 77 x) n : Int) := fun x hx => by
      rw [r2 x hx, (y6 x hx).2.1.1, rk9_cong n (fun e he => (y6 e he).2.1.1)]
    have hk1 : ∀ x, x < n → rk9 (w.1 76) (w.1 76 x) n ≤ 63 ∧ rk9 (w.1 77) (w.1 77 x) n ≤ 63 := fun x hx => by
      have a1 := (rk_le (R := w.1 76) (v := w.1 76 x) n).2 ⟨x, hx, Int.le_refl _⟩
      have a2 := (rk_le (R := w.1 77) (v := w.1 77 x) n).2 ⟨x, hx, Int.le_refl _⟩
      omega
    have hok : ∀ x, x < n → ok4 (Q1 x) ∧ ok4 (Q2 x) := fun x hx => by
      have := hk1 x hx
      rw [hq1 x hx, hq2 x hx]; omega
    have hsme : ∀ x y, x < n → y < n → (spt (Q1 x) (Q2 x) = spt (Q1 y) (Q2 y) ↔ sme (w.1 76) (w.1 77) x y) := by
      intro x y hx hy
      have a1 := hok x hx
      have a2 := hok y hy
      rw [spt_inj a1.1 a1.2 a2.1 a2.2, hq1 x hx, hq1 y hy, hq2 x hx, hq2 y hy]
      unfold sme
      constructor
      · intro h; exact ⟨rk_inj hx hy (by omega), rk_inj hx hy (by omega)⟩
      · intro h; rw [h.1, h.2]; exact ⟨rfl, rfl⟩
    generalize ht5 : pA (pA (pA (pA u 377 G1) 373 Q1) 377 G2) 374 Q2 = t5 at r1
    have p5 : ∀ x, x ≠ 373 → x ≠ 374 → x ≠ 377 → t5.1 x = u.1 x := fun x h1 h2 h3 => by rw [← ht5, pA_ne h2, pA_ne h3, pA_ne h1, pA_ne h3]
    have p573 : t5.1 373 = Q1 := by rw [← ht5, pA_ne (by decide), pA_ne (by decide), pA_at]
    have p574 : t5.1 374 = Q2 := by rw [← ht5, pA_at]
    have p5L : t5.2 = u.2 := by rw [← ht5]; rfl
    generalize ht6 : pI (pI (pI (pI t5 304 14 0) 304 15 (-1)) 304 16 (-1)) 304 11 (t.1 304 11 + 64) = t6
    have p6 : ∀ x, x ≠ 304 → t6.1 x = t5.1 x := fun x h1 => by rw [← ht6, pI_ne h1, pI_ne h1, pI_ne h1, pI_ne h1]
    have p6b : ∀ b, b ≠ 11 → b ≠ 14 → b ≠ 15 → b ≠ 16 → t6.1 304 b = u.1 304 b := fun b h1 h2 h3 h4 => by rw [← ht6, pI_nf h1, pI_nf h4, pI_nf h3, pI_nf h2, p5 304 (by decide) (by decide) (by decide)]
    have p6L : t6.2 = u.2 := by rw [← ht6]; exact p5L
    have hstu : u.1 304 11 = t.1 304 11 := by rw [y11, h11t]
    have h376u : ∀ x, x < n → u.1 376 x = w.1 40 x := fun x hx => by rw [y13, hz376 x hx, (hmm2.tr y5).1 40 (by decide) (by decide) (by decide) (by decide) (by decide) (by decide) (by decide) (by decide) (by decide) (by decide)]
    have hL1 := hL.1
    have hLand : ∀ K : St → Option (Int × St), ∃ v : St, f_X1_land_L39 N K n N 0 t6 = K v ∧ _ := fun K => h_landL (N := N) (n := n) (t := t6) (X := Q1) (Y := Q2) (T := u.1 375) (Z := w.1 40) (st := t.1 304 11 + 64) h64 (by rw [p6 373 (by decide), p573]) (by rw [p6 374 (by decide), p574]) (by rw [p6 375 (by decide), p5 375 (by decide) (by decide) (by decide)]) (by rw [← ht6, pI_at]) (by omega) hok (fun s9 hs9 => by rw [p6 378 (by decide), p5 378 (by decide) (by decide) (by decide), y10, h378t]; exact (hL.2 s9 hs9).1) K n 0 N t6 (by omega) (by omega) (by rw [p6 373 (by decide), p573]) (by rw [p6 374 (by decide), p574]) (by rw [p6 375 (by decide), p5 375 (by decide) (by decide) (by decide)]) (by rw [← ht6, pI_at]) (fun x hx _ => by rw [p6 376 (by decide), p5 376 (by decide) (by decide) (by decide)]; exact h376u x hx) (fun x hx => by omega) (fun s9 hs9 => by
      left
      rw [p6 378 (by decide), p5 378 (by decide) (by decide) (by decide), y10, h378t]
      exact ⟨(hL.2 s9 hs9).2, fun x hx => by omega⟩) (fun s9 hs9 => by
      rw [p6 378 (by decide), p5 378 (by decide) (by decide) (by decide), y10, h378t]
      have := hL.2 s9 hs9; omega) (by
      left
      refine ⟨by rw [← ht6, pI_nf (by decide), pI_nf (by decide), pI_nf (by decide), pI_at], fun x y _ h => by omega⟩)
    obtain ⟨v, v1, v2, v3, v4, v5, v6, v7, v8⟩ := hLand (fun (t31 : St) => lt1 (t31.1 304 14) fun v32 => some (v32, t31))
    have hland : f_X1_land N n u = some (v.1 304 14, v) := by
      unfold f_X1_land
      rw [s1, bdV_s, r1, bdV_s, h_blame ⟨by decide, by decide⟩, bdI_s]
      simp only [lt1_k]
      have e11 : (pI (pI (pI t5 304 14 0) 304 15 (-1)) 304 16 (-1)).1 304 11 = t.1 304 11 := by rw [pI_nf (by decide), pI_nf (by decide), pI_nf (by decide), p5 304 (by decide) (by decide) (by decide), hstu]
      rw [e11, ht6]
      exact v1
    rw [hland, bdI_s] at hAt2
    have hkv : hk5 u v := by
      refine ⟨fun x h1 h2 h3 => ?_, fun b hb => ?_, fun b h1 h2 h3 => ?_, fun x _ _ _ _ => by rw [v7, p6L]⟩
      · rw [v5 x (by omega) (by omega) h1, p6 x h1, p5 x (by omega) (by omega) (by omega)]
      · rw [v6 b (by omega) (by omega) (by omega), p6b b (by omega) (by omega) (by omega) (by omega)]
      · rw [v5 311 (by decide) (by decide) (by decide), p6 311 (by decide), p5 311 (by decide) (by decide) (by decide)]
    have hCv : CIk v := y4.k5 ⟨fun x h1 h2 => by rw [v5 x (by omega) (by omega) h1, p6 x h1, p5 x (by omega) (by omega) (by omega)], by rw [v7, p6L]⟩
    have hv11 : v.1 304 11 = t.1 304 11 + 64 := by rw [v6 11 (by decide) (by decide) (by decide), ← ht6, pI_at]
    have hLv : LIn v := by
      refine ⟨by rw [hv11]; omega, fun s9 hs9 => ?_⟩
      rw [hv11]
      refine ⟨(v8 s9 hs9).1, ?_⟩
      rcases v3 s9 hs9 with h9 | ⟨x, h9, _, h10, _⟩
      · omega
      · omega
    have hRw : ∀ x, x < n → inR (w.1 76 x) ∧ inR (w.1 77 x) := fun x hx => by have := y6 x hx; omega
    have hcol := s_colL (N := N) (m := w) hEu.2.1.1.1 h64 hRw (by omega) (fun (k104 : Int) (k105 : Int) (t106 : St) => bdI (f_X12_fails N 5 k104 k105 t106) fun v108 t107 => boI v108 (some (v108, t107))) (fun (t109 : St) => boI 1 (some (1, t109))) n 0 N (by omega) (by omega) (fun x y h => by omega)
    rw [show ((0 : Nat) : Int) = 0 from rfl] at hcol
    have hkt : hk5 t v := ((g2.tr h13).tr y3).tr hkv
    have hkm : mk5 m w := (hm1.tr hmm2).tr y5
    rcases hcol with ⟨c1, c2⟩ | ⟨x, y, c1, c2⟩
    · -- nobody is where another one is
      have hw0 : v.1 304 14 = 0 := by
        rcases v4 with h9 | ⟨_, pp, qq, _, _, h10⟩
        · exact h9.1
        · have := h10.2.1
          have := h10.1
          exact absurd ((hsme pp qq (by omega) (by omega)).mp h10.2.2.1) (c2 pp qq (by omega) (by omega))
      refine ⟨v, w, hkt, hCv, hkm, hLv, by rw [hv11]; omega, Or.inr ⟨by rw [hAt2, hw0], by rw [hRe2]; show f_X12_reckons_L361 N _ _ N 0 w = _; rw [c1, boI_1], ?_, ?_, p, by omega, hp, y9, ?_, fun j hj => ?_⟩⟩
      · refine ⟨fun x hx => ?_, by omega, fun x hx => ?_, fun x y hx hy h1 h2 => ?_⟩
        · have b1 := y6 x hx
          have b2 := hEu.2.1.1.2.2.1 x hx
          rw [v2 x hx, hq1 x hx, hq2 x hx, v5 375 (by decide) (by decide) (by decide), p6 375 (by decide), p5 375 (by decide) (by decide) (by decide), b1.2.2.1]
          exact ⟨rfl, b1.2.2.2.1, by omega, by omega, by omega, by omega⟩
        · have b1 := y6 x hx
          have b3 := hok x hx
          rw [hq1 x hx, hq2 x hx] at b3
          exact ⟨b3.1, b3.2, by rw [b1.2.2.1]; omega, by rw [b1.2.2.1]; omega⟩
        · dsimp only at h1 h2
          have e1 := rk_inj hx hy (show rk9 (w.1 76) (w.1 76 x) n = rk9 (w.1 76) (w.1 76 y) n by omega)
          have e2 := rk_inj hx hy (show rk9 (w.1 77) (w.1 77 x) n = rk9 (w.1 77) (w.1 77 y) n by omega)
          rcases Nat.lt_trichotomy x y with h3 | h3 | h3
          · exact absurd ⟨e1, e2⟩ (c2 x y h3 hy)
          · exact h3
          · exact absurd ⟨e1.symm, e2.symm⟩ (c2 y x h3 hx)
      · rw [v6 12 (by decide) (by decide) (by decide), p6b 12 (by decide) (by decide) (by decide) (by decide), y12, q12]
      · rw [v6 13 (by decide) (by decide) (by decide), p6b 13 (by decide) (by decide) (by decide) (by decide), y7]
      · have := hP3 j hj
        rw [y8, ← h15b]
        exact ⟨this.2.2.2.1, this.2.2.2.2⟩
    · -- two at one place
      have hv5 : v.1 304 14 = 5 ∧ v.1 304 15 = x ∧ v.1 304 16 = y := by
        rcases v4 with h9 | ⟨h9, pp, qq, h10, h11, h12⟩
        · have := c1.1
          have := c1.2.1
          exact absurd ((hsme x y (by omega) (by omega)).mpr c1.2.2.1) (h9.2 x y (by omega) (by omega))
        · have hcc : colM (sme (w.1 76) (w.1 77)) n pp qq := by
            have b1 := h12.1
            have b2 := h12.2.1
            refine ⟨b1, b2, (hsme pp qq (by omega) (by omega)).mp h12.2.2.1, fun x2 y2 h3 h4 h5 => h12.2.2.2 x2 y2 h3 h4 ((hsme x2 y2 (by omega) (by omega)).mpr h5)⟩
          have := colM_uni hcc c1
          rw [h10, h11, this.1, this.2]
          exact ⟨h9, rfl, rfl⟩
      have hxy := c1.1
      have hyn := c1.2.1
      refine ⟨v, pI (pI (pI w 200 70 5) 200 71 x) 200 72 y, hkt, hCv, hkm.tr fl_k5, hLv, by rw [hv11]; omega, Or.inl ⟨5, by omega, by rw [hAt2, hv5.1], ?_, hv5.1, ?_, ?_, ?_, ?_, ?_⟩⟩
      · rw [hRe2]; show f_X12_reckons_L361 N _ _ N 0 w = _
        rw [c2, s_fails, bdI_s, boI_0]
      · rw [pI_nf (by decide), pI_nf (by decide), pI_at]
      · rw [hv5.2.1, pI_nf (by decide), pI_at]
      · rw [hv5.2.2, pI_at]
      · rw [hv5.2.1]; omega
      · rw [hv5.2.2]; omega
