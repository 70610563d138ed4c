/-! trying a step's pairs: both sides -/
def rK1 (N : Nat) : St → Option (Int × St) := fun (t60 : St) => bdI (f_X12_fails N 1 (-1) (-1) t60) fun v62 t61 =>
    boI v62 (some (v62, t61))
def rK2 (N : Nat) : Int64 → Int → St → Option (Int × St) := fun (k63 : Int64) (k64 : Int) (t65 : St) => ixI k64 4 (lt1 (t65.2 73 k64.toNat) fun v66 =>
    bdI (f_X12_leastOf N (v66 &&& k63) t65) fun v68 t67 =>
    bdI (f_X12_fails N 2 v68 (-1) t67) fun v70 t69 =>
    boI v70 (some (v70, t69)))
def rK3 (N : Nat) : Int → Int → St → Option (Int × St) := fun (k71 : Int) (k72 : Int) (t73 : St) => bdV (f_X12_sort N t73) fun t74 =>
    jn1 (fun (j75 : Int) (t76 : St) => ixI k71 4 (lt1 (t76.2 73 k71.toNat) fun v78 =>
    bdI (f_X12_firstOf N v78 t76) fun v80 t79 =>
    bdI (f_X12_fails N j75 v80 (-1) t79) fun v82 t81 =>
    boI v82 (some (v82, t81)))) fun J77 =>
    cmpI k72 0 (if k72 = 0 then (J77 3 t74)
    else (J77 4 t74))
def rK4 (N : Nat) : St → Option (Int × St) := fun (t83 : St) => f_X12_reckons_L361 N (fun (k104 : Int) (k105 : Int) (t106 : St) => bdI (f_X12_fails N 5 k104 k105 t106) fun v108 t107 =>
    boI v108 (some (v108, t107))) (fun (t109 : St) => boI 1 (some (1, t109))) N 0 t83
theorem reck_u {N : Nat} {a0 : Int} {a1 : Int64} {t : St} : f_X12_reckons N a0 a1 t = f_X12_reckons_L13 N (fun (t27 : St) => f_X12_reckons_L113 (fun (t40 : St) => f_X12_reckons_L190 N (rK1 N) (rK2 N) (rK3 N) (rK4 N) N (0 : Int64) 0 t40) N 0 t27) a1 N 1 (pI (pI t 200 114 a0) 200 75 0) := rfl
theorem s_fails {N : Nat} {a b c : Int} {t : St} : f_X12_fails N a b c t = some (0, pI (pI (pI t 200 70 a) 200 71 b) 200 72 c) := by
  unfold f_X12_fails; simp only [lt1_k]; rw [boI_0]
theorem h_blame {N : Nat} {a b c : Int} {t : St} (ha : inR a) : f_X1_blame N a b c t = some ((if a = 0 then 1 else 0), pI (pI (pI t 304 14 a) 304 15 b) 304 16 c) := by
  unfold f_X1_blame; simp only [lt1_k]; rw [cmpI_ok (by omega), boI_0, boI_1]; split <;> rfl
/-- the least of some -/
theorem h_leastL {s : Int64} {n : Nat} {t : St} (hn : n ≤ 64) (K : St → Option (Int × St)) : ∀ (k d q : Nat), d + k = n → k < q → f_X1_leastOf_L2 K s n q d t = (if fmw (fun e => bq s e) k d = -1 then K t else some (fmw (fun e => bq s e) k d, t)) := by
  intro k
  induction k with
  | zero =>
    intro d q h1 h2
    obtain ⟨q, rfl⟩ : ∃ k, q = k + 1 := ⟨q - 1, by omega⟩
    unfold f_X1_leastOf_L2 fmw
    rw [cmpI_ok (by omega), if_neg (by omega), if_pos rfl]
  | succ k ih =>
    intro d q h1 h2
    obtain ⟨q, rfl⟩ : ∃ k, q = k + 1 := ⟨q - 1, by omega⟩
    unfold f_X1_leastOf_L2
    simp only [bq_h (show d < 64 by omega)]
    rw [cmpI_ok (by omega), if_pos (by omega), show ((d : Int) + 1) = ((d + 1 : Nat) : Int) by omega]
    cases hb : bq s d with
    | true => rw [if_neg (by decide), fmw_t (P := fun e => bq s e) hb, if_neg (by omega)]
    | false => rw [if_pos rfl, fmw_f (P := fun e => bq s e) (d := k) hb]; exact ih (d + 1) q (by omega) (by omega)
theorem s_leastL {N : Nat} {s : Int64} {t : St} (K : Int → St → Option (Int × St)) {x : Nat} (hx : x < 64) (hb : bq s x = true) (hf : ∀ e, e < x → bq s e = false) : ∀ (k d q : Nat), d + k = x → k < q → f_X12_leastOf_L2 N K s q d t = K x t := by
  intro k
  induction k with
  | zero =>
    intro d q h1 h2
    obtain ⟨q, rfl⟩ : ∃ k, q = k + 1 := ⟨q - 1, by omega⟩
    have : d = x := by omega
    subst this
    unfold f_X12_leastOf_L2
    rw [s_has hx, bdI_s, if_pos hb, cmpI_ok (by omega), if_neg (by decide)]
  | succ k ih =>
    intro d q h1 h2
    obtain ⟨q, rfl⟩ : ∃ k, q = k + 1 := ⟨q - 1, by omega⟩
    unfold f_X12_leastOf_L2
    rw [s_has (by omega), bdI_s, if_neg (by rw [hf d (by omega)]; decide), cmpI_ok (by omega), if_pos rfl, show ((d : Int) + 1) = ((d + 1 : Nat) : Int) by omega]
    exact ih (d + 1) q (by omega) (by omega)
theorem least_both {N n : Nat} {s : Int64} {t m : St} (hn : n ≤ 64) (h0 : s ≠ 0) (hs : ∀ e, e < 64 → bq s e = true → e < n) (hN : 70 ≤ N) : ∃ x : Nat, x < n ∧ f_X1_leastOf N s n t = some ((x : Int), t) ∧ f_X12_leastOf N s m = some ((x : Int), m) := by
  obtain ⟨d, h1, h2⟩ := bq_nz h0
  have hne : fmw (fun e => bq s e) n 0 ≠ -1 := by
    intro h5
    have := fmw_neg _ _ h5 d (by omega) (by have := hs d h1 h2; omega)
    rw [h2] at this; cases this
  obtain ⟨x, a1, a2, a3, a4⟩ := fmw_some _ _ hne
  have hfirst : ∀ (d w : Nat) (P : Nat → Bool) (k : Nat), fmw P d w = k → ∀ j, w ≤ j → j < k → P j = false := by
    intro d
    induction d with
    | zero => intro w P k h j _ _; unfold fmw at h; omega
    | succ d ih =>
      intro w P k h j h1 h2
      cases hp : P w with
      | true => rw [fmw_t hp] at h; omega
      | false =>
        rw [fmw_f hp] at h
        by_cases hj : j = w
        · rw [hj]; exact hp
        · exact ih (w + 1) P k h j (by omega) h2
  refine ⟨x, by omega, ?_, ?_⟩
  · unfold f_X1_leastOf
    have := h_leastL (s := s) (n := n) (t := t) hn (fun (t6 : St) => some ((-1), t6)) n 0 N (by omega) (by omega)
    rw [if_neg hne, a3, show ((0 : Nat) : Int) = 0 from rfl] at this
    exact this
  · unfold f_X12_leastOf
    exact s_leastL (N := N) _ (by omega) a4 (fun e he => hfirst n 0 _ x a3 e (by omega) he) x 0 N (by omega) (by omega)
/-- the greatest counts of the first pairs -/
def mxc (m : St) : Nat → Int
  | 0 => 0
  | j + 1 => max (mxc m j) (m.1 24 (m.1 74 j).toNat)
theorem mxc_s {m : St} {j : Nat} : mxc m (j + 1) = max (mxc m j) (m.1 24 (m.1 74 j).toNat) := rfl
theorem mxc_cong {m w : St} (h1 : w.1 24 = m.1 24) (h2 : w.1 74 = m.1 74) : mxc w = mxc m := by
  funext j
  induction j with
  | zero => rfl
  | succ j ih => rw [mxc_s, mxc_s, ih, h1, h2]
def blm (u w : St) (r : Int) : Prop := u.1 304 14 = r ∧ w.1 200 70 = r ∧ u.1 304 15 = w.1 200 71 ∧ u.1 304 16 = w.1 200 72 ∧ inR (u.1 304 15) ∧ inR (u.1 304 16)
theorem blm_of {t m : St} {a b c : Int} (hb : inR b) (hc : inR c) : blm (pI (pI (pI t 304 14 a) 304 15 b) 304 16 c) (pI (pI (pI m 200 70 a) 200 71 b) 200 72 c) a := by
  refine ⟨?_, ?_, ?_, ?_, ?_, ?_⟩
  · rw [pI_nf (by decide), pI_nf (by decide), pI_at]
  · rw [pI_nf (by decide), pI_nf (by decide), pI_at]
  · rw [pI_nf (by decide), pI_at, pI_nf (by decide), pI_at]
  · rw [pI_at, pI_at]
  · rw [pI_nf (by decide), pI_at]; exact hb
  · rw [pI_at]; exact hc
theorem hmv.k5 {t u : St} (h : hmv t u) : hk5 t u := ⟨fun a h1 h2 h3 => h.1 a (by omega) (by omega) (by omega), fun b _ => by rw [h.1 304 (by decide) (by decide) (by decide)], fun b _ _ _ => by rw [h.1 311 (by decide) (by decide) (by decide)], fun a _ _ _ _ => by rw [h.2]⟩
theorem hmv.c5 {t u : St} (h : hmv t u) : ck5 t u := ⟨fun a h1 h2 => h.1 a (by omega) (by omega) (by omega), by rw [h.2]⟩
theorem bl_k5 {t : St} {a b c : Int} : hk5 t (pI (pI (pI t 304 14 a) 304 15 b) 304 16 c) := ((hk5.F (by omega)).tr (hk5.F (by omega))).tr (hk5.F (by omega))
theorem bl_c5 {t : St} {a b c : Int} : ck5 t (pI (pI (pI t 304 14 a) 304 15 b) 304 16 c) := ⟨fun x h1 h2 => by rw [pI_ne h1, pI_ne h1, pI_ne h1], rfl⟩
theorem fl_k5 {m : St} {a b c : Int} : mk5 m (pI (pI (pI m 200 70 a) 200 71 b) 200 72 c) := ((mk5.F (by omega)).tr (mk5.F (by omega))).tr (mk5.F (by omega))
theorem FGr.k5 {t u m w : St} (h : FGr t m) (g : hk5 t u) (g2 : mk5 m w) : FGr u w := by
  have e : ∀ a, a < 70 → w.1 a = m.1 a := fun a h => g2.1 a (by omega) (by omega) (by omega) (by omega) (by omega) (by omega) (by omega) (by omega) (by omega) (by omega)
  have f : ∀ a, a ≠ 304 → a ≠ 311 → (a < 372 ∨ 383 < a) → u.1 a = t.1 a := g.1
  unfold FGr
  rw [f 313 (by decide) (by decide) (by decide), f 354 (by decide) (by decide) (by decide), f 355 (by decide) (by decide) (by decide), f 356 (by decide) (by decide) (by decide), f 357 (by decide) (by decide) (by decide), f 358 (by decide) (by decide) (by decide), f 359 (by decide) (by decide) (by decide), e 18 (by decide), e 23 (by decide), e 24 (by decide), e 25 (by decide), e 26 (by decide), e 27 (by decide), e 28 (by decide), g2.2.1 14 (by decide) (by decide) (by decide) (by decide) (by decide) (by decide) (by decide) (by decide) (by decide) (by decide), g2.2.1 15 (by decide) (by decide) (by decide) (by decide) (by decide) (by decide) (by decide) (by decide) (by decide) (by decide)]
  exact h
theorem RMv.fr {t u m w : St} {n : Nat} (h : RMv t m n) (h1 : u.1 373 = t.1 373) (h2 : u.1 374 = t.1 374) (h3 : u.1 375 = t.1 375) (h4 : w.1 76 = m.1 76) (h5 : w.1 77 = m.1 77) (h6 : w.1 78 = m.1 78) (h7 : w.1 79 = m.1 79) (h8 : w.1 40 = m.1 40) (h9 : w.1 41 = m.1 41) : RMv u w n := by
  unfold RMv
  rw [h1, h2, h3, h4, h5, h6, h7, h8, h9]
  exact h
set_option maxHeartbeats 1000000 in
/-- the loop over the pairs -/
theorem t_joint {N o n p : Nat} (hN : 20000 ≤ N) (hp : p ≤ 4) : ∀ (i j : Nat) (t m : St) (b4 : Int64), j + i = p → EVr o t m n → FGr t m → PRs t m n (m.1 200 15) p → m.1 200 75 = p → RMv t m n → t.1 304 13 = mxc m j → 0 ≤ mxc m j ∧ mxc m j ≤ 64 →
    (∃ (r : Int) (u w : St), (r = 1 ∨ r = 2 ∨ r = 3 ∨ r = 4) ∧ (∀ (K : St → Option (Int × St)) (q : Nat), i < q → f_X1_attempt_L110 N o K p q b4 j t = some (r, u)) ∧ (∀ q : Nat, i < q → f_X12_reckons_L190 N (rK1 N) (rK2 N) (rK3 N) (rK4 N) q b4 j m = some (0, w)) ∧ hk5 t u ∧ CIk u ∧ mk5 m w ∧ blm u w r ∧ u.1 378 = t.1 378 ∧ u.1 304 11 = t.1 304 11) ∨
    (∃ (u w : St), (∀ (K : St → Option (Int × St)) (q : Nat), i < q → f_X1_attempt_L110 N o K p q b4 j t = K u) ∧ (∀ q : Nat, i < q → f_X12_reckons_L190 N (rK1 N) (rK2 N) (rK3 N) (rK4 N) q b4 j m = rK4 N w) ∧ hk5 t u ∧ CIk u ∧ mk5 m w ∧ RMv u w n ∧ u.1 304 13 = mxc w p ∧ w.1 74 = m.1 74 ∧ w.1 200 75 = p ∧ u.1 378 = t.1 378 ∧ u.1 304 11 = t.1 304 11 ∧ u.1 304 12 = t.1 304 12 ∧ u.1 376 = t.1 376) := by
  intro i
  induction i with
  | zero =>
    intro j t m b4 h1 hE hG hP h75 hR h13 hmx
    have : j = p := by omega
    subst this
    right
    refine ⟨t, m, fun K q hq => ?_, fun q hq => ?_, hk5.rf, hE.2.2.2.2.2.1, mk5.rf, hR, h13, rfl, h75, rfl, rfl, rfl, rfl⟩
    · obtain ⟨q, rfl⟩ : ∃ k, q = k + 1 := ⟨q - 1, by omega⟩
      unfold f_X1_attempt_L110
      rw [cmpI_ok (by omega), if_neg (by omega)]
    · obtain ⟨q, rfl⟩ : ∃ k, q = k + 1 := ⟨q - 1, by omega⟩
      unfold f_X12_reckons_L190
      rw [lt1_k, h75, cmpI_ok (by omega), if_neg (by omega)]
  | succ i ih =>
    intro j t m b4 h1 hE hG hP h75 hR h13 hmx
    obtain ⟨p1, p2, p3, p4, p5⟩ := hP j (by omega)
    have h64 := hE.n64
    obtain ⟨F, hF⟩ := Int.eq_ofNat_of_zero_le p4
    rw [hF] at p3 p5
    obtain ⟨f, f1, f2, f3, f4, f5, f6⟩ := hG.2 F p5
    have hF100 : F < 100 := by have := hG.1.2.2; omega
    obtain ⟨k, hO, hfo, hff⟩ := hE.fo f3
    have hf40 := hO.1
    generalize hv : m.2 73 j = v at p1 p2
    -- the model's loop, one turn
    have hmod : ∀ q : Nat, f_X12_reckons_L190 N (rK1 N) (rK2 N) (rK3 N) (rK4 N) (q + 1) b4 j m = (if v = 0 then rK1 N m else if v &&& b4 = 0 then bdI (f_X12_parted N v f m) fun v56 t55 => cmpI v56 1 (if v56 = 1 then (ixI (j : Int) 4 (lt1 (t55.2 73 j) fun v57 => ixI (j : Int) 4 (lt1 (t55.1 74 j) fun v58 => bdV (f_X12_moves N v57 f v58 t55) fun t59 => f_X12_reckons_L190 N (rK1 N) (rK2 N) (rK3 N) (rK4 N) q (b4 ||| v) ((j + 1 : Nat) : Int) t59))) else (rK3 N j v56 t55)) else rK2 N b4 j m) := by
      intro q
      conv => lhs; unfold f_X12_reckons_L190
      simp only [lt1_k, Int.toNat_natCast, hv, hF, f1]
      rw [h75, cmpI_ok (by omega), if_pos (by omega), ixI_ok (by omega), ixI_ok (by omega), ixI_ok (by omega), ixI_ok (by omega), ixI_ok (by omega), ixI_ok (by omega), show ((j : Int) + 1) = ((j + 1 : Nat) : Int) by omega]
    have hhal : ∀ (K : St → Option (Int × St)) (q : Nat), f_X1_attempt_L110 N o K p (q + 1) b4 j t = bdI (f_X1_move N o F v b4 t) fun v30 t29 => cmpI v30 0 (if v30 = 0 then some (t29.1 304 14, t29) else ixI (j : Int) 4 (ixI (j : Int) 4 (ixI (t29.1 372 j) 100 (cmpI (t29.1 304 13) (t29.1 355 (t29.1 372 j).toNat) (f_X1_attempt_L110 N o K p q (b4 ||| t29.2 371 j) ((j + 1 : Nat) : Int) (pI t29 304 13 (max (t29.1 304 13) (t29.1 355 (t29.1 372 j).toNat)))))))) := by
      intro K q
      conv => lhs; unfold f_X1_attempt_L110
      simp only [lt1_k, Int.toNat_natCast, p1, p3]
      rw [cmpI_ok (by omega), if_pos (by omega), ixI_ok (by omega), ixI_ok (by omega), show ((j : Int) + 1) = ((j + 1 : Nat) : Int) by omega]
    by_cases hv0 : v = 0
    · -- nobody
      left
      refine ⟨1, _, _, Or.inl rfl, fun K q hq => ?_, fun q hq => ?_, bl_k5, hE.2.2.2.2.2.1.k5 bl_c5, fl_k5, blm_of (a := 1) (b := -1) (c := -1) ⟨by decide, by decide⟩ ⟨by decide, by decide⟩, ?_, ?_⟩
      · obtain ⟨q, rfl⟩ : ∃ k, q = k + 1 := ⟨q - 1, by omega⟩
        rw [hhal]
        unfold f_X1_move
        rw [if_pos hv0, h_blame ⟨by decide, by decide⟩, bdI_s, if_neg (by decide), boI_0, bdI_s, cmpI_ok (by omega), if_pos rfl, pI_nf (by decide), pI_nf (by decide), pI_at]
      · obtain ⟨q, rfl⟩ : ∃ k, q = k + 1 := ⟨q - 1, by omega⟩
        rw [hmod, if_pos hv0]
        unfold rK1
        rw [s_fails, bdI_s, boI_0]
      · rw [pI_ne (by decide), pI_ne (by decide), pI_ne (by decide)]
      · rw [pI_nf (by decide), pI_nf (by decide), pI_nf (by decide)]
    by_cases hv1 : v &&& b4 = 0
    · -- parted?
      obtain ⟨ra, rb, t1, m1, q1, q2, q3, q4, q5⟩ := p_part (N := N) (o := o) (all := v) hE.1 hE.2.1 hE.2.2.1 hO hfo p2 (by omega)
      have ht1 : hk5 t t1 := q3.hfr.k5
      have hC1 : CIk t1 := hE.2.2.2.2.2.1.fp q3
      have hm1 : mk5 m m1 := q4.m4.m5
      have hE1 : EVr o t1 m1 n := hE.fr q3.hfr hC1 q4.m4
      have h378 : t1.1 378 = t.1 378 := q3.1 378 (by decide) (by decide) (by decide)
      have h304 : t1.1 304 = t.1 304 := q3.1 304 (by decide) (by decide) (by decide)
      have mv73 : m1.2 = m.2 := q4.2.2
      have mv74 : m1.1 74 = m.1 74 := q4.1 74 (by decide) (by decide) (by decide) (by decide) (by decide)
      rcases q5 with h9 | h9 | h9
      · -- 3
        left
        obtain ⟨x, fx1, fx2, fx3, fx4⟩ := fo9_some (m := m) (n := n) hv0 p2
        have hfd : f_X3_firstDancerOf N o v t1 = some ((odM m n x : Int), t1) := by
          unfold f_X3_firstDancerOf
          have := h_firstOf (N := N) (o := o) (t := t1) (M := m) (n := n) (s := v) (j := 0) h64 (by rw [q3.hfr.1 (305 + o) (by have := hE.1; omega) (by have := hE.1; omega) (by have := hE.1; omega) (by have := hE.1; omega) (by have := hE.1; omega)]; exact hE.2.1.2.1) (hE.2.2.1.fr q3.hfr hE.1) (by omega) (fun y hy => by omega) (by omega)
          rw [show ((0 : Nat) : Int) = 0 from rfl, fx1, if_neg (by omega)] at this
          rw [this, bdI_s, lt1_k, hE1.2.1.2.1, cmpI_ok (by omega), if_pos (by omega), ixI_ok (by omega), lt1_k, Int.toNat_natCast, (hE.2.2.1.fr q3.hfr hE.1) x fx2]
        have hxn := (odM_lt (m := m) (n := n) (i := x) fx2).1
        obtain ⟨A, s1, s2⟩ := s_sort (N := N) (m := m1) rfl rfl hE1.2.1.1.1 hE1.2.1.1.2 (by omega)
        have hfo2 : f_X12_firstOf N v (pA m1 80 A) = some ((odM m n x : Int), pA m1 80 A) := by
          refine s_firstOf (M := m) h64 (fun y hy => ?_) fx2 fx3 fx4 (by omega)
          rw [pA_at, s2 y hy, q4.1 38 (by decide) (by decide) (by decide) (by decide) (by decide), q4.1 39 (by decide) (by decide) (by decide) (by decide) (by decide)]
          exact (odM_lt hy).2
        refine ⟨3, _, _, Or.inr (Or.inr (Or.inl rfl)), fun K q hq => ?_, fun q hq => ?_, ht1.tr bl_k5, hC1.k5 bl_c5, hm1.tr ((mfr.A (a := 80) (F := A) (by omega)).m4.m5.tr fl_k5), blm_of (a := 3) (b := (odM m n x : Int)) (c := -1) (by omega) ⟨by decide, by decide⟩, ?_, ?_⟩
        · obtain ⟨q, rfl⟩ : ∃ k, q = k + 1 := ⟨q - 1, by omega⟩
          rw [hhal]
          unfold f_X1_move
          rw [if_neg hv0, if_pos hv1, ixI_ok (by omega), lt1_k, Int.toNat_natCast, f2, q1, bdI_s, h9.1, cmpI_ok (by omega), if_neg (by decide), hfd, bdI_s, h_blame ⟨by decide, by decide⟩, bdI_s, if_neg (by decide), boI_0, bdI_s, cmpI_ok (by omega), if_pos rfl, pI_nf (by decide), pI_nf (by decide), pI_at]
        · obtain ⟨q, rfl⟩ : ∃ k, q = k + 1 := ⟨q - 1, by omega⟩
          rw [hmod, if_neg hv0, if_pos hv1, q2, bdI_s, h9.2, cmpI_ok (by omega), if_neg (by decide)]
          unfold rK3
          rw [s1, bdV_s]
          simp only [jn1_k, lt1_k, Int.toNat_natCast]
          have hv2 : (pA m1 80 A).2 73 j = v := by rw [pA_2, mv73, hv]
          rw [cmpI_ok (by omega), if_pos trivial, ixI_ok (by omega), hv2, hfo2, bdI_s, s_fails, bdI_s, boI_0]
        · rw [pI_ne (by decide), pI_ne (by decide), pI_ne (by decide), h378]
        · rw [pI_nf (by decide), pI_nf (by decide), pI_nf (by decide), h304]
      · -- 4
        left
        obtain ⟨x, fx1, fx2, fx3, fx4⟩ := fo9_some (m := m) (n := n) hv0 p2
        have hfd : f_X3_firstDancerOf N o v t1 = some ((odM m n x : Int), t1) := by
          unfold f_X3_firstDancerOf
          have := h_firstOf (N := N) (o := o) (t := t1) (M := m) (n := n) (s := v) (j := 0) h64 (by rw [q3.hfr.1 (305 + o) (by have := hE.1; omega) (by have := hE.1; omega) (by have := hE.1; omega) (by have := hE.1; omega) (by have := hE.1; omega)]; exact hE.2.1.2.1) (hE.2.2.1.fr q3.hfr hE.1) (by omega) (fun y hy => by omega) (by omega)
          rw [show ((0 : Nat) : Int) = 0 from rfl, fx1, if_neg (by omega)] at this
          rw [this, bdI_s, lt1_k, hE1.2.1.2.1, cmpI_ok (by omega), if_pos (by omega), ixI_ok (by omega), lt1_k, Int.toNat_natCast, (hE.2.2.1.fr q3.hfr hE.1) x fx2]
        have hxn := (odM_lt (m := m) (n := n) (i := x) fx2).1
        obtain ⟨A, s1, s2⟩ := s_sort (N := N) (m := m1) rfl rfl hE1.2.1.1.1 hE1.2.1.1.2 (by omega)
        have hfo2 : f_X12_firstOf N v (pA m1 80 A) = some ((odM m n x : Int), pA m1 80 A) := by
          refine s_firstOf (M := m) h64 (fun y hy => ?_) fx2 fx3 fx4 (by omega)
          rw [pA_at, s2 y hy, q4.1 38 (by decide) (by decide) (by decide) (by decide) (by decide), q4.1 39 (by decide) (by decide) (by decide) (by decide) (by decide)]
          exact (odM_lt hy).2
        refine ⟨4, _, _, Or.inr (Or.inr (Or.inr rfl)), fun K q hq => ?_, fun q hq => ?_, ht1.tr bl_k5, hC1.k5 bl_c5, hm1.tr ((mfr.A (a := 80) (F := A) (by omega)).m4.m5.tr fl_k5), blm_of (a := 4) (b := (odM m n x : Int)) (c := -1) (by omega) ⟨by decide, by decide⟩, ?_, ?_⟩
        · obtain ⟨q, rfl⟩ : ∃ k, q = k + 1 := ⟨q - 1, by omega⟩
          rw [hhal]
          unfold f_X1_move
          rw [if_neg hv0, if_pos hv1, ixI_ok (by omega), lt1_k, Int.toNat_natCast, f2, q1, bdI_s, h9.1, cmpI_ok (by omega), if_neg (by decide), hfd, bdI_s, h_blame ⟨by decide, by decide⟩, bdI_s, if_neg (by decide), boI_0, bdI_s, cmpI_ok (by omega), if_pos rfl, pI_nf (by decide), pI_nf (by decide), pI_at]
        · obtain ⟨q, rfl⟩ : ∃ k, q = k + 1 := ⟨q - 1, by omega⟩
          rw [hmod, if_neg hv0, if_pos hv1, q2, bdI_s, h9.2, cmpI_ok (by omega), if_neg (by decide)]
          unfold rK3
          rw [s1, bdV_s]
          simp only [jn1_k, lt1_k, Int.toNat_natCast]
          have hv2 : (pA m1 80 A).2 73 j = v := by rw [pA_2, mv73, hv]
          rw [cmpI_ok (by omega), if_neg (by decide), ixI_ok (by omega), hv2, hfo2, bdI_s, s_fails, bdI_s, boI_0]
        · rw [pI_ne (by decide), pI_ne (by decide), pI_ne (by decide), h378]
        · rw [pI_nf (by decide), pI_nf (by decide), pI_nf (by decide), h304]
      · -- all are parted: they move
        obtain ⟨r1, r2, pp, fs, r3, r4, r5, r6, r7⟩ := h9
        have hTO : TOr t1 m1 F k := by
          refine ⟨hF100, fun x hx => ?_⟩
          have := f6 x (by rw [hO.2.1]; omega)
          rw [q3.1 357 (by decide) (by decide) (by decide), q3.1 358 (by decide) (by decide) (by decide), q3.1 359 (by decide) (by decide) (by decide), q4.1 26 (by decide) (by decide) (by decide) (by decide) (by decide), q4.1 27 (by decide) (by decide) (by decide) (by decide) (by decide), q4.1 28 (by decide) (by decide) (by decide) (by decide) (by decide)]
          exact this
        have hR1 : RMv t1 m1 n := hR.fr (q3.1 373 (by decide) (by decide) (by decide)) (q3.1 374 (by decide) (by decide) (by decide)) (q3.1 375 (by decide) (by decide) (by decide)) (q4.1 76 (by decide) (by decide) (by decide) (by decide) (by decide)) (q4.1 77 (by decide) (by decide) (by decide) (by decide) (by decide)) (q4.1 78 (by decide) (by decide) (by decide) (by decide) (by decide)) (q4.1 79 (by decide) (by decide) (by decide) (by decide) (by decide)) (q4.1 40 (by decide) (by decide) (by decide) (by decide) (by decide)) (q4.1 41 (by decide) (by decide) (by decide) (by decide) (by decide))
        obtain ⟨u, w, k1, k2, k3, k4, k5, k6, k7, k8⟩ := mv_copies (N := N) (o := o) (F := F) (all := v) hE.1 hO hE.2.1.1 (by omega) r3 pp 0 t1 m1 (by omega) (hE.2.1.fr q3.hfr hE.1) (hE.2.2.1.fr q3.hfr hE.1) (hfo.fr q3.hfr) hTO hm1 r6 r4 r5 (by rw [q3.1 354 (by decide) (by decide) (by decide)]; exact f2) hR1
        have hu5 : hk5 t u := ht1.tr k3.k5
        have hCu : CIk u := hC1.k5 k3.c5
        have hw5 : mk5 m w := hm1.tr k4
        have hw74 : w.1 74 = m.1 74 := by rw [k5, mv74]
        have hw24 : w.1 24 = m.1 24 := hw5.1 24 (by decide) (by decide) (by decide) (by decide) (by decide) (by decide) (by decide) (by decide) (by decide) (by decide)
        have hw75 : w.1 200 75 = p := by rw [k6, q4.2.1 75 (by decide) (by decide) (by decide) (by decide) (by decide)]; exact h75
        have hw2 : w.2 = m.2 := by rw [k7, mv73]
        have hu372 : u.1 372 = t.1 372 := by rw [k3.1 372 (by decide) (by decide) (by decide), q3.1 372 (by decide) (by decide) (by decide)]
        have hu371 : u.2 371 = t.2 371 := by rw [k3.2, q3.2.2 371 (by decide)]
        have hu304 : u.1 304 = t.1 304 := by rw [k3.1 304 (by decide) (by decide) (by decide), h304]
        have hu355 : u.1 355 F = m.1 24 F := by rw [k3.1 355 (by decide) (by decide) (by decide), q3.1 355 (by decide) (by decide) (by decide)]; exact f4.1
        have hmx2 : mxc m (j + 1) = max (mxc m j) (m.1 24 F) := by rw [mxc_s, hF, Int.toNat_natCast]
        have hmc := mxc_cong hw24 hw74
        have hu2 : hk5 u (pI u 304 13 (mxc m (j + 1))) := hk5.F (by omega)
        have hgo := ih (j + 1) (pI u 304 13 (mxc m (j + 1))) w (b4 ||| v) (by omega) (hE.k5 (hu5.tr hu2) (hCu.k5 ⟨fun a h1 _ => pI_ne h1, rfl⟩) hw5) (hG.k5 (hu5.tr hu2) hw5) (fun x hx => by
          have := hP x hx
          rw [pI_ne (by decide), hu372, hw74, show (pI u 304 13 (mxc m (j + 1))).2 371 x = u.2 371 x from rfl, hu371, hw2, hw5.2.1 15 (by decide) (by decide) (by decide) (by decide) (by decide) (by decide) (by decide) (by decide) (by decide) (by decide)]
          exact this) hw75 (k8.fr (pI_ne (by decide)) (pI_ne (by decide)) (pI_ne (by decide)) rfl rfl rfl rfl rfl rfl) (by rw [pI_at, hmc]) (by rw [hmc, hmx2]; omega)
        have hstepH : ∀ (K : St → Option (Int × St)) (q : Nat), f_X1_attempt_L110 N o K p (q + 1) b4 j t = f_X1_attempt_L110 N o K p q (b4 ||| v) ((j + 1 : Nat) : Int) (pI u 304 13 (mxc m (j + 1))) := by
          intro K q
          rw [hhal]
          unfold f_X1_move
          rw [if_neg hv0, if_pos hv1, ixI_ok (by omega), lt1_k, Int.toNat_natCast, f2, q1, bdI_s, r1, cmpI_ok (by omega), if_pos rfl, show (0 : Int) = ((0 : Nat) : Int) from rfl, k1 _ N (by omega), boI_1, bdI_s, cmpI_ok (by omega), if_neg (by decide)]
          rw [ixI_ok (by omega), ixI_ok (by omega), hu372, p3, ixI_ok (by omega), Int.toNat_natCast, hu355, hu304, h13, cmpI_ok (by omega), hu371, p1, hmx2]
        have hstepM : ∀ q : Nat, f_X12_reckons_L190 N (rK1 N) (rK2 N) (rK3 N) (rK4 N) (q + 1) b4 j m = f_X12_reckons_L190 N (rK1 N) (rK2 N) (rK3 N) (rK4 N) q (b4 ||| v) ((j + 1 : Nat) : Int) w := by
          intro q
          rw [hmod, if_neg hv0, if_pos hv1, q2, bdI_s, r2, cmpI_ok (by omega), if_pos rfl, ixI_ok (by omega), lt1_k, ixI_ok (by omega), lt1_k, mv73, hv, mv74, hF]
          have : f_X12_moves N v f F m1 = some w := by
            unfold f_X12_moves
            have := k2 (fun t46 => some t46) N (by omega)
            rw [r6.1, show ((0 : Nat) : Int) = 0 from rfl] at this
            exact this
          rw [this, bdV_s]
        have g378 : (pI u 304 13 (mxc m (j + 1))).1 378 = t.1 378 := by rw [pI_ne (by decide), k3.1 378 (by decide) (by decide) (by decide), h378]
        have g11 : (pI u 304 13 (mxc m (j + 1))).1 304 11 = t.1 304 11 := by rw [pI_nf (by decide), hu304]
        have g12 : (pI u 304 13 (mxc m (j + 1))).1 304 12 = t.1 304 12 := by rw [pI_nf (by decide), hu304]
        have g376 : (pI u 304 13 (mxc m (j + 1))).1 376 = t.1 376 := by rw [pI_ne (by decide), k3.1 376 (by decide) (by decide) (by decide), q3.1 376 (by decide) (by decide) (by decide)]
        rcases hgo with ⟨r, u3, w3, y1, y2, y3, y4, y5, y6, y7, y8, y9⟩ | ⟨u3, w3, y1, y2, y3, y4, y5, y6, y7, y8, y9, y10, y11, y12, y13⟩
        · left
          refine ⟨r, u3, w3, y1, fun K q hq => ?_, fun q hq => ?_, (hu5.tr hu2).tr y4, y5, hw5.tr y6, y7, y8.trans g378, y9.trans g11⟩
          · obtain ⟨q, rfl⟩ : ∃ k, q = k + 1 := ⟨q - 1, by omega⟩
            rw [hstepH]; exact y2 K q (by omega)
          · obtain ⟨q, rfl⟩ : ∃ k, q = k + 1 := ⟨q - 1, by omega⟩
            rw [hstepM]; exact y3 q (by omega)
        · right
          refine ⟨u3, w3, fun K q hq => ?_, fun q hq => ?_, (hu5.tr hu2).tr y3, y4, hw5.tr y5, y6, y7, y8.trans hw74, y9, y10.trans g378, y11.trans g11, y12.trans g12, y13.trans g376⟩
          · obtain ⟨q, rfl⟩ : ∃ k, q = k + 1 := ⟨q - 1, by omega⟩
            rw [hstepH]; exact y1 K q (by omega)
          · obtain ⟨q, rfl⟩ : ∃ k, q = k + 1 := ⟨q - 1, by omega⟩
            rw [hstepM]; exact y2 q (by omega)
    · -- one whom an earlier one means
      left
      obtain ⟨x, x1, x2, x3⟩ := least_both (N := N) (n := n) (s := v &&& b4) (t := t) (m := m) h64 hv1 (fun e he hb => by rw [bq_and, Bool.and_eq_true] at hb; exact p2 e he hb.1) (by omega)
      refine ⟨2, _, _, Or.inr (Or.inl rfl), fun K q hq => ?_, fun q hq => ?_, bl_k5, hE.2.2.2.2.2.1.k5 bl_c5, fl_k5, blm_of (a := 2) (b := (x : Int)) (c := -1) (by omega) ⟨by decide, by decide⟩, ?_, ?_⟩
      · obtain ⟨q, rfl⟩ : ∃ k, q = k + 1 := ⟨q - 1, by omega⟩
        rw [hhal]
        unfold f_X1_move
        rw [if_neg hv0, if_neg hv1, lt1_k, hE.2.1.2.1, x2, bdI_s, h_blame ⟨by decide, by decide⟩, bdI_s, if_neg (by decide), boI_0, bdI_s, cmpI_ok (by omega), if_pos rfl, pI_nf (by decide), pI_nf (by decide), pI_at]
      · obtain ⟨q, rfl⟩ : ∃ k, q = k + 1 := ⟨q - 1, by omega⟩
        rw [hmod, if_neg hv0, if_neg hv1]
        unfold rK2
        rw [ixI_ok (by omega), lt1_k, Int.toNat_natCast, hv, x3, bdI_s, s_fails, bdI_s, boI_0]
      · rw [pI_ne (by decide), pI_ne (by decide), pI_ne (by decide)]
      · rw [pI_nf (by decide), pI_nf (by decide), pI_nf (by decide)]
