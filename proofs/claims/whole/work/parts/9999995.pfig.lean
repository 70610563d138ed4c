/-! reading in lock step: the goals of a figure -/
def GHh (G : Nat) (t u : St) : Prop := (∀ x y : Nat, x ≠ 303 → (x ≠ 302 ∨ y ≠ 19) → ((x < 357 ∨ 359 < x) ∨ y < 8 * G) → u.1 x y = t.1 x y) ∧ u.2 = t.2
def GHm (G : Nat) (m v : St) : Prop := (∀ x y : Nat, (x ≠ 200 ∨ ((y < 2 ∨ 6 < y) ∧ y ≠ 8 ∧ (y < 110 ∨ 113 < y))) → ((x < 26 ∨ 28 < x) ∨ y < 8 * G) → v.1 x y = m.1 x y) ∧ v.2 = m.2
theorem GHh.tr {G : Nat} {t u v : St} (h : GHh G t u) (g : GHh G u v) : GHh G t v := ⟨fun x y z1 z2 z3 => (g.1 x y z1 z2 z3).trans (h.1 x y z1 z2 z3), g.2.trans h.2⟩
theorem GHm.tr {G : Nat} {t u v : St} (h : GHm G t u) (g : GHm G u v) : GHm G t v := ⟨fun x y z1 z2 => (g.1 x y z1 z2).trans (h.1 x y z1 z2), g.2.trans h.2⟩
theorem GHh.h {G : Nat} {t u : St} (h : H0 t u) : GHh G t u := ⟨fun x y z1 z2 _ => h.1 x y z1 z2, h.2⟩
theorem GHm.h {G : Nat} {t u : St} (h : M0 t u) : GHm G t u := ⟨fun x y z1 _ => h.1 x y z1, h.2⟩
theorem GHh.s {G k q : Nat} {t : St} {v : Int} (h : 357 ≤ k ∧ k ≤ 359 ∧ 8 * G ≤ q) : GHh G t (pI t k q v) := ⟨fun x y _ _ _ => pI_of (by omega), rfl⟩
theorem GHm.s {G k q : Nat} {t : St} {v : Int} (h : 26 ≤ k ∧ k ≤ 28 ∧ 8 * G ≤ q) : GHm G t (pI t k q v) := ⟨fun x y _ _ => pI_of (by omega), rfl⟩
section
variable {N : Nat} {B : Nat → Int} {e mm i G k q : Nat} {t m t0 m0 : St}
theorem PR.g {l r : Nat} {x y : Int} (h : PR t m B e mm 0 i) (hk : 354 ≤ k ∧ k ≤ 359) (hl : 23 ≤ l ∧ l ≤ 28) : PR (pI t k q x) (pI m l r y) B e mm 0 i :=
  h.mv (k2 := 0) (TKs.mv h.1 (by rw [pI_ne (by omega)]) (fun z hz => pI_ne (by omega)) rfl) (fun b _ => by rw [pI_ne (by omega)]) (by rw [pI_ne (by omega)]) (fun b _ _ _ _ _ _ => by rw [pI_ne (by omega)]) (by rw [pI_ne (by omega)]) (by rw [pI_ne (by omega)]; exact h.2.2.2.2.2.2.2.1.1) (by rw [pI_ne (by omega)]; exact h.2.2.2.2.2.2.2.1.2)
/-- the model's goal -/
def gl3 (N : Nat) (q : Int) (K : St → Option (Int × St)) (m : St) : Option (Int × St) :=
    bdI (f_X12_number N (-32) 32 m) fun v45 t44 =>
    cmpI v45 0 (if v45 = 0 then (boI 0 (some (0, t44)))
    else (lt1 (t44.1 200 110) fun v46 =>
    ixI q 800 (lt1 (pI t44 26 q.toNat v46) fun t47 =>
    bdI (f_X12_number N (-32) 32 t47) fun v49 t48 =>
    cmpI v49 0 (if v49 = 0 then (boI 0 (some (0, t48)))
    else (lt1 (t48.1 200 110) fun v50 =>
    ixI q 800 (lt1 (pI t48 27 q.toNat v50) fun t51 =>
    bdI (f_X12_number N (-8) 8 t51) fun v53 t52 =>
    cmpI v53 0 (if v53 = 0 then (boI 0 (some (0, t52)))
    else (lt1 (t52.1 200 110) fun v54 =>
    ixI q 800 (lt1 (pI t52 28 q.toNat v54) fun t55 => K t55)))))))))
theorem goal_one (hN : 5000 ≤ N) (h : PR t m B e mm 0 i) (hq : 8 * G ≤ q) (hq2 : q < 800) (K : St → Option (Int × St)) (g1 : GHh G t0 t) (g2 : GHm G m0 m) :
    (∃ u v : St, f_X7_readGoal N q t = some (0, u) ∧ gl3 N q K m = some (0, v) ∧ FR u v B e mm ∧ GHh G t0 u ∧ GHm G m0 v) ∨
    ∃ (u v : St) (i2 : Nat), f_X7_readGoal N q t = some (1, u) ∧ gl3 N q K m = K v ∧ i < i2 ∧ PR u v B e mm 0 i2 ∧ ((u.1 357 q = v.1 26 q ∧ -32 ≤ v.1 26 q ∧ v.1 26 q ≤ 32) ∧ (u.1 358 q = v.1 27 q ∧ -32 ≤ v.1 27 q ∧ v.1 27 q ≤ 32) ∧ (u.1 359 q = v.1 28 q ∧ -8 ≤ v.1 28 q ∧ v.1 28 q ≤ 8)) ∧ GHh G t0 u ∧ GHm G m0 v ∧ (∀ x y : Nat, 357 ≤ x → x ≤ 359 → y ≠ q → u.1 x y = t.1 x y) ∧ (∀ x y : Nat, 26 ≤ x → x ≤ 28 → y ≠ q → v.1 x y = m.1 x y) := by
  unfold f_X7_readGoal gl3
  simp only [lt1_k]
  rcases s0_num (N := N) (lo := -32) (hi := 32) h (by omega) (by omega) hN with ⟨u, v, p1, p2, p3, p4, p5⟩ | ⟨u, v, p1, p2, X, p3, p4, p5, p6, p7, p8⟩
  · left
    exact ⟨u, v, by rw [p1, bdI_s, cmpI_ok (by omega), if_pos rfl, boI_0], by rw [p2, bdI_s, cmpI_ok (by omega), if_pos rfl, boI_0], p3, g1.tr (GHh.h p4), g2.tr (GHm.h p5)⟩
  · rw [p1, bdI_s, cmpI_ok (by omega), if_neg (by decide), p2, bdI_s, cmpI_ok (by omega), if_neg (by decide), ixI_ok (by omega), ixI_ok (by omega), Int.toNat_natCast, p4, p5]
    have G1 : GHh G t0 (pI u 357 q X) := (g1.tr (GHh.h p7)).tr (GHh.s (by omega))
    have G2 : GHm G m0 (pI v 26 q X) := (g2.tr (GHm.h p8)).tr (GHm.s (by omega))
    rcases s0_num (N := N) (lo := -32) (hi := 32) (p6.g (k := 357) (q := q) (x := X) (l := 26) (r := q) (y := X) (by omega) (by omega)) (by omega) (by omega) hN with ⟨u2, v2, r1, r2, r3, r4, r5⟩ | ⟨u2, v2, r1, r2, Y, r3, r4, r5, r6, r7, r8⟩
    · left
      exact ⟨u2, v2, by rw [r1, bdI_s, cmpI_ok (by omega), if_pos rfl, boI_0], by rw [r2, bdI_s, cmpI_ok (by omega), if_pos rfl, boI_0], r3, G1.tr (GHh.h r4), G2.tr (GHm.h r5)⟩
    · rw [r1, bdI_s, cmpI_ok (by omega), if_neg (by decide), r2, bdI_s, cmpI_ok (by omega), if_neg (by decide), ixI_ok (by omega), ixI_ok (by omega), r4, r5]
      have G3 : GHh G t0 (pI u2 358 q Y) := (G1.tr (GHh.h r7)).tr (GHh.s (by omega))
      have G4 : GHm G m0 (pI v2 27 q Y) := (G2.tr (GHm.h r8)).tr (GHm.s (by omega))
      rcases s0_num (N := N) (lo := -8) (hi := 8) (r6.g (k := 358) (q := q) (x := Y) (l := 27) (r := q) (y := Y) (by omega) (by omega)) (by omega) (by omega) hN with ⟨u3, v3, s1, s2, s3, s4, s5⟩ | ⟨u3, v3, s1, s2, Z, s3, s4, s5, s6, s7, s8⟩
      · left
        exact ⟨u3, v3, by rw [s1, bdI_s, cmpI_ok (by omega), if_pos rfl, boI_0], by rw [s2, bdI_s, cmpI_ok (by omega), if_pos rfl, boI_0], s3, G3.tr (GHh.h s4), G4.tr (GHm.h s5)⟩
      · rw [s1, bdI_s, cmpI_ok (by omega), if_neg (by decide), s2, bdI_s, cmpI_ok (by omega), if_neg (by decide), ixI_ok (by omega), ixI_ok (by omega), s4, s5, boI_1]
        right
        refine ⟨_, _, i + 1 + 1 + 1, rfl, rfl, by omega, s6.g (by omega) (by omega), ⟨?_, ?_, ?_⟩, (G3.tr (GHh.h s7)).tr (GHh.s (by omega)), (G4.tr (GHm.h s8)).tr (GHm.s (by omega)), fun x y z1 z2 z3 => ?_, fun x y z1 z2 z3 => ?_⟩
        · rw [pI_ne (by decide), s7.1 357 q (by omega) (by omega), pI_ne (by decide), r7.1 357 q (by omega) (by omega), pI_at, pI_ne (by decide), s8.1 26 q (by omega), pI_ne (by decide), r8.1 26 q (by omega), pI_at]
          exact ⟨rfl, p3⟩
        · rw [pI_ne (by decide), s7.1 358 q (by omega) (by omega), pI_at, pI_ne (by decide), s8.1 27 q (by omega), pI_at]
          exact ⟨rfl, r3⟩
        · rw [pI_at, pI_at]
          exact ⟨rfl, s3⟩
        · rw [pI_of (Or.inr z3), s7.1 x y (by omega) (by omega), pI_of (Or.inr z3), r7.1 x y (by omega) (by omega), pI_of (Or.inr z3), p7.1 x y (by omega) (by omega)]
        · rw [pI_of (Or.inr z3), s8.1 x y (by omega), pI_of (Or.inr z3), r8.1 x y (by omega), pI_of (Or.inr z3), p8.1 x y (by omega)]
/-- goals that were read -/
def GLr (G n : Nat) (t m : St) : Prop := ∀ j, j < n → (t.1 357 (8 * G + j) = m.1 26 (8 * G + j) ∧ -32 ≤ m.1 26 (8 * G + j) ∧ m.1 26 (8 * G + j) ≤ 32) ∧ (t.1 358 (8 * G + j) = m.1 27 (8 * G + j) ∧ -32 ≤ m.1 27 (8 * G + j) ∧ m.1 27 (8 * G + j) ≤ 32) ∧ (t.1 359 (8 * G + j) = m.1 28 (8 * G + j) ∧ -8 ≤ m.1 28 (8 * G + j) ∧ m.1 28 (8 * G + j) ≤ 8)
theorem GLr.cg {n : Nat} {u v : St} (h : GLr G n t m) (g1 : ∀ x y : Nat, 357 ≤ x → x ≤ 359 → y < 8 * G + n → u.1 x y = t.1 x y) (g2 : ∀ x y : Nat, 26 ≤ x → x ≤ 28 → y < 8 * G + n → v.1 x y = m.1 x y) : GLr G n u v := fun j hj => by
  rw [g1 357 (8 * G + j) (by omega) (by omega) (by omega), g1 358 (8 * G + j) (by omega) (by omega) (by omega), g1 359 (8 * G + j) (by omega) (by omega) (by omega), g2 26 (8 * G + j) (by omega) (by omega) (by omega), g2 27 (8 * G + j) (by omega) (by omega) (by omega), g2 28 (8 * G + j) (by omega) (by omega) (by omega)]
  exact h j hj
abbrev Kw6 (N : Nat) : St → Option (Int × St) := fun (t14 : St) => bdI (f_X7_wrong N 6 t14) fun v16 t15 => boI v16 (some (v16, t15))
abbrev Kg6 (N : Nat) : St → Option (Int × St) := fun (t17 : St) => lt1 (t17.1 303 3) fun v18 =>
    cmpI v18 44 (if v18 = 44 then (bdI (f_X7_wrong N 6 t17) fun v22 t21 =>
    boI v22 (some (v22, t21)))
    else (bdI (f_X7_take N 45 t17) fun v20 t19 =>
    boI v20 (some (v20, t19))))
abbrev Kmw (N : Nat) (w : Int) : St → Option (Int × St) := fun (t67 : St) => bdI (f_X12_wrong N w t67) fun v69 t68 => boI v69 (some (v69, t68))
theorem Kg6_k : Kg6 N t = lt1 (t.1 303 3) fun v18 =>
    cmpI v18 44 (if v18 = 44 then (bdI (f_X7_wrong N 6 t) fun v22 t21 =>
    boI v22 (some (v22, t21)))
    else (bdI (f_X7_take N 45 t) fun v20 t19 =>
    boI v20 (some (v20, t19)))) := rfl
theorem Kw6_s : Kw6 N t = some (0, pI t 303 5 6) := by
  show (bdI (f_X7_wrong N 6 t) fun v16 t15 => boI v16 (some (v16, t15))) = _
  rw [c_wrong, bdI_s, boI_0]
theorem Kmw_s {w : Int} : Kmw N w t = some (0, pI t 200 8 w) := by
  show (bdI (f_X12_wrong N w t) fun v16 t15 => boI v16 (some (v16, t15))) = _
  rw [s_wrong, bdI_s, boI_0]
def rst (N : Nat) (K39 K40 K41 : St → Option (Int × St)) (L : Int → St → Option (Int × St)) (y35 x36 : Int) (t55 : St) : Option (Int × St) :=
    bdI (f_X12_isSign N 44 t55) fun v57 t56 =>
    jn1 (fun (t58 : St) => jn1 (fun (t60 : St) => jn1 (fun (t62 : St) => bdV (f_X12_next N t62) fun t64 =>
    L v57 t64) fun J63 =>
    cmpI v57 0 (if v57 = 0 then (cmpI (x36 + 1) y35 (if (x36 + 1) < y35 then (K41 t60)
    else (J63 t60)))
    else (J63 t60))) fun J61 =>
    cmpI v57 0 (if v57 = 0 then (bdI (f_X12_isSign N 59 t58) fun v66 t65 =>
    cmpI v66 0 (if v66 = 0 then (K40 t65)
    else (J61 t65)))
    else (J61 t58))) fun J59 =>
    cmpI v57 0 (if v57 = 0 then (J59 t56)
    else (cmpI (x36 + 1) y35 (if (x36 + 1) = y35 then (K39 t56)
    else (J59 t56))))
theorem rst_k {K39 K40 K41 : St → Option (Int × St)} {L : Int → St → Option (Int × St)} {w y x : Int} (hq : TQk t m w) (hy : inR y ∧ inR (x + 1)) : rst N K39 K40 K41 L y x m = if w = 44 then (if x + 1 = y then K39 m else bdV (f_X12_next N m) fun t64 => L 1 t64) else if w = 45 then (if x + 1 < y then K41 m else bdV (f_X12_next N m) fun t64 => L 0 t64) else K40 m := by
  unfold rst
  simp only [jn1_k]
  rw [k_isSign hq (by unfold isSg; omega), bdI_s, show (40 : Int) + sgi 44 = 44 from rfl]
  by_cases w44 : w = 44
  · rw [if_pos w44, if_pos w44, cmpI_ok (a := 1) (b := 0) (by omega), if_neg (show ¬ (1 : Int) = 0 by decide), cmpI_ok (a := x + 1) (b := y) ⟨hy.2, hy.1⟩]
    by_cases hx : x + 1 = y
    · rw [if_pos hx, if_pos hx]
    · rw [if_neg hx, if_neg hx, cmpI_ok (a := 1) (b := 0) (by omega), if_neg (show ¬ (1 : Int) = 0 by decide), cmpI_ok (a := 1) (b := 0) (by omega), if_neg (show ¬ (1 : Int) = 0 by decide)]
  · rw [if_neg w44, if_neg w44, cmpI_ok (a := 0) (b := 0) (by omega), if_pos (show (0 : Int) = 0 from rfl), cmpI_ok (a := 0) (b := 0) (by omega), if_pos (show (0 : Int) = 0 from rfl), k_isSign hq (by unfold isSg; omega), bdI_s, show (40 : Int) + sgi 59 = 45 from rfl]
    by_cases w45 : w = 45
    · rw [if_pos w45, if_pos w45, cmpI_ok (a := 1) (b := 0) (by omega), if_neg (show ¬ (1 : Int) = 0 by decide), cmpI_ok (a := 0) (b := 0) (by omega), if_pos (show (0 : Int) = 0 from rfl), cmpI_ok (a := x + 1) (b := y) ⟨hy.2, hy.1⟩]
    · rw [if_neg w45, if_neg w45, cmpI_ok (a := 0) (b := 0) (by omega), if_pos (show (0 : Int) = 0 from rfl)]
theorem take_k {w j : Int} (hq : TQk t m w) (hj : inR j) : f_X7_take N j t = if w = j then (bdI (f_X7_pass N t) fun v3 t2 => boI v3 (some (v3, t2))) else (bdI (f_X7_wrong N 1 t) fun v3 t2 => boI v3 (some (v3, t2))) := by
  have hr := hq.rng
  unfold f_X7_take
  rw [lt1_k, hq.1, cmpI_ok (by omega)]
theorem fig_lp (hN : 5000 ≤ N) (hG : G < 100) (hk8 : k ≤ 8) (K42 : St → Option (Int × St)) : ∀ (d x q r i : Nat) (t m : St), x + d + 1 = k → d + 1 < q → d + 2 < r → PR t m B e mm 0 i → m.1 200 15 = G → GLr G x t m → GHh G t0 t → GHm G m0 m →
    (∃ u v : St, (bdI (f_X7_readGoal N (((G : Int) * 8) + x) t) fun v10 t9 => cmpI v10 0 (if v10 = 0 then (boI 0 (some (0, t9))) else (f_X7_readGoals_L2 N (Kw6 N) (Kg6 N) G k q ((x : Int) + 1) t9))) = some (0, u) ∧ f_X12_figure_L169 N (Kmw N 6) (Kmw N 1) (Kmw N 6) K42 k r x 1 m = some (0, v) ∧ FR u v B e mm ∧ GHh G t0 u ∧ GHm G m0 v) ∨
    ∃ (u v : St) (i2 : Nat), (bdI (f_X7_readGoal N (((G : Int) * 8) + x) t) fun v10 t9 => cmpI v10 0 (if v10 = 0 then (boI 0 (some (0, t9))) else (f_X7_readGoals_L2 N (Kw6 N) (Kg6 N) G k q ((x : Int) + 1) t9))) = some (1, u) ∧ f_X12_figure_L169 N (Kmw N 6) (Kmw N 1) (Kmw N 6) K42 k r x 1 m = K42 v ∧ i < i2 ∧ PR u v B e mm 0 i2 ∧ GLr G k u v ∧ GHh G t0 u ∧ GHm G m0 v := by
  intro d
  induction d with
  | zero =>
    intro x q r i t m z1 z2 z3 h h15 hL g1 g2
    obtain ⟨q, rfl⟩ : ∃ k, q = k + 1 := ⟨q - 1, by omega⟩
    obtain ⟨r, rfl⟩ : ∃ k, r = k + 1 + 1 := ⟨r - 2, by omega⟩
    have hM : f_X12_figure_L169 N (Kmw N 6) (Kmw N 1) (Kmw N 6) K42 k (r + 1 + 1) x 1 m = gl3 N ((8 * G + x : Nat) : Int) (rst N (Kmw N 6) (Kmw N 1) (Kmw N 6) (fun v57 t64 => f_X12_figure_L169 N (Kmw N 6) (Kmw N 1) (Kmw N 6) K42 k (r + 1) ((x : Int) + 1) v57 t64) k x) m := by
      conv => lhs; unfold f_X12_figure_L169
      rw [cmpI_ok (by omega), if_neg (by decide), lt1_k, h15, show (8 * (G : Int) + (x : Int)) = ((8 * G + x : Nat) : Int) by omega]
      rfl
    rw [hM, show (G : Int) * 8 + (x : Int) = ((8 * G + x : Nat) : Int) by omega]
    rcases goal_one (q := 8 * G + x) hN h (by omega) (by omega) (rst N (Kmw N 6) (Kmw N 1) (Kmw N 6) (fun v57 t64 => f_X12_figure_L169 N (Kmw N 6) (Kmw N 1) (Kmw N 6) K42 k (r + 1) ((x : Int) + 1) v57 t64) k x) g1 g2 with ⟨u, v, p1, p2, p3⟩ | ⟨u, v, i2, p1, p2, p3, p4, p5, p6, p7, p8, p9⟩
    · exact Or.inl ⟨u, v, by rw [p1, bdI_s, cmpI_ok (by omega), if_pos rfl, boI_0], p2, p3⟩
    · have hq := tq_of p4
      generalize hkw : cKd B e (ch B e i2) = w at hq
      have hr := hq.rng
      have hH : f_X7_readGoals_L2 N (Kw6 N) (Kg6 N) G k (q + 1) ((x : Int) + 1) u = if w = 44 then Kw6 N u else if w = 45 then (bdI (bdI (f_X7_pass N u) fun v3 t2 => boI v3 (some (v3, t2))) fun v20 t19 => boI v20 (some (v20, t19))) else (bdI (bdI (f_X7_wrong N 1 u) fun v3 t2 => boI v3 (some (v3, t2))) fun v20 t19 => boI v20 (some (v20, t19))) := by
        conv => lhs; unfold f_X7_readGoals_L2
        rw [cmpI_ok (by omega), if_neg (by omega), Kg6_k, lt1_k, hq.1, cmpI_ok (by omega), take_k hq (by omega)]
        by_cases w44 : w = 44
        · rw [if_pos w44, if_pos w44]
        · rw [if_neg w44, if_neg w44]
          by_cases w45 : w = 45
          · rw [if_pos w45, if_pos w45]
          · rw [if_neg w45, if_neg w45]
      rw [p1, bdI_s, cmpI_ok (by omega), if_neg (by decide), hH, p2, rst_k hq (by omega)]
      have hGk : GLr G k u v := fun j hj => by
        by_cases hjx : j = x
        · subst hjx; exact p5
        · have hh := GLr.cg (n := x) hL (fun a b q1 q2 q3 => p8 a b q1 q2 (by omega)) (fun a b q1 q2 q3 => p9 a b q1 q2 (by omega))
          exact hh j (by omega)
      by_cases w44 : w = 44
      · rw [if_pos w44, if_pos w44, if_pos (show (x : Int) + 1 = k by omega)]
        exact Or.inl ⟨_, _, Kw6_s, Kmw_s, FR_of p4 (by omega), p6.tr (GHh.h H0.p), p7.tr (GHm.h (M0.p (by omega)))⟩
      · rw [if_neg w44, if_neg w44]
        by_cases w45 : w = 45
        · rw [if_pos w45, if_pos w45, if_neg (show ¬ (x : Int) + 1 < k by omega)]
          obtain ⟨u2, v2, s1, s2, s3, s4, s5⟩ := nx0 (N := N) p4 (tq_lt p4 (by omega)) hN
          rw [s1, s2, bdI_s, boI_1, bdI_s, boI_1, bdV_s]
          right
          refine ⟨u2, v2, i2 + 1, rfl, ?_, by omega, s3, hGk.cg (fun a b q1 q2 q3 => s4.1 a b (by omega) (by omega)) (fun a b q1 q2 q3 => s5.1 a b (by omega)), p6.tr (GHh.h (H0.c s4)), p7.tr (GHm.h (M0.c s5))⟩
          conv => lhs; unfold f_X12_figure_L169
          rw [cmpI_ok (by omega), if_pos rfl]
        · rw [if_neg w45, if_neg w45, c_wrong, bdI_s, boI_0, bdI_s, boI_0, Kmw_s]
          exact Or.inl ⟨_, _, rfl, rfl, FR_of p4 (by omega), p6.tr (GHh.h H0.p), p7.tr (GHm.h (M0.p (by omega)))⟩
  | succ d ih =>
    intro x q r i t m z1 z2 z3 h h15 hL g1 g2
    obtain ⟨q, rfl⟩ : ∃ k, q = k + 1 := ⟨q - 1, by omega⟩
    obtain ⟨r, rfl⟩ : ∃ k, r = k + 1 := ⟨r - 1, by omega⟩
    have hM : f_X12_figure_L169 N (Kmw N 6) (Kmw N 1) (Kmw N 6) K42 k (r + 1) x 1 m = gl3 N ((8 * G + x : Nat) : Int) (rst N (Kmw N 6) (Kmw N 1) (Kmw N 6) (fun v57 t64 => f_X12_figure_L169 N (Kmw N 6) (Kmw N 1) (Kmw N 6) K42 k r ((x : Int) + 1) v57 t64) k x) m := by
      conv => lhs; unfold f_X12_figure_L169
      rw [cmpI_ok (by omega), if_neg (by decide), lt1_k, h15, show (8 * (G : Int) + (x : Int)) = ((8 * G + x : Nat) : Int) by omega]
      rfl
    rw [hM, show (G : Int) * 8 + (x : Int) = ((8 * G + x : Nat) : Int) by omega]
    rcases goal_one (q := 8 * G + x) hN h (by omega) (by omega) (rst N (Kmw N 6) (Kmw N 1) (Kmw N 6) (fun v57 t64 => f_X12_figure_L169 N (Kmw N 6) (Kmw N 1) (Kmw N 6) K42 k r ((x : Int) + 1) v57 t64) k x) g1 g2 with ⟨u, v, p1, p2, p3⟩ | ⟨u, v, i2, p1, p2, p3, p4, p5, p6, p7, p8, p9⟩
    · exact Or.inl ⟨u, v, by rw [p1, bdI_s, cmpI_ok (by omega), if_pos rfl, boI_0], p2, p3⟩
    · have hq := tq_of p4
      generalize hkw : cKd B e (ch B e i2) = w at hq
      have hr := hq.rng
      have hH : f_X7_readGoals_L2 N (Kw6 N) (Kg6 N) G k (q + 1) ((x : Int) + 1) u = if w = 45 then Kw6 N u else bdI (if w = 44 then (bdI (f_X7_pass N u) fun v3 t2 => boI v3 (some (v3, t2))) else (bdI (f_X7_wrong N 1 u) fun v3 t2 => boI v3 (some (v3, t2)))) fun v13 t12 => cmpI v13 0 (if v13 = 0 then (boI 0 (some (0, t12))) else (bdI (f_X7_readGoal N (((G : Int) * 8) + ((x : Int) + 1)) t12) fun v10 t9 => cmpI v10 0 (if v10 = 0 then (boI 0 (some (0, t9))) else (f_X7_readGoals_L2 N (Kw6 N) (Kg6 N) G k q (((x : Int) + 1) + 1) t9)))) := by
        conv => lhs; unfold f_X7_readGoals_L2
        simp only [jn1_k, lt1_k]
        rw [cmpI_ok (by omega), if_pos (show (x : Int) + 1 < k by omega), cmpI_ok (by omega), if_pos (show 0 < (x : Int) + 1 by omega), hq.1, cmpI_ok (by omega), take_k hq (by omega)]
      rw [p1, bdI_s, cmpI_ok (by omega), if_neg (by decide), hH, p2, rst_k hq (by omega)]
      have hGk : GLr G (x + 1) u v := fun j hj => by
        by_cases hjx : j = x
        · subst hjx; exact p5
        · have hh := GLr.cg (n := x) hL (fun a b q1 q2 q3 => p8 a b q1 q2 (by omega)) (fun a b q1 q2 q3 => p9 a b q1 q2 (by omega))
          exact hh j (by omega)
      have v15 : v.1 200 15 = G := by
        rw [p7.1 200 15 (by omega) (by omega), ← g2.1 200 15 (by omega) (by omega)]; exact h15
      by_cases w45 : w = 45
      · rw [if_pos w45, if_neg (show ¬ w = 44 by omega), if_pos w45, if_pos (show (x : Int) + 1 < k by omega)]
        exact Or.inl ⟨_, _, Kw6_s, Kmw_s, FR_of p4 (by omega), p6.tr (GHh.h H0.p), p7.tr (GHm.h (M0.p (by omega)))⟩
      · rw [if_neg w45, if_neg w45]
        by_cases w44 : w = 44
        · rw [if_pos w44, if_pos w44, if_neg (show ¬ (x : Int) + 1 = k by omega)]
          obtain ⟨u2, v2, s1, s2, s3, s4, s5⟩ := nx0 (N := N) p4 (tq_lt p4 (by omega)) hN
          rw [s1, s2, bdI_s, boI_1, bdI_s, cmpI_ok (by omega), if_neg (by decide), bdV_s]
          rcases ih (x + 1) q r (i2 + 1) u2 v2 (by omega) (by omega) (by omega) s3 (by rw [s5.1 200 15 (by omega)]; exact v15) (hGk.cg (fun a b q1 q2 q3 => s4.1 a b (by omega) (by omega)) (fun a b q1 q2 q3 => s5.1 a b (by omega))) (p6.tr (GHh.h (H0.c s4))) (p7.tr (GHm.h (M0.c s5))) with hl | ⟨u3, v3, i3, o1, o2, o3, o4⟩
          · exact Or.inl hl
          · exact Or.inr ⟨u3, v3, i3, o1, o2, by omega, o4⟩
        · rw [if_neg w44, if_neg w44, c_wrong, bdI_s, boI_0, bdI_s, cmpI_ok (by omega), if_pos rfl, boI_0, Kmw_s]
          exact Or.inl ⟨_, _, rfl, rfl, FR_of p4 (by omega), p6.tr (GHh.h H0.p), p7.tr (GHm.h (M0.p (by omega)))⟩
end
