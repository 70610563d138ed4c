/-! reading in lock step: a step -/
/-- what the figures of a stretch of tokens last -/
def fsL (T tk : Nat → Int) (c : Nat) : Nat → Int
  | 0 => 0
  | k + 1 => fsL T tk c k + (if 3000 ≤ tk (c + k) ∧ tk (c + k) < 4000 then T (tk (c + k) - 3000).toNat else 0)
theorem fsL_s {T tk : Nat → Int} {c k : Nat} : fsL T tk c (k + 1) = fsL T tk c k + (if 3000 ≤ tk (c + k) ∧ tk (c + k) < 4000 then T (tk (c + k) - 3000).toNat else 0) := rfl
theorem fsL_add {T tk : Nat → Int} {c k : Nat} : ∀ l, fsL T tk c (k + l) = fsL T tk c k + fsL T tk (c + k) l := by
  intro l
  induction l with
  | zero => show fsL T tk c k = fsL T tk c k + 0; omega
  | succ l ih => rw [← Nat.add_assoc, fsL_s, fsL_s, ih, Nat.add_assoc]; omega
theorem fsL_sp {T tk : Nat → Int} {c x d : Nat} (h1 : c ≤ x) (h2 : x ≤ d) : fsL T tk c (d - c) = fsL T tk c (x - c) + fsL T tk x (d - x) := by
  have := fsL_add (T := T) (tk := tk) (c := c) (k := x - c) (d - x)
  rw [show x - c + (d - x) = d - c by omega, show c + (x - c) = x by omega] at this
  exact this
theorem fsL_1 {T tk : Nat → Int} {c : Nat} : fsL T tk c (c + 1 - c) = if 3000 ≤ tk c ∧ tk c < 4000 then T (tk c - 3000).toNat else 0 := by
  rw [show c + 1 - c = 0 + 1 by omega, fsL_s, Nat.add_zero]
  show 0 + _ = _
  omega
theorem fsL_cong {T tk tk2 : Nat → Int} {c : Nat} : ∀ k, (∀ x, c ≤ x → x < c + k → tk x = tk2 x) → fsL T tk c k = fsL T tk2 c k := by
  intro k
  induction k with
  | zero => intro _; rfl
  | succ k ih => intro h; rw [fsL_s, fsL_s, ih (fun x h1 h2 => h x h1 (by omega)), h (c + k) (by omega) (by omega)]
theorem fsL_0 {T tk : Nat → Int} {c : Nat} : ∀ k, (∀ x, c ≤ x → x < c + k → WTk (tk x)) → fsL T tk c k = 0 := by
  intro k
  induction k with
  | zero => intro _; rfl
  | succ k ih =>
    intro h
    have := h (c + k) (by omega) (by omega)
    rw [fsL_s, ih (fun x h1 h2 => h x h1 (by omega)), if_neg (by unfold WTk at this; omega)]; rfl
theorem STq.cg {M : St} {H : Nat} {cd tk cd2 tk2 : Nat → Int} : ∀ {p a e c d : Nat}, STq M H cd tk p a e c d → (∀ x, a ≤ x → x < e → cd2 x = cd x) → (∀ x, c ≤ x → x < d → tk2 x = tk x) → STq M H cd2 tk2 p a e c d := by
  intro p
  induction p with
  | zero => intro a e c d h; exact h.elim
  | succ p ih =>
    intro a e c d h g1 g2
    have lf : ∀ a0 : Nat, LFc cd a0 → cd2 a0 = cd a0 → LFc cd2 a0 := fun a0 q e9 => by
      obtain ⟨kd, vl, q1, q2, q3, q4, q5⟩ := q
      exact ⟨kd, vl, q1, q2, q3, q4, by rw [e9]; exact q5⟩
    cases p with
    | zero =>
      obtain ⟨e1, d1, F, h1, h2, h3, h4, h5, h6, h7, h8⟩ := h
      have := h3.1
      have := h3.2.1
      exact ⟨e1, d1, F, h1, h2, WW_c _ _ _ _ _ _ _ _ h3 (fun x q1 q2 => g1 x q1 (by omega)) (fun x q1 q2 => g2 x q1 (by omega)), lf a h4 (g1 a (by omega) (by omega)), by rw [g1 e1 (by omega) (by omega)]; exact h5, by rw [g2 d1 (by omega) (by omega)]; exact h6, h7, fun x q1 q2 => by rw [g2 x q1 (by omega)]; exact h8 x q1 q2⟩
    | succ p =>
      obtain ⟨e0, d0, h0, h01, e1, d1, F, h1, h2, h3, h4, h5, h6, h7, h8⟩ := h
      have := h3.1
      have := h3.2.1
      have hl := STq.lt h0
      exact ⟨e0, d0, ih h0 (fun x q1 q2 => g1 x q1 (by omega)) (fun x q1 q2 => g2 x q1 (by omega)), by rw [g2 d0 (by omega) (by omega)]; exact h01, e1, d1, F, h1, h2, WW_c _ _ _ _ _ _ _ _ h3 (fun x q1 q2 => g1 x (by omega) (by omega)) (fun x q1 q2 => g2 x (by omega) (by omega)), lf e0 h4 (g1 e0 (by omega) (by omega)), by rw [g1 e1 (by omega) (by omega)]; exact h5, by rw [g2 d1 (by omega) (by omega)]; exact h6, h7, fun x q1 q2 => by rw [g2 x (by omega) (by omega)]; exact h8 x q1 q2⟩
theorem STq.ns {M : St} {H : Nat} {cd tk : Nat → Int} (hM : M.1 200 15 ≤ 100) : ∀ {p a e c d : Nat}, STq M H cd tk p a e c d → ∀ x, c ≤ x → x < d → tk x ≠ 5059 ∧ inR (tk x) := by
  intro p
  induction p with
  | zero => intro a e c d h; exact h.elim
  | succ p ih =>
    intro a e c d h x q1 q2
    cases p with
    | zero =>
      obtain ⟨e1, d1, F, h1, h2, h3, h4, h5, h6, h7, h8⟩ := h
      by_cases hx : x = d1
      · rw [hx, h6]; omega
      · have := h8 x q1 (by omega); omega
    | succ p =>
      obtain ⟨e0, d0, h0, h01, e1, d1, F, h1, h2, h3, h4, h5, h6, h7, h8⟩ := h
      by_cases hx0 : x < d0
      · exact ih h0 x q1 hx0
      · by_cases hx1 : x = d0
        · rw [hx1, h01]; omega
        · by_cases hx : x = d1
          · rw [hx, h6]; omega
          · have := h8 x (by omega) (by omega); omega
/-- a token of a step is of a figure, or is none -/
theorem STq.fg {M : St} {H : Nat} {cd tk : Nat → Int} : ∀ {p a e c d : Nat}, STq M H cd tk p a e c d → ∀ x, c ≤ x → x < d → tk x < 3000 ∨ 4000 ≤ tk x ∨ ∃ F : Nat, (F : Int) < M.1 200 15 ∧ tk x = 3000 + (F : Int) := by
  intro p
  induction p with
  | zero => intro a e c d h; exact h.elim
  | succ p ih =>
    intro a e c d h x q1 q2
    cases p with
    | zero =>
      obtain ⟨e1, d1, F, h1, h2, h3, h4, h5, h6, h7, h8⟩ := h
      by_cases hx : x = d1
      · rw [hx, h6]; exact Or.inr (Or.inr ⟨F, h7, rfl⟩)
      · rcases h8 x q1 (by omega) with h9 | h9 | h9
        · exact Or.inl h9.2
        · exact Or.inr (Or.inl (by omega))
        · exact Or.inr (Or.inl (by omega))
    | succ p =>
      obtain ⟨e0, d0, h0, h01, e1, d1, F, h1, h2, h3, h4, h5, h6, h7, h8⟩ := h
      by_cases hx0 : x < d0
      · exact ih h0 x q1 hx0
      · by_cases hx1 : x = d0
        · exact Or.inr (Or.inl (by rw [hx1, h01]; omega))
        · by_cases hx : x = d1
          · rw [hx, h6]; exact Or.inr (Or.inr ⟨F, h7, rfl⟩)
          · rcases h8 x (by omega) (by omega) with h9 | h9 | h9
            · exact Or.inl h9.2
            · exact Or.inr (Or.inl (by omega))
            · exact Or.inr (Or.inl (by omega))
/-- so far: p pairs -/
def STr (M : St) (H : Nat) (cd tk : Nat → Int) (p a b c d : Nat) : Prop := (p = 0 ∧ b = a ∧ d = c) ∨ (1 ≤ p ∧ (LFc cd a ∧ WTk (tk c)) ∧ ∃ d0, d = d0 + 1 ∧ STq M H cd tk p a b c d0 ∧ tk d0 = 5038)
theorem STr.nx {M : St} {H : Nat} {cd tk : Nat → Int} {p a b c d b1 d1 F : Nat} (h : STr M H cd tk p a b c d) (h1 : WW M H cd tk b b1 d d1) (h2 : LFc cd b) (h3 : cd b1 = (F : Int) * 64 + 17) (h4 : tk d1 = 3000 + (F : Int)) (h5 : (F : Int) < M.1 200 15) (h6 : WTk (tk d)) (h7 : ∀ x, d ≤ x → x < d1 → WTk (tk x)) : STq M H cd tk (p + 1) a (b1 + 1) c (d1 + 1) ∧ LFc cd a ∧ WTk (tk c) := by
  rcases h with ⟨rfl, rfl, rfl⟩ | ⟨hp, hl, d0, rfl, hq, ht⟩
  · exact ⟨⟨b1, d1, F, rfl, rfl, h1, h2, h3, h4, h5, h7⟩, h2, h6⟩
  · obtain ⟨p, rfl⟩ : ∃ k, p = k + 1 := ⟨p - 1, by omega⟩
    exact ⟨⟨b, d0, hq, ht, b1, d1, F, rfl, rfl, h1, h2, h3, h4, h5, h7⟩, hl⟩
theorem STr.le {M : St} {H : Nat} {cd tk : Nat → Int} {p a b c d : Nat} (h : STr M H cd tk p a b c d) : a ≤ b ∧ c ≤ d := by
  rcases h with ⟨rfl, rfl, rfl⟩ | ⟨hp, hl, d0, rfl, hq, ht⟩
  · omega
  · have := STq.lt hq; omega
theorem STr.cg {M : St} {H : Nat} {cd tk cd2 tk2 : Nat → Int} {p a b c d : Nat} (h : STr M H cd tk p a b c d) (g1 : ∀ x, a ≤ x → x < b → cd2 x = cd x) (g2 : ∀ x, c ≤ x → x < d → tk2 x = tk x) : STr M H cd2 tk2 p a b c d := by
  rcases h with ⟨rfl, rfl, rfl⟩ | ⟨hp, hl, d0, rfl, hq, ht⟩
  · exact Or.inl ⟨rfl, rfl, rfl⟩
  · have := STq.lt hq
    refine Or.inr ⟨hp, ⟨?_, by rw [g2 c (by omega) (by omega)]; exact hl.2⟩, d0, rfl, STq.cg hq g1 (fun x q1 q2 => g2 x q1 (by omega)), by rw [g2 d0 (by omega) (by omega)]; exact ht⟩
    obtain ⟨kd, vl, q1, q2, q3, q4, q5⟩ := hl.1
    exact ⟨kd, vl, q1, q2, q3, q4, by rw [g1 a (by omega) (by omega)]; exact q5⟩
/-- what a step that was read comes to -/
def RSt (M : St) (B : Nat → Int) (e mm : Nat) (kp : Int) (i a c : Nat) (t m u v : St) : Prop :=
  ∃ i2 b d : Nat, i < i2 ∧ PXw M B e mm kp i2 b d u v ∧ FRh t u a ∧ FRm m v c ∧ b + i ≤ a + i2 + 1 ∧ d + i = c + i2 ∧ u.1 303 6 = t.1 303 6 ∧ STp M (u.1 363) (v.1 31) a b c d ∧ (LFc (u.1 363) a ∧ WTk (v.1 31 c)) ∧ u.1 303 3 ≠ 47 ∧ u.1 303 11 = fsL (t.1 356) (v.1 31) c (d - c)
section
variable {N : Nat} {M : St} {B : Nat → Int} {e mm i a c : Nat} {kp : Int} {t m : St}
theorem stp_lp {H : Nat} (hN : 5000 ≤ N) (hH : H ≤ 30) (hM15 : M.1 200 15 ≤ 100) (h : PXw M B e mm kp i a c t m) (h6 : t.1 303 6 + (H : Int) = 30) (hV : a + 1 + (mm - i) ≤ 10096) : ∀ (k p n n2 i2 b d : Nat) (u v : St), k + p = 4 → k < n → k < n2 → i ≤ i2 → PXw M B e mm kp i2 b d u v → FRh t u a → FRm m v c → b + i ≤ a + i2 → d + i = c + i2 → u.1 303 6 = t.1 303 6 → STr M H (u.1 363) (v.1 31) p a b c d → u.1 303 11 = fsL (t.1 356) (v.1 31) c (d - c) → 1 ≤ k →
    SIM B e mm t m a c (RSt M B e mm kp i a c t m) (f_X7_readStep_L7 N (fun (t21 : St) => bdI (f_X0_put N 18 0 t21) fun _ t22 => boI 1 (some (1, t22))) (fun (t24 : St) => bdI (f_X7_wrong N 5 t24) fun v26 t25 => boI v26 (some (v26, t25))) (fun (t27 : St) => boI 0 (some (0, t27))) n p u)
      (f_X12_stepText_L4 N (fun (t16 : St) => bdI (f_X12_wrong N 5 t16) fun v18 t17 => boI v18 (some (v18, t17))) (fun (t19 : St) => boI 1 (some (1, t19))) n2 p 1 v) := by
  intro k
  induction k with
  | zero => intro p n n2 i2 b d u v z1 z2 z3 z4 r2 r3 r4 r5 r6 r7 r8 r9 z5; omega
  | succ k ih =>
    intro p n n2 i2 b d u v z1 z2 z3 z4 r2 r3 r4 r5 r6 r7 r8 r9 z5
    obtain ⟨n, rfl⟩ : ∃ k, n = k + 1 := ⟨n - 1, by omega⟩
    obtain ⟨n2, rfl⟩ : ∃ k, n2 = k + 1 := ⟨n2 - 1, by omega⟩
    have hle := r8.le
    conv => arg 10; unfold f_X12_stepText_L4
    conv => arg 9; unfold f_X7_readStep_L7
    simp only [lt1_k, jn1_k]
    rw [cmpI_ok (by omega), if_pos (show (p : Int) < 4 by omega), cmpI_ok (by omega), if_neg (show ¬ (1 : Int) = 0 by decide)]
    refine SIM.bind (SIM.weak (whom_both hN hH i2 b d u v r2 (by omega)) r3 r4 hle.1 hle.2) (fun u2 v2 hR => ?_)
    obtain ⟨fl, ⟨i3, b2, d2, s1, s2, s3, s4, s5, s6, s7, s8, s9, s10, s11, s12⟩, s13, s14⟩ := hR
    have hl2 := WW_l _ _ _ _ _ _ s9
    have x1 := r3.tr s3 hle.1
    have x2 := r4.tr s4 hle.2
    refine SIM.bind (SIM.weak (sim_known (N := N) (a := b2) (c := d2) (o := 1) s2.1 s2.2.1 (by omega) h.kpp (by rw [s2.2.2.2.1]; exact Nat.le_refl _) hN) x1 x2 (show a ≤ b2 by omega) (show c ≤ d2 by omega)) (fun u3 v3 f4 => ?_)
    obtain ⟨F, q3, q4, q5, q6⟩ := f4
    obtain ⟨k1, k2, k3, k4, k5, k6, k7, k8, k9⟩ := s2.nx q6
    have hb := s2.2.2.2.2.2.1
    have hF : (F : Int) < M.1 200 15 := by
      have : u2.1 313 2 = M.1 200 15 := hb.2.1.2.1
      have e9 : (312 + 1 : Nat) = 313 := rfl
      rw [e9] at q3
      omega
    have hi3 := k1.1.2.1
    have y1 := x1.tr k2 (show a ≤ b2 by omega)
    have y2 := x2.tr k3 (show c ≤ d2 by omega)
    rw [q4, h_putK k1.2.2.1 (by omega) (by omega) (by omega), bdI_s]
    have e9 : (PU u3 b2 ((F : Int) * 64 + 17)).1 303 = u3.1 303 := PU_ne (by decide) (by decide)
    rw [e9, q4, ixI_ok (by omega), Int.toNat_natCast, PU_ne (show (356 : Nat) ≠ 363 by decide) (show (356 : Nat) ≠ 302 by decide)]
    have e356 : u3.1 356 F = t.1 356 F := y1.1 356 F (by omega) (by omega) (by omega)
    generalize hu4 : pI (PU u3 b2 ((F : Int) * 64 + 17)) 303 11 (u3.1 303 11 + u3.1 356 F) = u4
    have P1 : PXw M B e mm kp (i3 + 1) (b2 + 1) (d2 + 1) u4 v3 := by rw [← hu4]; exact (k1.U (by omega)).pt (by omega)
    have y3 : FRh t u4 a := by rw [← hu4]; exact (y1.tr (FRh.U k1.2.2.1 (by omega) (show a ≤ b2 by omega)) (Nat.le_refl a)).tr FRh.p (Nat.le_refl a)
    have e6 : u4.1 303 6 = t.1 303 6 := by rw [← hu4, pI_nf (by decide), e9, k5, s7, r7]
    have tkl : ∀ x, x < d → v3.1 31 x = v.1 31 x := fun x hx => by rw [k9 x (by omega), s4.1 31 x (by omega) (by omega) (by omega)]
    have tkm : ∀ x, x < d2 → v3.1 31 x = v2.1 31 x := fun x hx => k9 x (by omega)
    have cdl : ∀ x, x < b → u4.1 363 x = u.1 363 x := fun x hx => by rw [← hu4, pI_ne (by decide), PU_nf (by omega), k8, s3.1 363 x (by omega) (by omega) (by omega)]
    have cdm : ∀ x, x < b2 → u4.1 363 x = u2.1 363 x := fun x hx => by rw [← hu4, pI_ne (by decide), PU_nf (by omega), k8]
    have cdb : u4.1 363 b2 = (F : Int) * 64 + 17 := by rw [← hu4, pI_ne (by decide), PU_at]
    have k4 : v3.1 31 d2 = 3000 + (F : Int) := by rw [k4]; omega
    have e11 : u4.1 303 11 = fsL (t.1 356) (v3.1 31) c (d2 + 1 - c) := by
      rw [← hu4, pI_at, k7, s8, r9, e356, fsL_sp (show c ≤ d by omega) (show d ≤ d2 + 1 by omega), fsL_sp (show d ≤ d2 by omega) (show d2 ≤ d2 + 1 by omega), fsL_1, k4, if_pos (by omega), fsL_0 (c := d) (d2 - d) (fun x h1 h2 => by rw [tkm x (by omega)]; exact s11 x h1 (by omega)), fsL_cong (tk := v3.1 31) (tk2 := v.1 31) (c := c) (d - c) (fun x h1 h2 => tkl x (by omega)), show (3000 + (F : Int) - 3000).toNat = F by omega]
      omega
    have hS := STr.nx (F := F) (r8.cg (fun x h1 h2 => cdl x h2) (fun x h1 h2 => tkl x h2)) (WW_c _ _ _ _ _ _ _ _ s9 (fun x h1 h2 => cdm x h2) (fun x h1 h2 => tkm x h2)) (by
      obtain ⟨kd, vl, q1, q2, q3, q4, q5⟩ := s10
      exact ⟨kd, vl, q1, q2, q3, q4, by rw [cdm b (by omega)]; exact q5⟩) cdb k4 hF (by rw [tkm d (by omega)]; exact s11 d (Nat.le_refl d) (by omega)) (fun x z1 z2 => by rw [tkm x z2]; exact s11 x z1 z2)
    have hq := P1.kd
    generalize hk9 : cKd B e (ch B e (i3 + 1)) = w at *
    have hr := hq.rng
    rw [hq.1, cmpI_ok (show inR w ∧ inR 47 by omega), k_isSign hq (by unfold isSg; omega), bdI_s, show (40 : Int) + sgi 38 = 47 from rfl]
    by_cases h47 : w = 47
    · rw [if_pos h47, if_pos h47, cmpI_ok (a := 1) (b := 0) (by omega), if_neg (show ¬ (1 : Int) = 0 by decide), cmpI_ok (show inR ((p : Int) + 1) ∧ inR 4 by omega), cmpI_ok (show inR ((p : Int) + 1) ∧ inR 4 by omega)]
      by_cases hp4 : (p : Int) + 1 = 4
      · rw [if_pos hp4, if_pos hp4]
        left
        exact (flt_bo (flt_w (a := b2 + 1) (c := d2 + 1) N P1.1 (f := 5) (by omega))).weak y3 y2 (by omega) (by omega)
      · rw [if_neg hp4, if_neg hp4]
        have hlt := tq_lt P1.1 (by omega)
        have hsg : f_X12_sign N 38 v3 = bdI (f_X12_takes N 5038 v3) fun x y => boI x (some (x, y)) := by
          unfold f_X12_sign
          rw [k_isSign hq (by unfold isSg; omega), bdI_s, show (40 : Int) + sgi 38 = 47 from rfl, if_pos h47, cmpI_ok (by omega), if_neg (by decide)]
          rfl
        rw [hsg]
        refine SIM.bind (SIM.bg (SIM.weak (sim_pass (N := N) (a := b2 + 1) (c := d2 + 1) (as := 5038) P1.1 h.kpp hlt (by rw [P1.2.2.2.1]; exact Nat.le_refl _) hN) y3 y2 (show a ≤ b2 + 1 by omega) (show c ≤ d2 + 1 by omega))) (fun u5 v5 f5 => ?_)
        obtain ⟨l1, l2, l3, l4, l5, l6, l7, l8, l9⟩ := P1.nx f5.at1
        rw [show (p : Int) + 1 = ((p + 1 : Nat) : Int) by omega]
        refine ih (p + 1) n n2 (i3 + 2) (b2 + 1) (d2 + 2) u5 v5 (by omega) (by omega) (by omega) (by omega) l1 (y3.tr l2 (by omega)) (y2.tr l3 (by omega)) (by omega) (by omega) (by omega) ?_ ?_ (by omega)
        · refine Or.inr ⟨by omega, ?_, d2 + 1, rfl, STq.cg hS.1 (fun x h1 h2 => by rw [l8]) (fun x h1 h2 => l9 x (by omega)), l4⟩
          exact ⟨by rw [l8]; exact hS.2.1, by rw [l9 c (by omega)]; exact hS.2.2⟩
        · rw [l7, e11, fsL_sp (show c ≤ d2 + 1 by omega) (show d2 + 1 ≤ d2 + 1 + 1 by omega), fsL_1, l4, if_neg (by omega), fsL_cong (tk := v5.1 31) (tk2 := v3.1 31) (c := c) (d2 + 1 - c) (fun x h1 h2 => l9 x (by omega))]
          omega
    · rw [if_neg h47, if_neg h47, cmpI_ok (a := 0) (b := 0) (by omega), if_pos (show (0 : Int) = 0 from rfl), cmpI_ok (a := 0) (b := 0) (by omega), if_pos (show (0 : Int) = 0 from rfl)]
      obtain ⟨n2, rfl⟩ : ∃ k, n2 = k + 1 := ⟨n2 - 1, by omega⟩
      conv => arg 10; unfold f_X12_stepText_L4
      rw [cmpI_ok (a := 0) (b := 0) (by omega), if_pos (show (0 : Int) = 0 from rfl), h_putK P1.2.2.1 (by omega) (by omega) (by omega), bdI_s]
      right
      refine ⟨PU u4 (b2 + 1) (0 * 64 + 18), v3, by rw [boI_1], by rw [boI_1], i3 + 1, b2 + 2, d2 + 1, by omega, P1.U (by omega), y3.tr (FRh.U P1.2.2.1 (by omega) (by omega)) (Nat.le_refl a), y2, by omega, by omega, by rw [PU_ne (by decide) (by decide)]; exact e6, ?_, ?_, ?_, ?_⟩
      · refine ⟨H, p + 1, hH, by omega, b2 + 1, rfl, STq.cg hS.1 (fun x h1 h2 => by rw [PU_nf (by omega)]) (fun x h1 h2 => rfl), by rw [PU_at]; omega⟩
      · refine ⟨?_, hS.2.2⟩
        obtain ⟨kd, vl, q1, q2, q3, q4, q5⟩ := hS.2.1
        exact ⟨kd, vl, q1, q2, q3, q4, by rw [PU_nf (by omega)]; exact q5⟩
      · rw [PU_ne (by decide) (by decide), hq.1]; exact h47
      · rw [PU_ne (by decide) (by decide)]; exact e11
theorem step_both {H : Nat} (hN : 5000 ≤ N) (hH : H ≤ 30) (hM15 : M.1 200 15 ≤ 100) (h : PXw M B e mm kp i a c t m) (h6 : t.1 303 6 + (H : Int) = 30) (hV : a + 1 + (mm - i) ≤ 10096) : SIM B e mm t m a c (RSt M B e mm kp i a c t m) (f_X7_readStep N t) (f_X12_stepText N m) := by
  have h' := h.pt (f := 11) (x := 0) (by omega)
  unfold f_X7_readStep f_X12_stepText
  rw [lt1_k]
  have := stp_lp (H := H) hN hH hM15 h' (by rw [pI_nf (by decide)]; exact h6) hV 4 0 N N i a c (pI t 303 11 0) m (by omega) (by omega) (by omega) (Nat.le_refl i) h' FRh.rf FRm.rf (by omega) (by omega) rfl (Or.inl ⟨rfl, rfl, rfl⟩) (by rw [pI_at, show c - c = 0 by omega]; rfl) (by omega)
  refine (SIM.weak this FRh.p FRm.rf (Nat.le_refl a) (Nat.le_refl c)).mono (fun u v q => ?_)
  obtain ⟨i2, b, d, q1, q2, q3, q4, q5, q6, q7, q8⟩ := q
  refine ⟨i2, b, d, q1, q2, FRh.p.tr q3 (Nat.le_refl a), q4, q5, q6, by rw [q7, pI_nf (by decide)], ?_⟩
  rw [pI_ne (by decide)] at q8
  exact q8
end
