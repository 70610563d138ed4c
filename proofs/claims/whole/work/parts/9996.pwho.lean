/-! reading in lock step: whom -/
/-- the book while a part, an allowed step or a call is read -/
def bkS (M t m : St) : Prop := (m.1 200 14 = M.1 200 14 ∧ m.1 200 15 = M.1 200 15 ∧ m.1 200 16 = M.1 200 16 ∧ ∀ f : Nat, m.1 18 f = M.1 18 f) ∧ (t.1 312 2 = M.1 200 14 ∧ t.1 313 2 = M.1 200 15 ∧ t.1 314 2 = M.1 200 16) ∧ (0 ≤ M.1 200 14 ∧ M.1 200 14 ≤ 40 ∧ 0 ≤ M.1 200 15 ∧ M.1 200 15 ≤ 100 ∧ 0 ≤ M.1 200 16 ∧ M.1 200 16 ≤ 60) ∧ (∀ f : Nat, (f : Int) < M.1 200 14 → t.1 350 f = M.1 18 f ∧ 1 ≤ M.1 18 f ∧ M.1 18 f ≤ 8) ∧ ∀ F : Nat, (F : Int) < M.1 200 15 → inR (t.1 356 F)
theorem bkS.fr {M t m u v : St} {a c : Nat} (h : bkS M t m) (g1 : FRh t u a) (g2 : FRm m v c) : bkS M u v := by
  obtain ⟨⟨h1, h2, h3, h4⟩, ⟨h5, h6, h7⟩, h8, h9, h10⟩ := h
  have n14 : ¬ PFd 14 := by unfold PFd; omega
  have n15 : ¬ PFd 15 := by unfold PFd; omega
  have n16 : ¬ PFd 16 := by unfold PFd; omega
  refine ⟨⟨by rw [g2.1 200 14 (by omega) (by omega) (Or.inr (Or.inl n14))]; exact h1, by rw [g2.1 200 15 (by omega) (by omega) (Or.inr (Or.inl n15))]; exact h2, by rw [g2.1 200 16 (by omega) (by omega) (Or.inr (Or.inl n16))]; exact h3, fun f => by rw [g2.1 18 f (by omega) (by omega) (by omega)]; exact h4 f⟩, ⟨by rw [g1.1 312 2 (by omega) (by omega) (by omega)]; exact h5, by rw [g1.1 313 2 (by omega) (by omega) (by omega)]; exact h6, by rw [g1.1 314 2 (by omega) (by omega) (by omega)]; exact h7⟩, h8, fun f hf => by rw [g1.1 350 f (by omega) (by omega) (by omega)]; exact h9 f hf, fun F hF => by rw [g1.1 356 F (by omega) (by omega) (by omega)]; exact h10 F hF⟩
theorem NmR.fr {t m u v : St} {a c : Nat} (h : NmR t m) (g1 : FRh t u a) (g2 : FRm m v c) : NmR u v := by
  have e13 : v.1 200 13 = m.1 200 13 := g2.1 200 13 (by omega) (by omega) (Or.inr (by unfold PFd; omega))
  have e9 : v.1 9 = m.1 9 := funext fun y => g2.1 9 y (by omega) (by omega) (by omega)
  have e10 : v.1 10 = m.1 10 := funext fun y => g2.1 10 y (by omega) (by omega) (by omega)
  have e11 : v.1 11 = m.1 11 := funext fun y => g2.1 11 y (by omega) (by omega) (by omega)
  have e12 : v.1 12 = m.1 12 := funext fun y => g2.1 12 y (by omega) (by omega) (by omega)
  have hW : nmW v = nmW m := by funext k i; unfold nmW; rw [e9]
  have hL : nmLen v = nmLen m := by funext k; unfold nmLen; rw [e10]
  obtain ⟨n1, n2, n3, n4, n5⟩ := h
  unfold NmR
  rw [e13, e10, e11, e12, hW, hL, g1.2.1]
  have es : ∀ s : Nat, s < 3 → u.1 (312 + s) 2 = t.1 (312 + s) 2 := fun s hs => g1.1 (312 + s) 2 (by omega) (by omega) (by omega)
  refine ⟨n1, fun o ho => by rw [es o ho]; exact n2 o ho, fun k hk => ?_, fun s n hs hn => ?_, n5⟩
  · obtain ⟨a1, a2, s, n, b1, b2, b3, b4, b5⟩ := n3 k hk
    exact ⟨a1, a2, s, n, b1, b2, b3, by rw [es s b1]; exact b4, b5⟩
  · rw [es s hs] at hn; exact n4 s n hs hn
/-- both at token i: the hall's code up to a, the model's tokens up to c -/
def PXw (M : St) (B : Nat → Int) (e mm : Nat) (kp : Int) (i a c : Nat) (t m : St) : Prop := PR t m B e mm kp i ∧ NmR t m ∧ t.1 302 18 = a ∧ tpm m kp = c ∧ (kp = 1 ∨ kp = 2) ∧ bkS M t m ∧ a + (mm - i) ≤ 10096
/-- tokens of a WHO or a condition -/
def WTk (v : Int) : Prop := (14 ≤ v ∧ v < 3000) ∨ v = 5040 ∨ v = 5041
/-- how many in, at, forms -/
def cnL (tk : Nat → Int) (c : Nat) : Nat → Int
  | 0 => 0
  | k + 1 => cnL tk c k + (if tk (c + k) = 22 ∨ tk (c + k) = 23 ∨ tk (c + k) = 30 then 1 else 0)
theorem cnL_s {tk : Nat → Int} {c k : Nat} : cnL tk c (k + 1) = cnL tk c k + (if tk (c + k) = 22 ∨ tk (c + k) = 23 ∨ tk (c + k) = 30 then 1 else 0) := rfl
theorem cnL_add {tk : Nat → Int} {c k : Nat} : ∀ l, cnL tk c (k + l) = cnL tk c k + cnL tk (c + k) l := by
  intro l
  induction l with
  | zero => show cnL tk c k = cnL tk c k + 0; omega
  | succ l ih => rw [← Nat.add_assoc, cnL_s, cnL_s, ih, Nat.add_assoc]; omega
theorem cnL_cong {tk tk2 : Nat → Int} {c : Nat} : ∀ k, (∀ x, c ≤ x → x < c + k → tk x = tk2 x) → cnL tk c k = cnL tk2 c k := by
  intro k
  induction k with
  | zero => intro _; rfl
  | succ k ih => intro h; rw [cnL_s, cnL_s, ih (fun x h1 h2 => h x h1 (by omega)), h (c + k) (by omega) (by omega)]
theorem cnL_rng {tk : Nat → Int} {c : Nat} : ∀ k : Nat, 0 ≤ cnL tk c k ∧ cnL tk c k ≤ k := by
  intro k
  induction k with
  | zero => show (0 : Int) ≤ 0 ∧ (0 : Int) ≤ 0; omega
  | succ k ih => rw [cnL_s]; split <;> omega
/-- what a WHO (a condition) that was read comes to -/
def RWw (X : (Nat → Int) → (Nat → Int) → Nat → Nat → Nat → Nat → Prop) (M : St) (B : Nat → Int) (e mm : Nat) (kp : Int) (i a c : Nat) (t m u v : St) : Prop :=
  ∃ i2 b d : Nat, i < i2 ∧ PXw M B e mm kp i2 b d u v ∧ FRh t u a ∧ FRm m v c ∧ b + i ≤ a + i2 ∧ d + i = c + i2 ∧ u.1 303 6 = t.1 303 6 ∧ u.1 303 11 = t.1 303 11 ∧ X (u.1 363) (v.1 31) a b c d ∧ LFc (u.1 363) a ∧ (∀ x, c ≤ x → x < d → WTk (v.1 31 x)) ∧ u.1 303 10 = t.1 303 10 + cnL (v.1 31) c (d - c)
def PU (u : St) (a : Nat) (w : Int) : St := pI (pI u 363 a w) 302 18 ((a + 1 : Nat) : Int)
theorem h_put {N a : Nat} {kd vl : Int} {t : St} (h : t.1 302 18 = a) (ha : a < 10098) : f_X0_put N kd vl t = some ((a : Int), pI (pI t 363 a (iorZ (vl * 64) kd)) 302 18 ((a + 1 : Nat) : Int)) := by
  unfold f_X0_put
  simp only [lt1_k, h]
  rw [cmpI_ok (by omega), if_pos (by omega), ixI_ok (by omega), Int.toNat_natCast, pI_ne (by decide), h]
  rfl
theorem h_putK {N a : Nat} {kd vl : Int} {t : St} (h : t.1 302 18 = a) (ha : a < 10098) (hk : 0 ≤ kd ∧ kd < 64) (hv : 0 ≤ vl ∧ vl < 33554432) : f_X0_put N kd vl t = some ((a : Int), PU t a (vl * 64 + kd)) := by
  rw [h_put h ha, ior_64 (by omega) hk]; rfl
theorem PU_ne {u : St} {a x : Nat} {w : Int} (h1 : x ≠ 363) (h2 : x ≠ 302) : (PU u a w).1 x = u.1 x := by unfold PU; rw [pI_ne h2, pI_ne h1]
theorem PU_at {u : St} {a : Nat} {w : Int} : (PU u a w).1 363 a = w := by unfold PU; rw [pI_ne (by decide), pI_at]
theorem PU_nf {u : St} {a x : Nat} {w : Int} (h : x ≠ a) : (PU u a w).1 363 x = u.1 363 x := by unfold PU; rw [pI_ne (by decide), pI_nf h]
theorem PU_18 {u : St} {a : Nat} {w : Int} : (PU u a w).1 302 18 = ((a + 1 : Nat) : Int) := by unfold PU; rw [pI_at]
theorem PU_f {u : St} {a y : Nat} {w : Int} (h : y ≠ 18) : (PU u a w).1 302 y = u.1 302 y := by unfold PU; rw [pI_nf h, pI_ne (by decide)]
theorem FRh.U {u : St} {a b : Nat} {w : Int} (h18 : u.1 302 18 = (a : Int)) (ha : a < 10098) (h : b ≤ a) : FRh u (PU u a w) b := ⟨fun x y h1 h2 h3 => by
  by_cases hx : x = 302
  · subst hx; exact PU_f (by omega)
  · by_cases hx2 : x = 363
    · subst hx2; exact PU_nf (by omega)
    · rw [PU_ne hx2 hx], rfl, by rw [PU_18]; omega, by rw [PU_18]; omega⟩
theorem TKs.U {u : St} {B : Nat → Int} {e mm a : Nat} {w : Int} (h : TKs u B e mm) : TKs (PU u a w) B e mm := by
  obtain ⟨h1, h2, h3, h4, h5, h6⟩ := h
  refine ⟨fun i hi => ?_, h2, h3, by rw [PU_ne (by decide) (by decide)]; exact h4, by rw [PU_ne (by decide) (by decide)]; exact h5, h6⟩
  have h := h1 i hi
  exact ⟨by rw [PU_ne (by decide) (by decide)]; exact h.1, by rw [PU_ne (by decide) (by decide)]; exact h.2.1, by rw [PU_ne (by decide) (by decide)]; exact h.2.2.1, h.2.2.2⟩
theorem PR.U {t m : St} {B : Nat → Int} {e mm i a : Nat} {kp w : Int} (h : PR t m B e mm kp i) : PR (PU t a w) m B e mm kp i := by
  obtain ⟨p1, p2, p3, p4, p5, p6, p7, p8, p9, p10⟩ := h
  have e3 : (PU t a w).1 303 = t.1 303 := PU_ne (by decide) (by decide)
  exact ⟨p1.U, p2, p3, by rw [e3]; exact p4, by rw [e3]; exact p5, by rw [e3]; exact p6, by rw [e3]; exact p7, by rw [e3]; exact p8, by rw [PU_f (by decide)]; exact p9, p10⟩
theorem FR.U {t m : St} {B : Nat → Int} {e mm a : Nat} {w : Int} (h : FR t m B e mm) : FR (PU t a w) m B e mm := by
  obtain ⟨h1, i, h2, h3, h4, h5, h6, h7, h8⟩ := h
  have e3 : (PU t a w).1 303 = t.1 303 := PU_ne (by decide) (by decide)
  exact ⟨h1.U, i, h2, by rw [e3]; exact h3, h4, by rw [e3]; exact h5, h6, h7, by unfold PU; rw [pI_nf (by decide), pI_ne (by decide)]; exact h8⟩
theorem PXw.U {M : St} {B : Nat → Int} {e mm i a c : Nat} {kp w : Int} {t m : St} (h : PXw M B e mm kp i a c t m) (hv : a + 1 + (mm - i) ≤ 10096) : PXw M B e mm kp i (a + 1) c (PU t a w) m :=
  ⟨h.1.U, h.2.1.fr (FRh.U h.2.2.1 (by omega) (Nat.le_refl a)) (FRm.rf (c := c)), PU_18, h.2.2.2.1, h.2.2.2.2.1, h.2.2.2.2.2.1.fr (FRh.U h.2.2.1 (by omega) (Nat.le_refl a)) (FRm.rf (c := c)), hv⟩
/-- behind a token -/
theorem PXw.nx {M : St} {B : Nat → Int} {e mm i a c : Nat} {kp as : Int} {t m u v : St} (h : PXw M B e mm kp i a c t m) (g : AT1 B e mm kp i as t m u v) : PXw M B e mm kp (i + 1) a (c + 1) u v ∧ FRh t u a ∧ FRm m v c ∧ v.1 31 c = as ∧ u.1 303 6 = t.1 303 6 ∧ u.1 303 10 = t.1 303 10 ∧ u.1 303 11 = t.1 303 11 ∧ u.1 363 = t.1 363 ∧ (∀ x, x ≠ c → v.1 31 x = m.1 31 x) := by
  obtain ⟨h1, h2, h3, h4, h5, h6, h7⟩ := h
  obtain ⟨g1, g2, g3, g4⟩ := g
  have hk : kp ≠ 0 := by omega
  have f1 : FRh t u a := FRh.h g2
  have f2 : FRm m v c := FRm.h g3 (by omega)
  have g4 := g4 hk
  refine ⟨⟨g1, h2.fr f1 f2, by rw [g2.1 302 18 (by omega) (by omega)]; exact h3, by rw [g4.2, h4], h5, h6.fr f1 f2, by omega⟩, f1, f2, by rw [← h4]; exact g4.1, g2.1 303 6 (by omega) (by omega), g2.1 303 10 (by omega) (by omega), g2.1 303 11 (by omega) (by omega), funext fun x => g2.1 363 x (by omega) (by omega), fun x hx => g3.1 31 x (by omega) (by omega)⟩
/-- a word is put behind a fault as well -/
theorem FLT.put {N : Nat} {B : Nat → Int} {e mm : Nat} {t m : St} {a c : Nat} {F G : Option (Int × St)} {kd : Int} {vl : St → Int} (h : FLT B e mm t m a c F G) (ha : (a : Int) ≤ t.1 302 18) (hb : t.1 302 18 ≤ 10098) :
    FLT B e mm t m a c (bdI F fun j u => bdI (f_X0_put N kd (vl u) u) fun _ u2 => boI j (some (j, u2))) G := by
  obtain ⟨u, v, h1, h2, h3, h4, h5⟩ := h
  have hl := h4.2.2
  obtain ⟨L, hL⟩ := Int.eq_ofNat_of_zero_le (show 0 ≤ u.1 302 18 by omega)
  by_cases h9 : L < 10098
  · refine ⟨PU u L (iorZ (vl u * 64) kd), v, ?_, h2, h3.U, h4.tr (FRh.U hL h9 (Nat.le_refl L)) (by omega), h5⟩
    rw [h1, bdI_s, h_put hL h9, bdI_s, boI_0]; rfl
  · refine ⟨u, v, ?_, h2, h3, h4, h5⟩
    have : f_X0_put N kd (vl u) u = some (u.1 302 18, u) := by
      unfold f_X0_put
      rw [lt1_k, cmpI_ok (by omega), if_neg (by omega)]
    rw [h1, bdI_s, this, bdI_s, boI_0]
