/-! dancers are laid out: lay against begins -/
/-- where the d-th begins -/
def SPX (kd : Int) (d : Nat) : Int := if kd = 0 then sqXZ d else if kd = 1 then 4 * ((d : Int) % 2) else if kd = 2 then 4 * (((d : Int) + (d : Int) / 2) % 2) else 4 * ((d : Int) / 2 % 2)
def SPY (kd : Int) (d : Nat) : Int := if kd = 0 then sqYZ d else if kd = 1 then 4 * ((d : Int) / 2) else if kd = 2 then 4 * ((d : Int) / 2) else 8 * ((d : Int) / 2 / 2) + 4 * ((1 + (d : Int) + (d : Int) / 2) % 2)
def SPW (kd : Int) (d : Nat) : Int := if kd = 0 then (-((d : Int) / 2)) % 4 else if kd = 1 then 1 + 2 * ((d : Int) % 2) else if kd = 2 then 2 * ((d : Int) / 2 % 2) else 1 + 2 * ((d : Int) / 2 % 2)
/-- what may be set -/
def SETk (kd n : Int) : Prop := (kd = 0 ∧ n = 4) ∨ ((1 ≤ kd ∧ kd ≤ 3) ∧ (1 ≤ n ∧ n ≤ 32))
theorem sq_tab : ∀ d : Nat, d < 8 → ok4 (sqXZ d) ∧ ok4 (sqYZ d) ∧ ∀ e : Nat, e < 8 → sqXZ d = sqXZ e → sqYZ d = sqYZ e → d = e := by decide +kernel
theorem ixor_b {a b : Nat} (ha : a < 2) (hb : b < 2) : ixorZ (a : Int) (b : Int) = (((a + b) % 2 : Nat) : Int) := by
  have h1 : a = 0 ∨ a = 1 := by omega
  have h2 : b = 0 ∨ b = 1 := by omega
  rcases h1 with rfl | rfl <;> rcases h2 with rfl | rfl <;> decide
theorem ixor_c {a b : Int} (ha : 0 ≤ a ∧ a ≤ 1) (hb : 0 ≤ b ∧ b ≤ 1) : ixorZ a b = (a + b) % 2 := by
  obtain ⟨x, hx⟩ := Int.eq_ofNat_of_zero_le ha.1
  obtain ⟨y, hy⟩ := Int.eq_ofNat_of_zero_le hb.1
  subst hx hy
  rw [ixor_b (a := x) (b := y) (by omega) (by omega)]
  omega
theorem SP_0 (d : Nat) : SPX 0 d = sqXZ d ∧ SPY 0 d = sqYZ d ∧ SPW 0 d = (-((d : Int) / 2)) % 4 := ⟨rfl, rfl, rfl⟩
theorem SP_1 (d : Nat) : SPX 1 d = 4 * ((d : Int) % 2) ∧ SPY 1 d = 4 * ((d : Int) / 2) ∧ SPW 1 d = 1 + 2 * ((d : Int) % 2) := ⟨rfl, rfl, rfl⟩
theorem SP_2 (d : Nat) : SPX 2 d = 4 * (((d : Int) + (d : Int) / 2) % 2) ∧ SPY 2 d = 4 * ((d : Int) / 2) ∧ SPW 2 d = 2 * ((d : Int) / 2 % 2) := ⟨rfl, rfl, rfl⟩
theorem SP_3 (d : Nat) : SPX 3 d = 4 * ((d : Int) / 2 % 2) ∧ SPY 3 d = 8 * ((d : Int) / 2 / 2) + 4 * ((1 + (d : Int) + (d : Int) / 2) % 2) ∧ SPW 3 d = 1 + 2 * ((d : Int) / 2 % 2) := ⟨rfl, rfl, rfl⟩
theorem SP_fx {kd : Int} {n : Nat} (h : SETk kd n) : FXs (SPX kd) (SPY kd) (SPW kd) (2 * n) := by
  rcases h with ⟨rfl, h4⟩ | ⟨hk, hn⟩
  · have : n = 4 := by omega
    subst this
    refine ⟨by decide, fun d hd => ?_, fun d e hd he z1 z2 => ?_⟩
    · have := sq_tab d hd
      rw [(SP_0 d).1, (SP_0 d).2.1, (SP_0 d).2.2]
      exact ⟨this.1, this.2.1, by omega, by omega⟩
    · rw [(SP_0 d).1, (SP_0 e).1] at z1
      rw [(SP_0 d).2.1, (SP_0 e).2.1] at z2
      exact (sq_tab d hd).2.2 e he z1 z2
  · have hk3 : kd = 1 ∨ kd = 2 ∨ kd = 3 := by omega
    clear hk
    rcases hk3 with rfl | rfl | rfl
    · refine ⟨by omega, fun d hd => ?_, fun d e hd he z1 z2 => ?_⟩
      · rw [(SP_1 d).1, (SP_1 d).2.1, (SP_1 d).2.2]; omega
      · rw [(SP_1 d).1, (SP_1 e).1] at z1
        rw [(SP_1 d).2.1, (SP_1 e).2.1] at z2
        omega
    · refine ⟨by omega, fun d hd => ?_, fun d e hd he z1 z2 => ?_⟩
      · rw [(SP_2 d).1, (SP_2 d).2.1, (SP_2 d).2.2]; omega
      · rw [(SP_2 d).1, (SP_2 e).1] at z1
        rw [(SP_2 d).2.1, (SP_2 e).2.1] at z2
        omega
    · refine ⟨by omega, fun d hd => ?_, fun d e hd he z1 z2 => ?_⟩
      · rw [(SP_3 d).1, (SP_3 d).2.1, (SP_3 d).2.2]; omega
      · rw [(SP_3 d).1, (SP_3 e).1] at z1
        rw [(SP_3 d).2.1, (SP_3 e).2.1] at z2
        omega
section
variable {N o : Nat} {t m : St}
theorem h_startOf {kd : Int} {n d : Nat} (h : SETk kd n) (hd : d < 2 * n) : f_X3_startOf N kd d t = some (cdZ (SPX kd d) (SPY kd d) (SPW kd d), t) := by
  have hx := (SP_fx h).2.1 d hd
  have h64 := (SP_fx h).1
  have hcd := h_codeOf (N := N) (t := t) hx.1 hx.2.1 hx.2.2
  unfold f_X3_startOf
  rw [rnI_ok (by omega)]
  rcases h with ⟨rfl, h4⟩ | ⟨hk, hn⟩
  · have hd8 : d < 8 := by omega
    rw [(SP_0 d).1, (SP_0 d).2.1, (SP_0 d).2.2] at hcd ⊢
    rw [rnI_ok (by omega), if_pos rfl, ixI_ok (by omega), lt1_k, ixI_ok (by omega), lt1_k, show ((d : Int) % 8).toNat = d by omega, hcd, bdI_s]
  · have hk3 : kd = 1 ∨ kd = 2 ∨ kd = 3 := by omega
    clear hk
    rcases hk3 with rfl | rfl | rfl
    · rw [(SP_1 d).1, (SP_1 d).2.1, (SP_1 d).2.2] at hcd ⊢
      rw [rnI_ok (by omega), if_neg (by decide), if_pos rfl, hcd, bdI_s]
    · rw [(SP_2 d).1, (SP_2 d).2.1, (SP_2 d).2.2] at hcd ⊢
      rw [rnI_ok (by omega), if_neg (by decide), if_neg (by decide), if_pos rfl, ixor_c (by omega) (by omega), show ((d : Int) % 2 + (d : Int) / 2 % 2) % 2 = ((d : Int) + (d : Int) / 2) % 2 by omega, hcd, bdI_s]
    · rw [(SP_3 d).1, (SP_3 d).2.1, (SP_3 d).2.2] at hcd ⊢
      rw [rnI_ok (by omega), if_neg (by decide), if_neg (by decide), if_neg (by decide), rnI_ok (by omega), ixor_c (a := 1) (b := (d : Int) % 2) (by omega) (by omega), ixor_c (by omega) (by omega), show ((1 + (d : Int) % 2) % 2 + (d : Int) / 2 % 2) % 2 = (1 + (d : Int) + (d : Int) / 2) % 2 by omega, hcd, bdI_s]
/-- the hall notes where all begin -/
theorem h_layL {kd : Int} {n : Nat} (ho : o < 2) (h : SETk kd n) (K : St → Option St) : ∀ (j x q : Nat) (t : St), x + j = 2 * n → j < q → ∃ u : St, f_X3_lay_L12 N o K kd ((2 * n : Nat) : Int) q x t = K u ∧ (∀ a, a ≠ 393 + 10 * o → a ≠ 394 + 10 * o → u.1 a = t.1 a) ∧ (∀ d, (d < x ∨ 2 * n ≤ d) → u.1 (393 + 10 * o) d = t.1 (393 + 10 * o) d ∧ u.1 (394 + 10 * o) d = t.1 (394 + 10 * o) d) ∧ (∀ d, x ≤ d → d < 2 * n → u.1 (393 + 10 * o) d = 0 ∧ u.1 (394 + 10 * o) d = cdZ (SPX kd d) (SPY kd d) (SPW kd d)) ∧ u.2 = t.2 := by
  have h64 := (SP_fx h).1
  intro j
  induction j with
  | zero =>
    intro x q t h1 h2
    obtain ⟨q, rfl⟩ : ∃ q', q = q' + 1 := ⟨q - 1, by omega⟩
    refine ⟨t, ?_, fun _ _ _ => rfl, fun _ _ => ⟨rfl, rfl⟩, fun d z1 z2 => by omega, rfl⟩
    conv => lhs; unfold f_X3_lay_L12
    rw [cmpI_ok (by omega), if_neg (by omega)]
  | succ j ih =>
    intro x q t h1 h2
    obtain ⟨q, rfl⟩ : ∃ q', q = q' + 1 := ⟨q - 1, by omega⟩
    obtain ⟨u, g1, g2, g3, g4, g5⟩ := ih (x + 1) q (pI (pI t (394 + 10 * o) x (cdZ (SPX kd x) (SPY kd x) (SPW kd x))) (393 + 10 * o) x 0) (by omega) (by omega)
    refine ⟨u, ?_, fun a z1 z2 => by rw [g2 a z1 z2, pI_ne z1, pI_ne z2], fun d z => ?_, fun d z1 z2 => ?_, by rw [g5]; rfl⟩
    · conv => lhs; unfold f_X3_lay_L12
      rw [cmpI_ok (by omega), if_pos (by omega), h_startOf h (by omega), bdI_s, ixI_ok (by omega), lt1_k, Int.toNat_natCast, ixI_ok (by omega), lt1_k, show (x : Int) + 1 = ((x + 1 : Nat) : Int) by omega]
      exact g1
    · have g := g3 d (by omega)
      rw [g.1, g.2, pI_nf (by omega), pI_ne (by omega), pI_ne (by omega), pI_nf (by omega)]
      exact ⟨rfl, rfl⟩
    · by_cases hd : d = x
      · subst hd
        have g := g3 d (by omega)
        rw [g.1, g.2, pI_at, pI_ne (by omega), pI_at]
        exact ⟨rfl, rfl⟩
      · exact g4 d (by omega) z2
/-- the model sets one down -/
def STD (m : St) (d : Nat) (x y w : Int) : St := pI (pI (pI (pI m 38 d x) 39 d y) 40 d w) 41 d 0
theorem m_std {d : Nat} {x y w : Int} (hd : d < 64) : f_X12_stands N d x y w m = some (STD m d x y w) := by
  unfold f_X12_stands STD
  simp only [lt1_k]
  rw [ixI_ok (by omega), ixI_ok (by omega), ixI_ok (by omega), ixI_ok (by omega), Int.toNat_natCast]
theorem STD_at {d : Nat} {x y w : Int} : (STD m d x y w).1 38 d = x ∧ (STD m d x y w).1 39 d = y ∧ (STD m d x y w).1 40 d = w ∧ (STD m d x y w).1 41 d = 0 := by
  unfold STD
  exact ⟨by rw [pI_ne (by decide), pI_ne (by decide), pI_ne (by decide), pI_at], by rw [pI_ne (by decide), pI_ne (by decide), pI_at], by rw [pI_ne (by decide), pI_at], pI_at⟩
theorem STD_o {d a b : Nat} {x y w : Int} (h : (a < 38 ∨ 41 < a) ∨ b ≠ d) : (STD m d x y w).1 a b = m.1 a b := by
  unfold STD
  rw [pI_of (by omega), pI_of (by omega), pI_of (by omega), pI_of (by omega)]
/-- j dancers stand as they begin -/
def SPr (kd : Int) (j : Nat) (m : St) : Prop := ∀ d, d < j → m.1 38 d = SPX kd d ∧ m.1 39 d = SPY kd d ∧ m.1 40 d = SPW kd d ∧ m.1 41 d = 0
theorem SPr.s {kd : Int} {j : Nat} (h : SPr kd j m) : SPr kd (j + 1) (STD m j (SPX kd j) (SPY kd j) (SPW kd j)) := fun d hd => by
  by_cases hdj : d = j
  · subst hdj; exact STD_at
  · rw [STD_o (by omega), STD_o (by omega), STD_o (by omega), STD_o (by omega)]
    exact h d (by omega)
theorem m_begL {kd : Int} {n : Nat} (hk : 1 ≤ kd ∧ kd ≤ 3) (hn : n ≤ 32) (K : St → Option (Int × St)) : ∀ (j i q : Nat) (m : St), i + j = n → j < q → SPr kd (2 * i) m → ∃ v : St, f_X12_begins_L120 N K kd n q i m = K v ∧ SPr kd (2 * n) v ∧ (∀ a b : Nat, (a < 38 ∨ 41 < a) ∨ 2 * n ≤ b → v.1 a b = m.1 a b) ∧ v.2 = m.2 := by
  intro j
  induction j with
  | zero =>
    intro i q m h1 h2 h3
    obtain ⟨q, rfl⟩ : ∃ q', q = q' + 1 := ⟨q - 1, by omega⟩
    have : i = n := by omega
    subst this
    refine ⟨m, ?_, h3, fun _ _ _ => rfl, rfl⟩
    conv => lhs; unfold f_X12_begins_L120
    rw [cmpI_ok (by omega), if_neg (by omega)]
  | succ j ih =>
    intro i q m h1 h2 h3
    obtain ⟨q, rfl⟩ : ∃ q', q = q' + 1 := ⟨q - 1, by omega⟩
    have s2 := h3.s.s
    obtain ⟨v, g1, g2, g3, g4⟩ := ih (i + 1) q _ (by omega) (by omega) (by rw [show 2 * (i + 1) = 2 * i + 1 + 1 by omega]; exact s2)
    refine ⟨v, ?_, g2, fun a b z => by rw [g3 a b (by omega), STD_o (by omega), STD_o (by omega)], by rw [g4]; rfl⟩
    rw [← g1]
    conv => lhs; unfold f_X12_begins_L120
    simp only [jn1_k]
    have e2 : (2 : Int) * (i : Int) = ((2 * i : Nat) : Int) := by omega
    have e3 : ((2 * i : Nat) : Int) + 1 = ((2 * i + 1 : Nat) : Int) := by omega
    have fin : ∀ (x0 y0 w0 x1 y1 w1 : Int), x0 = SPX kd (2 * i) → y0 = SPY kd (2 * i) → w0 = SPW kd (2 * i) → x1 = SPX kd (2 * i + 1) → y1 = SPY kd (2 * i + 1) → w1 = SPW kd (2 * i + 1) → (bdV (f_X12_stands N ((2 * i : Nat) : Int) x0 y0 w0 m) fun t50 => bdV (f_X12_stands N ((2 * i + 1 : Nat) : Int) x1 y1 w1 t50) fun t51 => f_X12_begins_L120 N K kd n q ((i : Int) + 1) t51) = f_X12_begins_L120 N K kd n q ((i + 1 : Nat) : Int) (STD (STD m (2 * i) (SPX kd (2 * i)) (SPY kd (2 * i)) (SPW kd (2 * i))) (2 * i + 1) (SPX kd (2 * i + 1)) (SPY kd (2 * i + 1)) (SPW kd (2 * i + 1))) := fun x0 y0 w0 x1 y1 w1 z1 z2 z3 z4 z5 z6 => by
      rw [m_std (d := 2 * i) (by omega), bdV_s, m_std (d := 2 * i + 1) (by omega), bdV_s, z1, z2, z3, z4, z5, z6]
      rfl
    rw [cmpI_ok (by omega), if_pos (by omega), cmpI_ok (by omega), if_pos (by omega), dvI_ok (by omega), cmpI_ok (by omega), e2, e3]
    have c0 : ∀ (Z : Option (Int × St)), cmpI 0 0 Z = Z := fun Z => cmpI_ok (by omega)
    have c1 : ∀ (Z : Option (Int × St)), cmpI 1 0 Z = Z := fun Z => cmpI_ok (by omega)
    have dv : ∀ (Z : Option (Int × St)), dvI (i : Int) 2 Z = Z := fun Z => dvI_ok (by omega)
    have ck1 : ∀ (Z : Option (Int × St)), cmpI kd 1 Z = Z := fun Z => cmpI_ok (by omega)
    have ck2 : ∀ (Z : Option (Int × St)), cmpI kd 2 Z = Z := fun Z => cmpI_ok (by omega)
    simp only [c0, c1, dv, ck1, ck2]
    have hk3 : kd = 1 ∨ kd = 2 ∨ kd = 3 := by omega
    have n10 : ((1 : Int) = 0) = False := eq_false (by decide)
    clear hk ck1 ck2
    by_cases hp : (i : Int) % 2 = 0
    · rw [if_pos hp]
      rcases hk3 with rfl | rfl | rfl
      · rw [if_pos rfl]
        exact fin _ _ _ _ _ _ (by rw [(SP_1 _).1]; omega) (by rw [(SP_1 _).2.1]; omega) (by rw [(SP_1 _).2.2]; omega) (by rw [(SP_1 _).1]; omega) (by rw [(SP_1 _).2.1]; omega) (by rw [(SP_1 _).2.2]; omega)
      · rw [if_neg (by decide), if_pos rfl]
        simp only [n10, if_false]
        exact fin _ _ _ _ _ _ (by rw [(SP_2 _).1]; omega) (by rw [(SP_2 _).2.1]; omega) (by rw [(SP_2 _).2.2]; omega) (by rw [(SP_2 _).1]; omega) (by rw [(SP_2 _).2.1]; omega) (by rw [(SP_2 _).2.2]; omega)
      · rw [if_neg (by decide), if_neg (by decide)]
        simp only [n10, if_false]
        exact fin _ _ _ _ _ _ (by rw [(SP_3 _).1]; omega) (by rw [(SP_3 _).2.1]; omega) (by rw [(SP_3 _).2.2]; omega) (by rw [(SP_3 _).1]; omega) (by rw [(SP_3 _).2.1]; omega) (by rw [(SP_3 _).2.2]; omega)
    · rw [if_neg hp]
      rcases hk3 with rfl | rfl | rfl
      · rw [if_pos rfl]
        exact fin _ _ _ _ _ _ (by rw [(SP_1 _).1]; omega) (by rw [(SP_1 _).2.1]; omega) (by rw [(SP_1 _).2.2]; omega) (by rw [(SP_1 _).1]; omega) (by rw [(SP_1 _).2.1]; omega) (by rw [(SP_1 _).2.2]; omega)
      · rw [if_neg (by decide), if_pos rfl]
        simp only [if_true]
        exact fin _ _ _ _ _ _ (by rw [(SP_2 _).1]; omega) (by rw [(SP_2 _).2.1]; omega) (by rw [(SP_2 _).2.2]; omega) (by rw [(SP_2 _).1]; omega) (by rw [(SP_2 _).2.1]; omega) (by rw [(SP_2 _).2.2]; omega)
      · rw [if_neg (by decide), if_neg (by decide)]
        simp only [if_true]
        exact fin _ _ _ _ _ _ (by rw [(SP_3 _).1]; omega) (by rw [(SP_3 _).2.1]; omega) (by rw [(SP_3 _).2.2]; omega) (by rw [(SP_3 _).1]; omega) (by rw [(SP_3 _).2.1]; omega) (by rw [(SP_3 _).2.2]; omega)
end
