/-! the hall squares a row of places -/
def mnR (R : Nat → Int) : Nat → Int
  | 0 => R 0
  | d + 1 => min (mnR R d) (R d)
def mxR (R : Nat → Int) : Nat → Int
  | 0 => R 0
  | d + 1 => max (mxR R d) (R d)
theorem mn_le {R : Nat → Int} {a b : Int} (h0 : a ≤ R 0 ∧ R 0 ≤ b) : ∀ n, (∀ d, d < n → a ≤ R d ∧ R d ≤ b) → (∀ d, d < n → mnR R n ≤ R d ∧ R d ≤ mxR R n) ∧ a ≤ mnR R n ∧ mxR R n ≤ b ∧ mnR R n ≤ mxR R n := by
  intro n
  induction n with
  | zero => intro _; exact ⟨fun d hd => by omega, h0.1, h0.2, Int.le_refl _⟩
  | succ n ih =>
    intro h
    have ih := ih (fun d hd => h d (by omega))
    have hn := h n (by omega)
    have e1 : mnR R (n + 1) = min (mnR R n) (R n) := rfl
    have e2 : mxR R (n + 1) = max (mxR R n) (R n) := rfl
    refine ⟨fun d hd => ?_, by omega, by omega, by omega⟩
    by_cases hdn : d = n
    · subst hdn; omega
    · have := ih.1 d (by omega); omega
section
variable {q0 n : Nat} {t : St} {R : Nat → Int} {lo : Int} {W : Nat}
theorem sq_12 (hn : 1 ≤ n ∧ n ≤ 64) (hR : t.1 q0 = R) (hb : ∀ d, d < n → -64 ≤ R d ∧ R d ≤ 316) (K : Int → Int → St → Option St) : ∀ (i d q : Nat), d + i = n → 1 ≤ d → i < q → f_X1_square_L12 q0 64 K n q (mnR R d) (mxR R d) d t = K (mnR R n) (mxR R n) t := by
  intro i
  induction i with
  | zero =>
    intro d q h1 _ h2
    obtain ⟨q, rfl⟩ : ∃ k, q = k + 1 := ⟨q - 1, by omega⟩
    have : d = n := by omega
    subst this
    unfold f_X1_square_L12
    rw [cmpI_ok (by omega), if_neg (by omega)]
  | succ i ih =>
    intro d q h1 h3 h2
    obtain ⟨q, rfl⟩ : ∃ k, q = k + 1 := ⟨q - 1, by omega⟩
    have hd := hb d (by omega)
    have hm := mn_le (hb 0 (by omega)) d (fun e he => hb e (by omega))
    unfold f_X1_square_L12
    simp only [lt1_k, Int.toNat_natCast, hR]
    rw [cmpI_ok (by omega), if_pos (by omega), ixI_ok (by omega), cmpI_ok (by omega), ixI_ok (by omega), cmpI_ok (by omega), show ((d : Int) + 1) = ((d + 1 : Nat) : Int) by omega]
    exact ih (d + 1) q (by omega) (by omega) (by omega)
theorem sq_61 (hW : W ≤ 512) (K : St → Option St) : ∀ (i d q : Nat) (F : Nat → Int), d + i = W → i < q → (∀ x, x < d → F x = 0) → ∃ G : Nat → Int, f_X1_square_L61 K W q d (pA t 377 F) = K (pA t 377 G) ∧ ∀ x, x < W → G x = 0 := by
  intro i
  induction i with
  | zero =>
    intro d q F h1 h2 h3
    obtain ⟨q, rfl⟩ : ∃ k, q = k + 1 := ⟨q - 1, by omega⟩
    have : d = W := by omega
    subst this
    refine ⟨F, ?_, h3⟩
    unfold f_X1_square_L61
    rw [cmpI_ok (by omega), if_neg (by omega)]
  | succ i ih =>
    intro d q F h1 h2 h3
    obtain ⟨q, rfl⟩ : ∃ k, q = k + 1 := ⟨q - 1, by omega⟩
    unfold f_X1_square_L61
    rw [cmpI_ok (by omega), if_pos (by omega), ixI_ok (by omega), lt1_k, Int.toNat_natCast, pA_I, show ((d : Int) + 1) = ((d + 1 : Nat) : Int) by omega]
    refine ih (d + 1) q _ (by omega) (by omega) (fun x hx => ?_)
    by_cases hxd : x = d
    · rw [hxd, fup_at]
    · rw [fup_ne hxd]; exact h3 x (by omega)
theorem sq_85 (hq0 : q0 ≠ 377) (hn : n ≤ 64) (hR : t.1 q0 = R) (hW : W ≤ 512) (hb : ∀ d, d < n → lo ≤ R d ∧ R d < lo + (W : Int)) (K : St → Option St) : ∀ (i d q : Nat) (F : Nat → Int), d + i = n → i < q → (∀ x, x < W → F x = if prB R lo d x = true then 1 else 0) → ∃ G : Nat → Int, f_X1_square_L85 q0 64 K n lo q d (pA t 377 F) = K (pA t 377 G) ∧ ∀ x, x < W → G x = if prB R lo n x = true then 1 else 0 := by
  intro i
  induction i with
  | zero =>
    intro d q F h1 h2 h3
    obtain ⟨q, rfl⟩ : ∃ k, q = k + 1 := ⟨q - 1, by omega⟩
    have : d = n := by omega
    subst this
    refine ⟨F, ?_, h3⟩
    unfold f_X1_square_L85
    rw [cmpI_ok (by omega), if_neg (by omega)]
  | succ i ih =>
    intro d q F h1 h2 h3
    obtain ⟨q, rfl⟩ : ∃ k, q = k + 1 := ⟨q - 1, by omega⟩
    have hd := hb d (by omega)
    unfold f_X1_square_L85
    simp only [lt1_k, Int.toNat_natCast, pA_ne hq0, hR]
    rw [cmpI_ok (by omega), if_pos (by omega), ixI_ok (by omega), ixI_ok (by omega), show (R d - lo) % 512 = R d - lo by omega, pA_I, show ((d : Int) + 1) = ((d + 1 : Nat) : Int) by omega]
    refine ih (d + 1) q _ (by omega) (by omega) (fun x hx => ?_)
    rw [prB_s]
    by_cases hxd : x = (R d - lo).toNat
    · rw [hxd, fup_at, decide_eq_true (by omega), Bool.or_true, if_pos rfl]
    · rw [fup_ne hxd, h3 x hx, decide_eq_false (by omega), Bool.or_false]
theorem sq_119 (hW : W ≤ 512) {P : Nat → Bool} (K : St → Option St) : ∀ (i d q : Nat) (F : Nat → Int), d + i = W → i < q → (∀ x, x < d → P x = true → F x = 4 * (cntP P x : Int)) → (∀ x, d ≤ x → x < W → F x = if P x = true then 1 else 0) → ∃ G : Nat → Int, f_X1_square_L119 K W q (4 * (cntP P d : Int)) d (pA t 377 F) = K (pA t 377 G) ∧ ∀ x, x < W → P x = true → G x = 4 * (cntP P x : Int) := by
  intro i
  induction i with
  | zero =>
    intro d q F h1 h2 h3 h4
    obtain ⟨q, rfl⟩ : ∃ k, q = k + 1 := ⟨q - 1, by omega⟩
    have : d = W := by omega
    subst this
    refine ⟨F, ?_, h3⟩
    unfold f_X1_square_L119
    rw [cmpI_ok (by omega), if_neg (by omega)]
  | succ i ih =>
    intro d q F h1 h2 h3 h4
    obtain ⟨q, rfl⟩ : ∃ k, q = k + 1 := ⟨q - 1, by omega⟩
    have hd := h4 d (Nat.le_refl _) (by omega)
    unfold f_X1_square_L119
    simp only [lt1_k, jn1_k, Int.toNat_natCast, pA_at]
    rw [cmpI_ok (by omega), if_pos (by omega), ixI_ok (by omega), hd, cmpI_ok (by split <;> omega), show ((d : Int) + 1) = ((d + 1 : Nat) : Int) by omega]
    have hc : cntP P (d + 1) = cntP P d + (if P d = true then 1 else 0) := cntP_s
    cases hp : P d with
    | true =>
      rw [hp, if_pos rfl] at hc
      rw [if_pos rfl, if_neg (by decide), ixI_ok (by omega), pA_I, show 4 * (cntP P d : Int) + 4 = 4 * (cntP P (d + 1) : Int) by omega]
      refine ih (d + 1) q _ (by omega) (by omega) (fun x hx hpx => ?_) (fun x hx hxW => ?_)
      · by_cases hxd : x = d
        · rw [hxd, fup_at]
        · rw [fup_ne hxd]; exact h3 x (by omega) hpx
      · rw [fup_ne (by omega)]; exact h4 x (by omega) hxW
    | false =>
      rw [hp, if_neg (by decide)] at hc
      rw [if_neg (by decide : ¬ (false = true)), if_pos rfl, show 4 * (cntP P d : Int) = 4 * (cntP P (d + 1) : Int) by omega]
      refine ih (d + 1) q F (by omega) (by omega) (fun x hx hpx => ?_) (fun x hx hxW => h4 x (by omega) hxW)
      by_cases hxd : x = d
      · rw [hxd, hp] at hpx; cases hpx
      · exact h3 x (by omega) hpx
theorem sq_157 (hq0 : q0 ≠ 377) (hn : n ≤ 64) (hW : W ≤ 512) (hb : ∀ d, d < n → lo ≤ R d ∧ R d < lo + (W : Int)) {G V : Nat → Int} (hG : ∀ d, d < n → G (R d - lo).toNat = V d) (K : St → Option St) : ∀ (i d q : Nat) (Q : Nat → Int), d + i = n → i < q → (∀ x, x < d → Q x = V x) → (∀ x, d ≤ x → x < n → Q x = R x) → ∃ Q2 : Nat → Int, f_X1_square_L157 q0 64 K n lo q d (pA (pA t 377 G) q0 Q) = K (pA (pA t 377 G) q0 Q2) ∧ ∀ x, x < n → Q2 x = V x := by
  intro i
  induction i with
  | zero =>
    intro d q Q h1 h2 h3 h4
    obtain ⟨q, rfl⟩ : ∃ k, q = k + 1 := ⟨q - 1, by omega⟩
    have : d = n := by omega
    subst this
    refine ⟨Q, ?_, h3⟩
    unfold f_X1_square_L157
    rw [cmpI_ok (by omega), if_neg (by omega)]
  | succ i ih =>
    intro d q Q h1 h2 h3 h4
    obtain ⟨q, rfl⟩ : ∃ k, q = k + 1 := ⟨q - 1, by omega⟩
    have hd := hb d (by omega)
    unfold f_X1_square_L157
    simp only [lt1_k, Int.toNat_natCast, pA_at, pA_ne (Ne.symm hq0)]
    rw [cmpI_ok (by omega), if_pos (by omega), ixI_ok (by omega), h4 d (Nat.le_refl _) (by omega), show (R d - lo) % 512 = R d - lo by omega, ixI_ok (by omega), ixI_ok (by omega), hG d (by omega), pA_I, show ((d : Int) + 1) = ((d + 1 : Nat) : Int) by omega]
    refine ih (d + 1) q _ (by omega) (by omega) (fun x hx => ?_) (fun x hx hxn => ?_)
    · by_cases hxd : x = d
      · rw [hxd, fup_at]
      · rw [fup_ne hxd]; exact h3 x (by omega)
    · rw [fup_ne (by omega)]; exact h4 x (by omega) hxn
end
theorem h_square {N q0 n : Nat} {t : St} {R : Nat → Int} (hq0 : q0 ≠ 377) (hn : 1 ≤ n ∧ n ≤ 64) (hR : t.1 q0 = R) (hb : ∀ d, d < n → -64 ≤ R d ∧ R d ≤ 316) (hN : 1000 ≤ N) : ∃ G Q : Nat → Int, f_X1_square N q0 64 n t = some (pA (pA t 377 G) q0 Q) ∧ ∀ d, d < n → Q d = 4 * (rk9 R (R d) n : Int) := by
  have hm := mn_le (hb 0 (by omega)) n hb
  obtain ⟨W, hW⟩ : ∃ W : Nat, mxR R n - mnR R n + 1 = (W : Int) := ⟨(mxR R n - mnR R n + 1).toNat, by omega⟩
  have hb2 : ∀ d, d < n → mnR R n ≤ R d ∧ R d < mnR R n + (W : Int) := fun d hd => by have := hm.1 d hd; omega
  obtain ⟨G1, a1, a2⟩ := sq_61 (t := t) (W := W) (by omega) (fun (t21 : St) => f_X1_square_L85 q0 64 (fun (t30 : St) => f_X1_square_L119 (fun (t43 : St) => f_X1_square_L157 q0 64 (fun (t52 : St) => some t52) n (mnR R n) N 0 t43) (W : Int) N 0 0 t30) n (mnR R n) N 0 t21) W 0 N (t.1 377) (by omega) (by omega) (fun x hx => by omega)
  obtain ⟨G2, b1, b2⟩ := sq_85 (t := t) (q0 := q0) (n := n) (R := R) (lo := mnR R n) (W := W) hq0 hn.2 hR (by omega) hb2 (fun (t30 : St) => f_X1_square_L119 (fun (t43 : St) => f_X1_square_L157 q0 64 (fun (t52 : St) => some t52) n (mnR R n) N 0 t43) (W : Int) N 0 0 t30) n 0 N G1 (by omega) (by omega) (fun x hx => by rw [a2 x hx]; rfl)
  obtain ⟨G3, c1, c2⟩ := sq_119 (t := t) (W := W) (P := prB R (mnR R n) n) (by omega) (fun (t43 : St) => f_X1_square_L157 q0 64 (fun (t52 : St) => some t52) n (mnR R n) N 0 t43) W 0 N G2 (by omega) (by omega) (fun x hx => by omega) (fun x _ hx => b2 x hx)
  obtain ⟨Q, d1, d2⟩ := sq_157 (t := t) (q0 := q0) (n := n) (R := R) (lo := mnR R n) (W := W) (G := G3) (V := fun d => 4 * (rk9 R (R d) n : Int)) hq0 hn.2 (by omega) hb2 (fun d hd => by
    have h9 := hb2 d hd
    rw [c2 (R d - mnR R n).toNat (by omega) ((prB_iff n).mpr ⟨d, hd, by omega⟩), rk_cnt n (fun e he => (hb2 e he).1), show mnR R n + ((R d - mnR R n).toNat : Int) = R d by omega]) (fun (t52 : St) => some t52) n 0 N R (by omega) (by omega) (fun x hx => by omega) (fun x _ _ => rfl)
  refine ⟨G3, Q, ?_, d2⟩
  have z0 : ((0 : Nat) : Int) = 0 := rfl
  rw [pA_self, z0] at a1
  rw [z0] at b1
  rw [show 4 * (cntP (prB R (mnR R n) n) 0 : Int) = 0 from rfl, z0] at c1
  have hs : pA (pA t 377 G3) q0 R = pA t 377 G3 := by
    have : (pA t 377 G3).1 q0 = R := by rw [pA_ne hq0, hR]
    rw [← this, pA_self]
  rw [hs, z0] at d1
  have e12 := sq_12 (q0 := q0) (n := n) (t := t) (R := R) hn hR hb (fun (k11 : Int) (k12 : Int) (t13 : St) => cmpI ((k12 - k11) + 1) 512 (f_X1_square_L61 (fun (t21 : St) => f_X1_square_L85 q0 64 (fun (t30 : St) => f_X1_square_L119 (fun (t43 : St) => f_X1_square_L157 q0 64 (fun (t52 : St) => some t52) n k11 N 0 t43) (min ((k12 - k11) + 1) 512) N 0 0 t30) n k11 N 0 t21) (min ((k12 - k11) + 1) 512) N 0 t13)) (n - 1) 1 N (by omega) (by omega) (by omega)
  rw [show mnR R 1 = R 0 from Int.min_self _, show mxR R 1 = R 0 from Int.max_self _] at e12
  unfold f_X1_square
  rw [ixI_ok (by omega), lt1_k, ixI_ok (by omega), lt1_k, show ((0 : Int).toNat) = 0 from rfl, hR]
  refine Eq.trans e12 ?_
  rw [cmpI_ok (by omega), show min (mxR R n - mnR R n + 1) 512 = (W : Int) by omega, a1, b1, c1, d1]
