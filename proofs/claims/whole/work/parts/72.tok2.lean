/-! words, numbers and signs of the model -/
theorem pI_comm {t : St} {k i j : Nat} {a b : Int} (h : i ≠ j) : pI (pI t k i a) k j b = pI (pI t k j b) k i a := by
  unfold pI
  refine Prod.ext ?_ rfl
  funext x y
  show (bif Nat.beq x k && Nat.beq y j then b else bif Nat.beq x k && Nat.beq y i then a else t.1 x y) = (bif Nat.beq x k && Nat.beq y i then a else bif Nat.beq x k && Nat.beq y j then b else t.1 x y)
  cases hx : Nat.beq x k with
  | false => rfl
  | true =>
    cases hi : Nat.beq y i with
    | false => cases Nat.beq y j <;> rfl
    | true =>
      have e1 := Nat.eq_of_beq_eq_true hi
      have : Nat.beq y j = false := Bool.eq_false_iff.mpr (fun q => h (e1.symm.trans (Nat.eq_of_beq_eq_true q)))
      rw [this]; rfl
theorem s_isLetter {N : Nat} {a : Int} {t : St} (ha : inR a) : f_X12_isLetter N a t = some (if isLt a then 1 else 0, t) := by
  unfold f_X12_isLetter
  simp only [jn1_k]
  simp (disch := omega) only [cmpI_ok, boI_0, boI_1]
  by_cases h1 : a < 97
  · rw [if_pos h1]
    by_cases h2 : a < 65
    · rw [if_pos h2, if_neg (by omega)]
    · rw [if_neg h2]
      by_cases h3 : 90 < a
      · rw [if_pos h3, if_neg (by omega)]
      · rw [if_neg h3, if_pos (by omega)]
  · rw [if_neg h1]
    by_cases h2 : 122 < a
    · rw [if_pos h2, if_neg (by omega), if_pos (by omega), if_neg (by omega)]
    · rw [if_neg h2, if_pos (by omega)]
theorem s_isDigit {N : Nat} {a : Int} {t : St} (ha : inR a) : f_X12_isDigit N a t = some (if isDg a then 1 else 0, t) := by
  unfold f_X12_isDigit
  simp (disch := omega) only [cmpI_ok, boI_0, boI_1]
  by_cases h1 : a < 48
  · rw [if_pos h1, if_neg (by omega)]
  · rw [if_neg h1]
    by_cases h2 : 57 < a
    · rw [if_pos h2, if_neg (by omega)]
    · rw [if_neg h2, if_pos (by omega)]
abbrev isWc (c : Int) : Prop := isLt c ∨ isDg c ∨ c = 95
def wnd (B : Nat → Int) (e : Nat) : Nat → Nat → Nat
  | 0, p => p
  | d + 1, p => if p < e ∧ isWc (B p) then wnd B e d (p + 1) else p
theorem s_wnd {N : Nat} {t : St} {B : Nat → Int} {e : Nat} (h : mTx t B e) (K : St → Option St) : ∀ (d p n : Nat), e ≤ p + d → p ≤ e → d < n → f_X12_next_L128 N K n (pI t 200 2 p) = K (pI t 200 2 (wnd B e d p)) := by
  have hend : ∀ n p : Nat, p = e → f_X12_next_L128 N K (n + 1) (pI t 200 2 p) = K (pI t 200 2 p) := by
    intro n p hp
    subst hp
    unfold f_X12_next_L128
    simp only [lt1_k, jn1_k]
    rw [pI_at, s_byteAt2 h (Nat.le_refl _), bdI_s, h.end, s_isLetter (by omega), if_neg (by omega), bdI_s, cmpI_ok (by omega), if_pos rfl, pI_at, s_byteAt2 h (Nat.le_refl _), bdI_s, h.end, s_isDigit (by omega), if_neg (by omega), bdI_s, cmpI_ok (by omega), if_pos rfl, pI_at, s_byteAt2 h (Nat.le_refl _), bdI_s, h.end, cmpI_ok (by omega), if_neg (by omega)]
  intro d
  induction d with
  | zero =>
    intro p n h1 h2 h3
    obtain ⟨n, rfl⟩ : ∃ k, n = k + 1 := ⟨n - 1, by omega⟩
    rw [hend n p (by omega)]; rfl
  | succ d ih =>
    intro p n h1 h2 h3
    obtain ⟨n, rfl⟩ : ∃ k, n = k + 1 := ⟨n - 1, by omega⟩
    by_cases hp : p < e
    · have hr := h.2.2 p hp
      unfold f_X12_next_L128 wnd
      simp only [lt1_k, jn1_k]
      rw [pI_at, s_byteAt2 h h2, bdI_s, h.at hp, s_isLetter (by omega), bdI_s, cmpI_ok (by split <;> omega), pI_at, pI_pI]
      by_cases hl : isLt (B p)
      · rw [if_pos hl, if_neg (by decide), if_pos ⟨hp, Or.inl hl⟩, show ((p : Int) + 1) = ((p + 1 : Nat) : Int) from by omega]
        exact ih (p + 1) n (by omega) (by omega) (by omega)
      · rw [if_neg hl, if_pos rfl, s_byteAt2 h h2, bdI_s, h.at hp, s_isDigit (by omega), bdI_s, cmpI_ok (by split <;> omega), pI_at, pI_pI]
        by_cases hd : isDg (B p)
        · rw [if_pos hd, if_neg (by decide), if_pos ⟨hp, Or.inr (Or.inl hd)⟩, show ((p : Int) + 1) = ((p + 1 : Nat) : Int) from by omega]
          exact ih (p + 1) n (by omega) (by omega) (by omega)
        · rw [if_neg hd, if_pos rfl, s_byteAt2 h h2, bdI_s, h.at hp, cmpI_ok (by omega), pI_at, pI_pI]
          by_cases hu : B p = 95
          · rw [if_pos hu, if_pos ⟨hp, Or.inr (Or.inr hu)⟩, show ((p : Int) + 1) = ((p + 1 : Nat) : Int) from by omega]
            exact ih (p + 1) n (by omega) (by omega) (by omega)
          · rw [if_neg hu, if_neg (fun q => q.2.elim hl (fun q => q.elim hd hu))]
    · rw [hend n p (by omega)]
      unfold wnd
      rw [if_neg (fun q => hp q.1)]
def nvf (B : Nat → Int) (e : Nat) : Nat → Nat → Int → Int → Int × Int × Nat
  | 0, p, g, v => (g, v, p)
  | d + 1, p, g, v => if p < e ∧ isDg (B p) then nvf B e d (p + 1) (g + 1) (if g + 1 < 6 then 10 * v + B p - 48 else v) else (g, v, p)
theorem s_nvf {N : Nat} {t : St} {B : Nat → Int} {e : Nat} (h : mTx t B e) (K : Int → St → Option St) : ∀ (d p n : Nat) (g v : Int), e ≤ p + d → p ≤ e → d < n → 0 ≤ g → g + d ≤ 5000 →
    f_X12_next_L289 N K n g (pI (pI t 200 5 v) 200 2 p) = K (nvf B e d p g v).1 (pI (pI t 200 5 (nvf B e d p g v).2.1) 200 2 (nvf B e d p g v).2.2) := by
  have h5 : ∀ v : Int, mTx (pI t 200 5 v) B e := fun v => h.up (by decide)
  have mB5 : ∀ (v q : Int), mB (pI t 200 5 v) q = mB t q := fun v q => by unfold mB; rw [pI_nf (show 7 ≠ 5 by decide), pI_ne (show 0 ≠ 200 by decide)]
  have hend : ∀ (n p : Nat) (g v : Int), p = e → f_X12_next_L289 N K (n + 1) g (pI (pI t 200 5 v) 200 2 p) = K g (pI (pI t 200 5 v) 200 2 p) := by
    intro n p g v hp
    subst hp
    unfold f_X12_next_L289
    simp only [lt1_k, jn1_k]
    rw [pI_at, s_byteAt2 (h5 v) (Nat.le_refl _), bdI_s, (h5 v).end, s_isDigit (by omega), if_neg (by omega), bdI_s, cmpI_ok (by omega), if_pos rfl]
  intro d
  induction d with
  | zero =>
    intro p n g v h1 h2 h3 h4 h6
    obtain ⟨n, rfl⟩ : ∃ k, n = k + 1 := ⟨n - 1, by omega⟩
    rw [hend n p g v (by omega)]; rfl
  | succ d ih =>
    intro p n g v h1 h2 h3 h4 h6
    obtain ⟨n, rfl⟩ : ∃ k, n = k + 1 := ⟨n - 1, by omega⟩
    by_cases hp : p < e
    · have hr := h.2.2 p hp
      unfold f_X12_next_L289 nvf
      simp only [lt1_k, jn1_k]
      rw [pI_at, s_byteAt2 (h5 v) h2, bdI_s, (h5 v).at hp, s_isDigit (by omega), bdI_s, cmpI_ok (by split <;> omega)]
      by_cases hd : isDg (B p)
      · rw [if_pos hd, if_neg (by decide), cmpI_ok (by omega), if_pos (show p < e ∧ isDg (B p) from ⟨hp, hd⟩)]
        have e1 : ∀ a b : Int, pI (pI (pI (pI t 200 5 v) 200 2 p) 200 5 a) 200 2 b = pI (pI t 200 5 a) 200 2 b := by
          intro a b
          rw [pI_comm (i := 2) (j := 5) (by decide), pI_pI, pI_pI]
        have e2 : (pI (pI t 200 5 v) 200 2 p).1 200 5 = v := by rw [pI_nf (by decide), pI_at]
        have e3 : ∀ a : Int, (pI (pI (pI t 200 5 v) 200 2 p) 200 5 a).1 200 2 = p := by
          intro a; rw [pI_nf (by decide), pI_at]
        by_cases h9 : g + 1 < 6
        · simp only [if_pos h9]
          rw [pI_at, s_byteAt2 (h5 v) h2, bdI_s, (h5 v).at hp, e3, e1, e2, show ((p : Int) + 1) = ((p + 1 : Nat) : Int) from by omega]
          exact ih (p + 1) n (g + 1) _ (by omega) (by omega) (by omega) (by omega) (by omega)
        · simp only [if_neg h9]
          rw [e3, e1, e2, show ((p : Int) + 1) = ((p + 1 : Nat) : Int) from by omega]
          exact ih (p + 1) n (g + 1) _ (by omega) (by omega) (by omega) (by omega) (by omega)
      · rw [if_neg hd, if_pos rfl, if_neg (fun q => hd q.2)]
    · rw [hend n p g v (by omega)]
      unfold nvf
      rw [if_neg (fun q => hp q.1)]
