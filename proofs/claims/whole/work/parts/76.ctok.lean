/-! the hall's blanks, words and numbers -/
theorem rmk_f {B : Nat → Int} {e : Nat} : ∀ (d d' p : Nat), e ≤ p + d → e ≤ p + d' → rmk B e d p = rmk B e d' p := by
  intro d
  induction d with
  | zero =>
    intro d' p h1 h2
    cases d' with
    | zero => rfl
    | succ d' => unfold rmk; rw [if_neg (by omega)]
  | succ d ih =>
    intro d' p h1 h2
    cases d' with
    | zero => unfold rmk; rw [if_neg (by omega)]
    | succ d' =>
      unfold rmk
      by_cases hp : p < e
      · rw [if_pos hp, if_pos hp, ih d' (p + 1) (by omega) (by omega)]
      · rw [if_neg hp, if_neg hp]
theorem rmk_gt {B : Nat → Int} {e p : Nat} (hp : p < e) (h : ¬ B p = 10) : p + 1 ≤ rmk B e e p := by
  obtain ⟨e0, rfl⟩ : ∃ k, e = k + 1 := ⟨e - 1, by omega⟩
  conv => rhs; unfold rmk
  rw [if_pos hp, if_neg h]
  exact (rmk_le (B := B) e0 (p + 1) (by omega)).1
theorem skp_f {B : Nat → Int} {e : Nat} : ∀ (d d' p : Nat), p ≤ e → e ≤ p + d → e ≤ p + d' → skp B e d p = skp B e d' p := by
  intro d
  induction d with
  | zero =>
    intro d' p h0 h1 h2
    cases d' with
    | zero => rfl
    | succ d' => unfold skp; rw [if_neg (by omega)]
  | succ d ih =>
    intro d' p h0 h1 h2
    cases d' with
    | zero => unfold skp; rw [if_neg (by omega)]
    | succ d' =>
      unfold skp
      by_cases hp : p < e
      · rw [if_pos hp, if_pos hp]
        by_cases hb : isBk (B p)
        · rw [if_pos hb, if_pos hb, ih d' (p + 1) (by omega) (by omega) (by omega)]
        · rw [if_neg hb, if_neg hb]
          by_cases h35 : B p = 35
          · have h3 := rmk_le (B := B) e p h0
            have h4 := rmk_gt (B := B) hp (by omega)
            rw [if_pos h35, if_pos h35, ih d' (rmk B e e p) (by omega) (by omega) (by omega)]
          · rw [if_neg h35, if_neg h35]
      · rw [if_neg hp, if_neg hp]
def SK (B : Nat → Int) (e p : Nat) : Nat := skp B e (e - p) p
def RM (B : Nat → Int) (e p : Nat) : Nat := rmk B e (e - p) p
theorem RM_eq {B : Nat → Int} {e p : Nat} (hp : p ≤ e) : RM B e p = if p < e then (if B p = 10 then p else RM B e (p + 1)) else p := by
  unfold RM
  by_cases h : p < e
  · rw [if_pos h, show e - p = (e - (p + 1)) + 1 from by omega]
    conv => lhs; unfold rmk
    rw [if_pos h]
  · rw [if_neg h, show e - p = 0 from by omega]; rfl
theorem SK_eq {B : Nat → Int} {e p : Nat} (hp : p ≤ e) : SK B e p = if p < e then (if isBk (B p) then SK B e (p + 1) else if B p = 35 then SK B e (RM B e p) else p) else p := by
  unfold SK
  by_cases h : p < e
  · rw [if_pos h, show e - p = (e - (p + 1)) + 1 from by omega]
    conv => lhs; unfold skp
    rw [if_pos h]
    by_cases hb : isBk (B p)
    · rw [if_pos hb, if_pos hb]
    · rw [if_neg hb, if_neg hb]
      by_cases h35 : B p = 35
      · have h3 := rmk_le (B := B) e p hp
        have h4 := rmk_gt (B := B) h (by omega)
        have h5 : RM B e p = rmk B e e p := rmk_f _ _ _ (by omega) (by omega)
        rw [if_pos h35, if_pos h35, h5]
        exact skp_f _ _ _ (by omega) (by omega) (by omega)
      · rw [if_neg h35, if_neg h35]
  · rw [if_neg h, show e - p = 0 from by omega]; rfl
theorem RM_le {B : Nat → Int} {e p : Nat} (hp : p ≤ e) : p ≤ RM B e p ∧ RM B e p ≤ e := rmk_le _ _ hp
theorem SK_le {B : Nat → Int} {e p : Nat} (hp : p ≤ e) : p ≤ SK B e p ∧ SK B e p ≤ e := skp_le _ _ hp
/-- the hall's text: bytes and end -/
def cTx (t : St) (B : Nat → Int) (e : Nat) : Prop := t.1 301 1 = e ∧ e ≤ 4096 ∧ (∀ i, i < e → t.1 330 i % 256 = B i) ∧ ∀ i, i < e → 0 ≤ B i ∧ B i < 256
theorem c_byteAt {N : Nat} {t : St} {B : Nat → Int} {e p : Nat} (h : cTx t B e) (hp : p < e) : f_X10_byteAt N p t = some (B p, t) := by
  have he := h.2.1
  unfold f_X10_byteAt
  simp only [lt1_k]
  rw [cmpI_ok (by omega), if_neg (by omega), h.1, cmpI_ok (by omega), if_pos (by omega), ixI_ok (by omega), Int.toNat_natCast, h.2.2.1 p hp]
theorem c_isLetter {N : Nat} {a : Int} {t : St} (ha : inR a) : f_X10_isLetter N a t = some (if isLt a then 1 else 0, t) := by
  have h : f_X10_isLetter N a t = f_X12_isLetter N a t := by unfold f_X10_isLetter f_X12_isLetter; rfl
  rw [h]; exact s_isLetter ha
theorem c_isDigit {N : Nat} {a : Int} {t : St} (ha : inR a) : f_X10_isDigit N a t = some (if isDg a then 1 else 0, t) := by
  have h : f_X10_isDigit N a t = f_X12_isDigit N a t := by unfold f_X10_isDigit f_X12_isDigit; rfl
  rw [h]; exact s_isDigit ha
theorem c_skS {N : Nat} {t : St} {B : Nat → Int} {e p n : Nat} {x : Int} (h : cTx t B e) (hp : p < e) (hx : inR x) (K : St → Option (Int × St)) : f_X10_skipBlanks_L4 N K (n + 1) x p t =
    if B p = 35 then f_X10_skipBlanks_L4 N K n 1 ((p + 1 : Nat) : Int) t else if B p = 10 then f_X10_skipBlanks_L4 N K n 0 ((p + 1 : Nat) : Int) t else if isBk (B p) then f_X10_skipBlanks_L4 N K n x ((p + 1 : Nat) : Int) t else if x = 0 then some ((p : Int), t) else f_X10_skipBlanks_L4 N K n x ((p + 1 : Nat) : Int) t := by
  have he := h.2.1
  have hr := h.2.2.2 p hp
  have hp1 : ((p : Int) + 1) = ((p + 1 : Nat) : Int) := by omega
  have k35 : ∀ X : Option (Int × St), cmpI (B p) 35 X = X := fun X => cmpI_ok (by omega)
  have k10 : ∀ X : Option (Int × St), cmpI (B p) 10 X = X := fun X => cmpI_ok (by omega)
  have k9 : ∀ X : Option (Int × St), cmpI (B p) 9 X = X := fun X => cmpI_ok (by omega)
  have k13 : ∀ X : Option (Int × St), cmpI (B p) 13 X = X := fun X => cmpI_ok (by omega)
  have k32 : ∀ X : Option (Int × St), cmpI (B p) 32 X = X := fun X => cmpI_ok (by omega)
  have k00 : ∀ X : Option (Int × St), cmpI 0 0 X = X := fun X => cmpI_ok (by omega)
  have k01 : ∀ X : Option (Int × St), cmpI 1 0 X = X := fun X => cmpI_ok (by omega)
  have kx0 : ∀ X : Option (Int × St), cmpI x 0 X = X := fun X => cmpI_ok ⟨hx, by omega⟩
  conv => lhs; unfold f_X10_skipBlanks_L4
  simp only [lt1_k, jn1_k]
  rw [h.1, cmpI_ok (by omega), if_pos (by omega), c_byteAt h hp, bdI_s, hp1]
  simp only [k35, k10, k9, k13, k32, k00, k01, kx0]
  by_cases h35 : B p = 35
  · simp only [if_pos h35, ite_self]
  · by_cases h10 : B p = 10
    · simp only [if_neg h35, if_pos h10, ite_self]
    · simp only [if_neg h35, if_neg h10]
      by_cases h9 : B p = 9
      · rw [if_pos h9, if_pos (show isBk (B p) by omega)]; rfl
      · rw [if_neg h9]
        by_cases h13 : B p = 13
        · rw [if_pos h13, if_pos (show isBk (B p) by omega)]; rfl
        · rw [if_neg h13]
          by_cases h32 : B p = 32
          · rw [if_pos h32, if_pos (show isBk (B p) by omega)]; rfl
          · rw [if_neg h32, if_neg (show ¬ isBk (B p) by omega)]; rfl
theorem c_skip {N : Nat} {t : St} {B : Nat → Int} {e : Nat} (h : cTx t B e) (K : St → Option (Int × St)) (hK : K t = some ((e : Int), t)) : ∀ (d p n : Nat), e ≤ p + d → p ≤ e → d < n →
    f_X10_skipBlanks_L4 N K n 0 p t = some ((SK B e p : Int), t) ∧ f_X10_skipBlanks_L4 N K n 1 p t = some ((SK B e (RM B e p) : Int), t) := by
  have he := h.2.1
  have hend : ∀ (n p : Nat) (x : Int), p = e → f_X10_skipBlanks_L4 N K (n + 1) x p t = some ((e : Int), t) := by
    intro n p x hp
    subst hp
    unfold f_X10_skipBlanks_L4
    simp only [lt1_k, jn1_k]
    rw [h.1, cmpI_ok (by omega), if_neg (by omega), hK]
  have hSe : SK B e e = e := by rw [SK_eq (Nat.le_refl _), if_neg (Nat.lt_irrefl _)]
  have hRe : RM B e e = e := by rw [RM_eq (Nat.le_refl _), if_neg (Nat.lt_irrefl _)]
  intro d
  induction d with
  | zero =>
    intro p n h1 h2 h3
    obtain ⟨n, rfl⟩ : ∃ k, n = k + 1 := ⟨n - 1, by omega⟩
    have hp : p = e := by omega
    rw [hend n p 0 hp, hend n p 1 hp, hp, hRe, hSe]
    exact ⟨rfl, rfl⟩
  | succ d ih =>
    intro p n h1 h2 h3
    obtain ⟨n, rfl⟩ : ∃ k, n = k + 1 := ⟨n - 1, by omega⟩
    by_cases hp : p < e
    · obtain ⟨i0, i1⟩ := ih (p + 1) n (by omega) (by omega) (by omega)
      have hS := SK_eq (B := B) h2
      have hM := RM_eq (B := B) h2
      rw [if_pos hp] at hS hM
      rw [c_skS h hp (by omega) K, c_skS h hp (by omega) K, i0, i1]
      by_cases h35 : B p = 35
      · rw [if_neg (show ¬ isBk (B p) by omega), if_pos h35] at hS
        rw [if_neg (show ¬ B p = 10 by omega)] at hM
        rw [if_pos h35, if_pos h35, hS, hM]
        exact ⟨rfl, rfl⟩
      · rw [if_neg h35, if_neg h35]
        by_cases h10 : B p = 10
        · rw [if_pos (show isBk (B p) by omega)] at hS
          rw [if_pos h10] at hM
          rw [if_pos h10, if_pos h10, hM, hS]
          exact ⟨rfl, rfl⟩
        · rw [if_neg h10] at hM
          rw [if_neg h10, if_neg h10]
          by_cases hb : isBk (B p)
          · rw [if_pos hb] at hS
            rw [if_pos hb, if_pos hb, hS, hM]
            exact ⟨rfl, rfl⟩
          · rw [if_neg hb, if_neg h35] at hS
            rw [if_neg hb, if_neg hb, if_pos rfl, if_neg (by decide), hS, hM]
            exact ⟨rfl, rfl⟩
    · have hp2 : p = e := by omega
      rw [hend n p 0 hp2, hend n p 1 hp2, hp2, hRe, hSe]
      exact ⟨rfl, rfl⟩
theorem c_skipBlanks {N : Nat} {t : St} {B : Nat → Int} {e p : Nat} (h : cTx t B e) (hp : p ≤ e) (hN : 4097 ≤ N) : f_X10_skipBlanks N p t = some ((SK B e p : Int), t) := by
  unfold f_X10_skipBlanks
  exact (c_skip h _ (by simp only [lt1_k]; rw [h.1]) (e - p) p N (by omega) hp (by have := h.2.1; omega)).1
theorem c_wnd {N : Nat} {t : St} {B : Nat → Int} {e : Nat} (h : cTx t B e) (K : Int → St → Option (Int × St)) : ∀ (d p n : Nat), e ≤ p + d → p ≤ e → d < n → f_X10_readWord_L4 N K n p t = K (wnd B e d p : Int) t := by
  have he := h.2.1
  have hend : ∀ (n p : Nat), p = e → f_X10_readWord_L4 N K (n + 1) p t = K (p : Int) t := by
    intro n p hp
    subst hp
    unfold f_X10_readWord_L4
    simp only [lt1_k, jn1_k]
    rw [h.1, cmpI_ok (by omega), if_neg (by omega)]
  intro d
  induction d with
  | zero =>
    intro p n h1 h2 h3
    obtain ⟨n, rfl⟩ : ∃ k, n = k + 1 := ⟨n - 1, by omega⟩
    rw [hend n p (by omega)]; rfl
  | succ d ih =>
    intro p n h1 h2 h3
    obtain ⟨n, rfl⟩ : ∃ k, n = k + 1 := ⟨n - 1, by omega⟩
    by_cases hp : p < e
    · have hr := h.2.2.2 p hp
      have i1 := ih (p + 1) n (by omega) (by omega) (by omega)
      have hp1 : ((p : Int) + 1) = ((p + 1 : Nat) : Int) := by omega
      unfold f_X10_readWord_L4 wnd
      simp only [lt1_k, jn1_k]
      rw [h.1, cmpI_ok (by omega), if_pos (by omega), c_byteAt h hp, bdI_s, c_isLetter (by omega), bdI_s, cmpI_ok (by split <;> omega), hp1, i1]
      by_cases hl : isLt (B p)
      · rw [if_pos hl, if_neg (by decide), if_pos (show p < e ∧ isWc (B p) from ⟨hp, Or.inl hl⟩)]
      · rw [if_neg hl, if_pos rfl, c_byteAt h hp, bdI_s, c_isDigit (by omega), bdI_s, cmpI_ok (by split <;> omega)]
        by_cases hd : isDg (B p)
        · rw [if_pos hd, if_neg (by decide), if_pos (show p < e ∧ isWc (B p) from ⟨hp, Or.inr (Or.inl hd)⟩)]
          exact i1
        · rw [if_neg hd, if_pos rfl, c_byteAt h hp, bdI_s, cmpI_ok (by omega)]
          by_cases hu : B p = 95
          · rw [if_pos hu, if_pos (show p < e ∧ isWc (B p) from ⟨hp, Or.inr (Or.inr hu)⟩)]
            exact i1
          · rw [if_neg hu, if_neg (fun q => q.2.elim hl (fun q => q.elim hd hu))]
    · rw [hend n p (by omega)]
      unfold wnd
      rw [if_neg (fun q => hp q.1)]
