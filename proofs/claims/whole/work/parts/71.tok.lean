/-! where the next token begins: the model's blanks and remarks -/
theorem pI_pI {t : St} {k i : Nat} {a b : Int} : pI (pI t k i a) k i b = pI t k i b := by
  unfold pI
  refine Prod.ext ?_ rfl
  funext x y
  show (bif Nat.beq x k && Nat.beq y i then b else bif Nat.beq x k && Nat.beq y i then a else t.1 x y) = (bif Nat.beq x k && Nat.beq y i then b else t.1 x y)
  cases (Nat.beq x k && Nat.beq y i) <;> rfl
theorem pI_self {t : St} {k i : Nat} : pI t k i (t.1 k i) = t := by
  unfold pI
  refine Prod.ext ?_ rfl
  funext x y
  show (bif Nat.beq x k && Nat.beq y i then t.1 k i else t.1 x y) = t.1 x y
  cases h : (Nat.beq x k && Nat.beq y i) with
  | false => rfl
  | true =>
    rw [Bool.and_eq_true] at h
    rw [Nat.eq_of_beq_eq_true h.1, Nat.eq_of_beq_eq_true h.2]; rfl
def rmk (B : Nat → Int) (e : Nat) : Nat → Nat → Nat
  | 0, p => p
  | d + 1, p => if p < e then (if B p = 10 then p else rmk B e d (p + 1)) else p
def skp (B : Nat → Int) (e : Nat) : Nat → Nat → Nat
  | 0, p => p
  | d + 1, p => if p < e then (if isBk (B p) then skp B e d (p + 1) else if B p = 35 then skp B e d (rmk B e e p) else p) else p
theorem rmk_le {B : Nat → Int} {e : Nat} : ∀ d p : Nat, p ≤ e → p ≤ rmk B e d p ∧ rmk B e d p ≤ e := by
  intro d
  induction d with
  | zero => intro p h; exact ⟨Nat.le_refl _, h⟩
  | succ d ih =>
    intro p h
    unfold rmk
    split
    · split
      · exact ⟨Nat.le_refl _, h⟩
      · have := ih (p + 1) (by omega); omega
    · exact ⟨Nat.le_refl _, h⟩
theorem mB_2 {t : St} {v q : Int} : mB (pI t 200 2 v) q = mB t q := by
  unfold mB
  rw [pI_nf (show 7 ≠ 2 by decide), pI_ne (show 0 ≠ 200 by decide)]
/-- the model's text: bytes and end -/
def mTx (t : St) (B : Nat → Int) (e : Nat) : Prop := t.1 200 7 = e ∧ e ≤ 4096 ∧ ∀ i, i < e → t.1 0 i % 256 = B i
theorem mTx.at {t : St} {B : Nat → Int} {e p : Nat} (h : mTx t B e) (hp : p < e) : mB t p = B p := by
  unfold mB
  rw [h.1, if_pos (by omega), Int.toNat_natCast]
  exact h.2.2 p hp
theorem mTx.end {t : St} {B : Nat → Int} {e : Nat} (h : mTx t B e) : mB t e = -1 := by
  unfold mB
  rw [h.1, if_neg (by omega)]
theorem mB_rng {t : St} {p : Int} : -1 ≤ mB t p ∧ mB t p < 256 := by
  unfold mB; split <;> omega
theorem mTx.up {t : St} {B : Nat → Int} {e f : Nat} {v : Int} (h : mTx t B e) (hf : f ≠ 7) : mTx (pI t 200 f v) B e := by
  refine ⟨?_, h.2.1, fun i hi => ?_⟩
  · rw [pI_nf (fun q => hf q.symm)]; exact h.1
  · rw [pI_ne (by decide)]; exact h.2.2 i hi
theorem s_byteAt2 {N : Nat} {t : St} {B : Nat → Int} {e p : Nat} {v : Int} (h : mTx t B e) (hp : p ≤ e) : f_X12_byteAt N p (pI t 200 2 v) = some (mB t p, pI t 200 2 v) := by
  have h2 := h.up (f := 2) (v := v) (by decide)
  rw [s_byteAt (by rw [h2.1]; have := h2.2.1; omega) (by have := h2.2.1; omega), mB_2]
theorem s_rmk {N : Nat} {t : St} {B : Nat → Int} {e : Nat} (h : mTx t B e) (K : St → Option St) : ∀ (d p n : Nat), e ≤ p + d → p ≤ e → d < n → f_X12_next_L40 N K n (pI t 200 2 p) = K (pI t 200 2 (rmk B e d p)) := by
  intro d
  induction d with
  | zero =>
    intro p n h1 h2 h3
    obtain ⟨n, rfl⟩ : ∃ k, n = k + 1 := ⟨n - 1, by omega⟩
    have hp : p = e := by omega
    subst hp
    unfold f_X12_next_L40 rmk
    simp only [lt1_k]
    rw [pI_at, s_byteAt2 h (Nat.le_refl _), bdI_s, h.end, cmpI_ok (by omega), if_pos rfl]
  | succ d ih =>
    intro p n h1 h2 h3
    obtain ⟨n, rfl⟩ : ∃ k, n = k + 1 := ⟨n - 1, by omega⟩
    have hr := mB_rng (t := t) (p := p)
    unfold f_X12_next_L40 rmk
    simp only [lt1_k]
    rw [pI_at, s_byteAt2 h h2, bdI_s, pI_at, s_byteAt2 h h2, cmpI_ok (by omega), bdI_s, cmpI_ok (by omega), pI_at, pI_pI]
    by_cases hp : p < e
    · rw [h.at hp, if_neg (by have := h.2.2 p hp; omega), if_pos hp]
      by_cases hn : B p = 10
      · rw [if_pos hn, if_pos hn]
      · rw [if_neg hn, if_neg hn]
        rw [show ((p : Int) + 1) = ((p + 1 : Nat) : Int) from by omega]
        exact ih (p + 1) n (by omega) (by omega) (by omega)
    · have he : p = e := by omega
      subst he
      rw [h.end, if_pos rfl, if_neg hp]
theorem s_skp {N : Nat} {t : St} {B : Nat → Int} {e : Nat} (h : mTx t B e) (hN : 4097 ≤ N) (K : St → Option St) : ∀ (d p n : Nat), e ≤ p + d → p ≤ e → d < n → f_X12_next_L0 N K n (pI t 200 2 p) = K (pI t 200 2 (skp B e d p)) := by
  intro d
  induction d with
  | zero =>
    intro p n h1 h2 h3
    obtain ⟨n, rfl⟩ : ∃ k, n = k + 1 := ⟨n - 1, by omega⟩
    have hp : p = e := by omega
    subst hp
    unfold f_X12_next_L0 skp
    simp only [lt1_k, jn1_k]
    rw [pI_at, s_byteAt2 h (Nat.le_refl _), bdI_s, h.end, (s_isBlank (by omega)).2 (by decide), bdI_s, cmpI_ok (by omega), if_pos rfl, pI_at, s_byteAt2 h (Nat.le_refl _), bdI_s, h.end, cmpI_ok (by omega), if_neg (by decide)]
  | succ d ih =>
    intro p n h1 h2 h3
    obtain ⟨n, rfl⟩ : ∃ k, n = k + 1 := ⟨n - 1, by omega⟩
    have hr := mB_rng (t := t) (p := p)
    unfold f_X12_next_L0 skp
    simp only [lt1_k, jn1_k]
    by_cases hp : p < e
    · rw [if_pos hp]
      by_cases hb : isBk (B p)
      · rw [pI_at, s_byteAt2 h h2, bdI_s, h.at hp, (s_isBlank (by have := h.2.2 p hp; omega)).1 hb, bdI_s, cmpI_ok (by omega), if_neg (by decide), pI_at, s_byteAt2 h h2, bdI_s, h.at hp, cmpI_ok (by have := h.2.2 p hp; omega), if_neg (by unfold isBk at hb; omega), if_pos hb, pI_at, pI_pI]
        rw [show ((p : Int) + 1) = ((p + 1 : Nat) : Int) from by omega]
        exact ih (p + 1) n (by omega) (by omega) (by omega)
      · rw [pI_at, s_byteAt2 h h2, bdI_s, h.at hp, (s_isBlank (by have := h.2.2 p hp; omega)).2 hb, bdI_s, cmpI_ok (by omega), if_pos rfl, pI_at, s_byteAt2 h h2, bdI_s, h.at hp, cmpI_ok (by have := h.2.2 p hp; omega), if_neg hb]
        by_cases h35 : B p = 35
        · rw [if_pos h35, if_pos h35, pI_at, s_byteAt2 h h2, bdI_s, h.at hp, cmpI_ok (by have := h.2.2 p hp; omega), if_pos h35, s_rmk h _ e p N (by omega) h2 (by have := h.2.1; omega)]
          have hq := rmk_le (B := B) e p h2
          have hq2 : p + 1 ≤ rmk B e e p := by
            obtain ⟨e0, rfl⟩ : ∃ k, e = k + 1 := ⟨e - 1, by omega⟩
            conv => rhs; unfold rmk
            rw [if_pos hp, if_neg (by omega)]
            exact (rmk_le (B := B) e0 (p + 1) (by omega)).1
          exact ih (rmk B e e p) n (by omega) (by omega) (by omega)
        · rw [if_neg h35, if_neg h35]
    · have he : p = e := by omega
      subst he
      rw [if_neg hp, pI_at, s_byteAt2 h (Nat.le_refl _), bdI_s, h.end, (s_isBlank (by omega)).2 (by decide), bdI_s, cmpI_ok (by omega), if_pos rfl, pI_at, s_byteAt2 h (Nat.le_refl _), bdI_s, h.end, cmpI_ok (by omega), if_neg (by decide)]
