/-! the kit for pure functions: what a check comes to where it holds -/
theorem cmpI_ok {Z : Type} {a b : Int} {K : Option Z} (h : inR a ∧ inR b) : cmpI a b K = K := if_pos h
theorem ixI_ok {Z : Type} {i : Int} {n : Nat} {K : Option Z} (h : 0 ≤ i ∧ i < n) : ixI i n K = K := if_pos h
theorem rnI_ok {Z : Type} {a : Int} {K : Option Z} (h : inR a) : rnI a K = K := if_pos h
theorem dvI_ok {Z : Type} {a b : Int} {K : Option Z} (h : inR a ∧ inR b ∧ 0 ≤ a ∧ 0 < b) : dvI a b K = K := if_pos h
theorem boI_0 {Z : Type} {K : Option Z} : boI 0 K = K := if_pos (Or.inl rfl)
theorem boI_1 {Z : Type} {K : Option Z} : boI 1 K = K := if_pos (Or.inr rfl)
theorem boI_ok {Z : Type} {a : Int} {K : Option Z} (h : a = 0 ∨ a = 1) : boI a K = K := if_pos h
theorem bdI_s {Z : Type} {v : Int} {t : St} {K : Int → St → Option Z} : bdI (some (v, t)) K = K v t := rfl
theorem bdL_s {Z : Type} {v : Int64} {t : St} {K : Int64 → St → Option Z} : bdL (some (v, t)) K = K v t := rfl
theorem bdV_s {Z : Type} {t : St} {K : St → Option Z} : bdV (some t) K = K t := rfl
theorem pI_L {t : St} {k i : Nat} {v : Int} : (pI t k i v).2 = t.2 := rfl
theorem pL_I {t : St} {k i : Nat} {v : Int64} : (pL t k i v).1 = t.1 := rfl
theorem lt1_k {X Z : Type} {v : X} {K : X → Option Z} : lt1 v K = K v := (fun (x : lt1 v K = K v) => x) rfl
theorem jn1_k {X Z : Type} {v : X} {K : X → Option Z} : jn1 v K = K v := (fun (x : jn1 v K = K v) => x) rfl
/-! bytes -/
abbrev isBk (c : Int) : Prop := c = 9 ∨ c = 10 ∨ c = 13 ∨ c = 32
abbrev isLt (c : Int) : Prop := (97 ≤ c ∧ c ≤ 122) ∨ (65 ≤ c ∧ c ≤ 90)
abbrev isDg (c : Int) : Prop := 48 ≤ c ∧ c ≤ 57
/-- the model's byte at a place: -1 behind the end -/
def mB (t : St) (p : Int) : Int := if p < t.1 200 7 then t.1 0 p.toNat % 256 else -1
theorem s_byteAt {N : Nat} {a : Int} {t : St} (he : 0 ≤ t.1 200 7 ∧ t.1 200 7 ≤ 4096) (ha : 0 ≤ a ∧ a ≤ 4096) : f_X12_byteAt N a t = some (mB t a, t) := by
  unfold f_X12_byteAt mB
  simp only [lt1_k]
  rw [cmpI_ok (by omega)]
  split
  · rw [ixI_ok (by omega)]
  · rfl
theorem s_isBlank {N : Nat} {a : Int} {t : St} (ha : inR a) : (isBk a → f_X12_isBlank N a t = some (1, t)) ∧ (¬ isBk a → f_X12_isBlank N a t = some (0, t)) := by
  unfold f_X12_isBlank isBk
  simp (disch := omega) only [cmpI_ok, boI_0, boI_1]
  constructor
  · intro h
    rcases h with rfl | rfl | rfl | rfl <;> rfl
  · intro h
    rw [if_neg (by omega), if_neg (by omega), if_neg (by omega), if_neg (by omega)]
