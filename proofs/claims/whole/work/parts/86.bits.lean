/-! bits of a long: sets of dancers -/
def bq (s : Int64) (d : Nat) : Bool := s.toBitVec.getLsbD d
theorem bq_ext {a b : Int64} (h : ∀ d, d < 64 → bq a d = bq b d) : a = b :=
  Int64.toBitVec_inj.mp (BitVec.eq_of_getLsbD_eq (fun i hi => h i hi))
theorem bq_or {a b : Int64} {d : Nat} : bq (a ||| b) d = (bq a d || bq b d) := by
  unfold bq; rw [Int64.toBitVec_or, BitVec.getLsbD_or]
theorem bq_and {a b : Int64} {d : Nat} : bq (a &&& b) d = (bq a d && bq b d) := by
  unfold bq; rw [Int64.toBitVec_and, BitVec.getLsbD_and]
theorem bq_m1 : ∀ d, d < 64 → bq (-1) d = true := by decide +kernel
theorem bq_0 {d : Nat} : bq 0 d = false := by
  show (0#64).getLsbD d = false
  exact BitVec.getLsbD_zero
theorem bq_not {a : Int64} {d : Nat} (h : d < 64) : bq (a ^^^ (-1)) d = !bq a d := by
  have h1 := bq_m1 d h
  unfold bq at *
  rw [Int64.toBitVec_xor, BitVec.getLsbD_xor, h1, Bool.xor_true]
theorem bq_cu : ∀ k, k < 64 → ((Int32.ofInt ((k : Nat) : Int)).toInt64.toUInt64 &&& Int64.toUInt64 63).toNat = k := by decide +kernel
theorem bq_cs : ∀ k, k < 64 → ((Int32.ofInt ((k : Nat) : Int)).toInt64 &&& 63).toBitVec.smod 64 = BitVec.ofNat 64 k := by decide +kernel
theorem bq_one0 {u : BitVec 64} : (u &&& 1#64 = 0#64) ↔ u.getLsbD 0 = false := by
  constructor
  · intro h
    have t := congrArg (fun x => x.getLsbD 0) h
    simpa using t
  · intro h
    apply BitVec.eq_of_getLsbD_eq
    intro i hi
    rw [BitVec.getLsbD_and]
    by_cases h0 : i = 0
    · subst h0; rw [h]; rfl
    · have : (1#64).getLsbD i = false := by
        rw [BitVec.getLsbD_one]; simp [h0]
      rw [this, Bool.and_false]; simp
theorem bq_one1 {u : BitVec 64} : (u &&& 1#64 = 1#64) ↔ u.getLsbD 0 = true := by
  constructor
  · intro h
    have t := congrArg (fun x => x.getLsbD 0) h
    simpa using t
  · intro h
    apply BitVec.eq_of_getLsbD_eq
    intro i hi
    rw [BitVec.getLsbD_and]
    by_cases h0 : i = 0
    · subst h0; rw [h]; rfl
    · have : (1#64).getLsbD i = false := by
        rw [BitVec.getLsbD_one]; simp [h0]
      rw [this, Bool.and_false]
/-- the hall's test of a bit -/
theorem bq_h {y : Int64} {v : Nat} (h : v < 64) : ((ushrL y (v : Int)) &&& (1 : Int64) = (0 : Int64)) = (bq y v = false) := by
  apply propext
  unfold ushrL
  have hs := bq_cu v h
  generalize ((Int32.ofInt ((v : Nat) : Int)).toInt64.toUInt64 &&& Int64.toUInt64 63) = s at hs
  have e : (y.toUInt64 >>> s).toInt64.toBitVec = y.toBitVec >>> v := by
    apply BitVec.eq_of_toNat_eq
    show (y.toUInt64 >>> s).toNat = _
    rw [UInt64.toNat_shiftRight, hs, Nat.mod_eq_of_lt h, BitVec.toNat_ushiftRight]
    rfl
  rw [← Int64.toBitVec_inj, Int64.toBitVec_and, e]
  show (y.toBitVec >>> v &&& 1#64 = 0#64) ↔ _
  rw [bq_one0]
  unfold bq
  rw [BitVec.getLsbD_ushiftRight, Nat.add_zero]
/-- the model's -/
theorem bq_m {y : Int64} {v : Nat} (h : v < 64) : ((shrL y (v : Int)) &&& (1 : Int64) = (1 : Int64)) = (bq y v = true) := by
  apply propext
  unfold shrL
  have hs := bq_cs v h
  rw [← Int64.toBitVec_inj, Int64.toBitVec_and, Int64.toBitVec_shiftRight, hs]
  show (y.toBitVec.sshiftRight' (BitVec.ofNat 64 v) &&& 1#64 = 1#64) ↔ _
  rw [bq_one1]
  unfold bq
  have e2 : (BitVec.ofNat 64 v).toNat = v := by rw [BitVec.toNat_ofNat]; exact Nat.mod_eq_of_lt (by omega)
  show (y.toBitVec.sshiftRight (BitVec.ofNat 64 v).toNat).getLsbD 0 = true ↔ _
  rw [e2, BitVec.getLsbD_sshiftRight]
  simp [h]
theorem bq_1f : ∀ v : Fin 64, ∀ d : Fin 64, bq (shlL 1 ((v.val : Nat) : Int)) d.val = decide (d.val = v.val) := by decide +kernel
theorem bq_1 {v d : Nat} (hv : v < 64) (hd : d < 64) : bq (shlL 1 (v : Int)) d = decide (d = v) := bq_1f ⟨v, hv⟩ ⟨d, hd⟩
theorem bq_allf : ∀ v : Fin 64, ∀ d : Fin 64, bq (shlL 1 ((v.val : Nat) : Int) - 1) d.val = decide (d.val < v.val) := by decide +kernel
/-- everybody of n -/
def evb (n : Nat) : Int64 := if n < 64 then shlL 1 (n : Int) - 1 else -1
theorem bq_evb {n d : Nat} (hn : n ≤ 64) (hd : d < 64) : bq (evb n) d = decide (d < n) := by
  unfold evb
  by_cases h : n < 64
  · rw [if_pos h]; exact bq_allf ⟨n, h⟩ ⟨d, hd⟩
  · rw [if_neg h, bq_m1 d hd]
    have : d < n := by omega
    simp [this]
theorem bq_larks : ∀ d, d < 64 → bq 6148914691236517205 d = decide (d % 2 = 0) := by decide +kernel
theorem bq_robins : ∀ d, d < 64 → bq (-6148914691236517206) d = decide (d % 2 = 1) := by decide +kernel
theorem bq_heads : ∀ d, d < 64 → bq 3689348814741910323 d = decide (d / 2 % 2 = 0) := by decide +kernel
theorem bq_sides : ∀ d, d < 64 → bq (-3689348814741910324) d = decide (d / 2 % 2 = 1) := by decide +kernel
theorem bq_3f : ∀ v : Fin 32, ∀ d : Fin 64, bq (shlL 3 (2 * ((v.val : Nat) : Int))) d.val = decide (d.val / 2 = v.val) := by decide +kernel
theorem bq_3 {v d : Nat} (hv : v < 32) (hd : d < 64) : bq (shlL 3 (2 * (v : Int))) d = decide (d / 2 = v) := bq_3f ⟨v, hv⟩ ⟨d, hd⟩
theorem bq_z {a : Int64} : a = 0 ↔ ∀ d, d < 64 → bq a d = false := by
  constructor
  · intro h d _; rw [h]; exact bq_0
  · intro h; exact bq_ext (fun d hd => by rw [h d hd, bq_0])
theorem bq_nz {a : Int64} (h : a ≠ 0) : ∃ d, d < 64 ∧ bq a d = true := by
  apply Classical.byContradiction
  intro h2
  apply h
  apply bq_z.mpr
  intro d hd
  cases h3 : bq a d with
  | false => rfl
  | true => exact absurd ⟨d, hd, h3⟩ h2
/-- how many are in a set -/
def cnb (s : Int64) : Nat → Nat
  | 0 => 0
  | d + 1 => cnb s d + (if bq s d = true then 1 else 0)
theorem cnb_le {s : Int64} : ∀ d, cnb s d ≤ d := by
  intro d
  induction d with
  | zero => exact Nat.le_refl _
  | succ d ih => unfold cnb; split <;> omega
theorem s_has {N : Nat} {s : Int64} {v : Nat} {t : St} (h : v < 64) : f_X12_has N s v t = some ((if bq s v = true then 1 else 0), t) := by
  unfold f_X12_has
  simp only [bq_m h]
  split
  · rw [boI_1]
  · rw [boI_0]
theorem s_sizeL {N : Nat} {s : Int64} (K : Int → St → Option (Int × St)) {t : St} : ∀ (k d n : Nat), d + k = 64 → k < n → f_X12_sizeOf_L4 N K s n (cnb s d) d t = K (cnb s 64) t := by
  intro k
  induction k with
  | zero =>
    intro d n h1 h2
    obtain ⟨n, rfl⟩ : ∃ k, n = k + 1 := ⟨n - 1, by omega⟩
    have hd : d = 64 := by omega
    subst hd
    unfold f_X12_sizeOf_L4
    rw [cmpI_ok (by omega), if_neg (by decide)]
  | succ k ih =>
    intro d n h1 h2
    obtain ⟨n, rfl⟩ : ∃ k, n = k + 1 := ⟨n - 1, by omega⟩
    unfold f_X12_sizeOf_L4
    have e : ((d : Int) + 1) = ((d + 1 : Nat) : Int) := by omega
    rw [cmpI_ok (by omega), if_pos (by omega), s_has (by omega), bdI_s]
    simp only [jn1_k]
    rw [cmpI_ok (by split <;> omega), e]
    have ih2 := ih (d + 1) n (by omega) (by omega)
    unfold cnb at ih2
    by_cases hb : bq s d = true
    · rw [if_pos hb] at ih2 ⊢
      rw [if_neg (by decide)]
      exact ih2
    · rw [if_neg hb] at ih2 ⊢
      rw [if_pos rfl]
      exact ih2
theorem s_sizeOf {N : Nat} {s : Int64} {t : St} (hN : 65 ≤ N) : f_X12_sizeOf N s t = some (((cnb s 64 : Nat) : Int), t) := by
  unfold f_X12_sizeOf
  exact s_sizeL _ 64 0 N rfl (by omega)
