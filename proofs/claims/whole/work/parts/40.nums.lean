/-! whole numbers for the machine's ints -/
abbrev inR (a : Int) : Prop := -2147483648 ≤ a ∧ a < 2147483648
theorem z_to {a : Int} (h : inR a) : (Int32.ofInt a).toInt = a := Int32.toInt_ofInt_of_le (by have := h.1; omega) (by have := h.2; omega)
theorem z_lt {a b : Int} (ha : inR a) (hb : inR b) : Int32.ofInt a < Int32.ofInt b ↔ a < b := by
  rw [Int32.lt_iff_toInt_lt, z_to ha, z_to hb]
theorem z_le {a b : Int} (ha : inR a) (hb : inR b) : Int32.ofInt a ≤ Int32.ofInt b ↔ a ≤ b := by
  rw [Int32.le_iff_toInt_le, z_to ha, z_to hb]
theorem z_eq {a b : Int} (ha : inR a) (hb : inR b) : Int32.ofInt a = Int32.ofInt b ↔ a = b := by
  rw [← Int32.toInt_inj, z_to ha, z_to hb]
theorem z_cl {a : Int} (h0 : 0 ≤ a) (h : a < 2147483648) : (Int32.ofInt a).toNatClampNeg = a.toNat := by
  show (Int32.ofInt a).toInt.toNat = a.toNat
  rw [z_to ⟨by omega, h⟩]
theorem z_ofs {a b : Int} (h : a.bmod (2 ^ 32) = b.bmod (2 ^ 32)) : Int32.ofInt a = Int32.ofInt b := by
  rw [← Int32.toInt_inj, Int32.toInt_ofInt, Int32.toInt_ofInt]; exact h
theorem z_of (x : Int32) : Int32.ofInt x.toInt = x := Int32.ofInt_toInt x
/-- a mask of low bits -/
theorem z_and (a : Int) (k : Nat) (hk : k < 32) : Int32.ofInt a &&& Int32.ofInt (2 ^ k - 1) = Int32.ofInt (a % 2 ^ k) := by
  apply Int32.toBitVec_inj.mp
  rw [Int32.toBitVec_and, Int32.toBitVec_ofInt, Int32.toBitVec_ofInt, Int32.toBitVec_ofInt]
  apply BitVec.eq_of_toNat_eq
  have hp : (2:Int) ^ k = ((2 ^ k : Nat) : Int) := by simp
  have hle : 2 ^ k ≤ 2 ^ 31 := Nat.pow_le_pow_right (by decide) (by omega)
  have hpos : 0 < 2 ^ k := Nat.pow_pos (by decide)
  rw [BitVec.toNat_and, BitVec.toNat_ofInt, BitVec.toNat_ofInt, BitVec.toNat_ofInt]
  have e1 : (((2:Int) ^ k - 1) % ((2 ^ 32 : Nat) : Int)).toNat = 2 ^ k - 1 := by
    rw [hp, Int.emod_eq_of_lt (by omega) (by omega)]; omega
  rw [e1, Nat.and_two_pow_sub_one_eq_mod, hp]
  have h1 : (0:Int) ≤ a % ((2 ^ 32 : Nat) : Int) := Int.emod_nonneg _ (by decide)
  have h2 : (0:Int) ≤ a % ((2 ^ k : Nat) : Int) := Int.emod_nonneg _ (by omega)
  have h3 : a % ((2 ^ k : Nat) : Int) < ((2 ^ k : Nat) : Int) := Int.emod_lt_of_pos _ (by omega)
  apply Int.ofNat.inj
  show (((a % ((2 ^ 32 : Nat) : Int)).toNat % 2 ^ k : Nat) : Int) = (((a % ((2 ^ k : Nat) : Int) % ((2 ^ 32 : Nat) : Int)).toNat : Nat) : Int)
  rw [Int.natCast_emod, Int.toNat_of_nonneg h1, Int.emod_eq_of_lt h2 (by omega), Int.toNat_of_nonneg h2]
  refine Int.emod_emod_of_dvd a ?_
  refine Int.natCast_dvd_natCast.mpr (Nat.pow_dvd_pow 2 (by omega))
theorem z_shl (a : Int) (k : Nat) (hk : k < 32) : Int32.ofInt a <<< (Int32.ofInt k &&& 31) = Int32.ofInt (a * 2 ^ k) := by
  have e : (Int32.ofInt k &&& 31) = Int32.ofInt k := by
    have := z_and k 5 (by decide)
    rw [show ((2:Int) ^ 5 - 1) = 31 from rfl, show ((k:Int) % 2 ^ 5) = k from Int.emod_eq_of_lt (by omega) (by omega)] at this
    exact this
  rw [e]
  apply Int32.toBitVec_inj.mp
  rw [Int32.toBitVec_shiftLeft, Int32.toBitVec_ofInt, Int32.toBitVec_ofInt, Int32.toBitVec_ofInt]
  have e2 : (BitVec.ofInt 32 (k:Int)).smod 32 = BitVec.ofNat 32 k := by
    have : ∀ j : Fin 32, (BitVec.ofInt 32 (j.val:Int)).smod 32 = BitVec.ofNat 32 j.val := by decide
    exact this ⟨k, hk⟩
  rw [e2]
  have e3 : (BitVec.ofNat 32 k).toNat = k := by rw [BitVec.toNat_ofNat]; exact Nat.mod_eq_of_lt (by omega)
  rw [BitVec.shiftLeft_eq', e3, BitVec.shiftLeft_eq_mul_twoPow, BitVec.ofInt_mul]
  congr 1
  apply BitVec.eq_of_toNat_eq
  rw [BitVec.toNat_twoPow, BitVec.toNat_ofInt]
  have hp : (2:Int) ^ k = ((2 ^ k : Nat) : Int) := by simp
  rw [hp, ← Int.natCast_emod, Int.toNat_natCast]
theorem z_k (k : Nat) (hk : k < 32) : (Int32.ofInt k &&& 31) = Int32.ofInt k := by
  have := z_and k 5 (by decide)
  rw [show ((2:Int) ^ 5 - 1) = 31 from rfl, show ((k:Int) % 2 ^ 5) = k from Int.emod_eq_of_lt (by omega) (by omega)] at this
  exact this
theorem z_shr {a : Int} (ha : inR a) (k : Nat) (hk : k < 32) : Int32.ofInt a >>> (Int32.ofInt k &&& 31) = Int32.ofInt (a / 2 ^ k) := by
  rw [z_k k hk]
  have e2 : (BitVec.ofInt 32 (k:Int)).smod 32 = BitVec.ofNat 32 k := by
    have : ∀ j : Fin 32, (BitVec.ofInt 32 (j.val:Int)).smod 32 = BitVec.ofNat 32 j.val := by decide
    exact this ⟨k, hk⟩
  have hp : 0 < 2 ^ k := Nat.pow_pos (by decide)
  have hpi : (2:Int) ^ k = ((2 ^ k : Nat) : Int) := by simp
  apply Int32.toInt_inj.mp
  show (Int32.ofInt a >>> Int32.ofInt k).toBitVec.toInt = _
  rw [Int32.toBitVec_shiftRight, Int32.toBitVec_ofInt k, e2, BitVec.toInt_sshiftRight', BitVec.toNat_ofNat, Nat.mod_eq_of_lt (by omega), Int.shiftRight_eq_div_pow]
  show (Int32.ofInt a).toInt / _ = _
  have b1 : -2147483648 ≤ a / ((2 ^ k : Nat) : Int) := by
    have h1 := ha.1
    have h2 : -2147483648 * ((2 ^ k : Nat) : Int) ≤ -2147483648 := by omega
    have := Int.le_ediv_of_mul_le (a := -2147483648) (b := a) (c := ((2 ^ k : Nat) : Int)) (by omega) (by omega)
    exact this
  have b2 : a / ((2 ^ k : Nat) : Int) < 2147483648 := by
    have := ha.2
    by_cases h0 : 0 ≤ a
    · exact Int.lt_of_le_of_lt (Int.ediv_le_self _ h0) this
    · have := Int.ediv_neg_of_neg_of_pos (a := a) (b := ((2 ^ k : Nat) : Int)) (by omega) (by omega)
      omega
  rw [z_to ha, hpi, z_to ⟨b1, b2⟩]
theorem z_div {a b : Int} (ha : inR a) (hb : inR b) (h0 : 0 ≤ a) (hb0 : 0 < b) : Int32.ofInt a / Int32.ofInt b = Int32.ofInt (a / b) := by
  rw [← Int.tdiv_eq_ediv_of_nonneg h0]
  exact (Int32.ofInt_tdiv ha.1 (by have := ha.2; show a ≤ 2147483647; omega) hb.1 (by have := hb.2; show b ≤ 2147483647; omega)).symm
theorem z_rem {a b : Int} (ha : inR a) (hb : inR b) (h0 : 0 ≤ a) (hb0 : 0 < b) : Int32.ofInt a - Int32.ofInt a / Int32.ofInt b * Int32.ofInt b = Int32.ofInt (a % b) := by
  rw [z_div ha hb h0 hb0, ← Int32.ofInt_mul, ← Int32.ofInt_sub]
  congr 1
  have := Int.emod_def a b
  rw [this, Int.mul_comm]
theorem z_ne0 {b : Int} (hb : inR b) (hb0 : 0 < b) : ¬ Int32.ofInt b = 0 := by
  intro h
  have := (z_eq (a := b) (b := 0) hb ⟨by decide, by decide⟩).mp h
  omega
/-- a byte's worth -/
def b8 (a : Int) : Int := (a + 128) % 256 - 128
def b16 (a : Int) : Int := (a + 32768) % 65536 - 32768
theorem b8_bmod (a : Int) : a.bmod 256 = b8 a := by unfold b8 Int.bmod; dsimp only; split <;> omega
theorem b16_bmod (a : Int) : a.bmod 65536 = b16 a := by unfold b16 Int.bmod; dsimp only; split <;> omega
theorem bmod_bmod32 (a : Int) : (a.bmod (2 ^ 32)).bmod 256 = a.bmod 256 := Int.bmod_bmod_of_dvd (by decide)
theorem z_b8 (a : Int) : (Int32.ofInt a).toInt8.toInt32 = Int32.ofInt (b8 a) := by
  apply Int32.toInt_inj.mp
  rw [Int8.toInt_toInt32, Int32.toInt_toInt8, Int32.toInt_ofInt]
  rw [show Int32.size = 2 ^ 32 from rfl, show (2:Nat) ^ 8 = 256 from rfl, bmod_bmod32, b8_bmod, z_to]
  unfold b8; constructor <;> omega
theorem z_b16 (a : Int) : (Int32.ofInt a).toInt16.toInt32 = Int32.ofInt (b16 a) := by
  apply Int32.toInt_inj.mp
  rw [Int16.toInt_toInt32, Int32.toInt_toInt16, Int32.toInt_ofInt]
  rw [show Int32.size = 2 ^ 32 from rfl, show (2:Nat) ^ 16 = 65536 from rfl, Int.bmod_bmod_of_dvd (by decide), b16_bmod, z_to]
  unfold b16; constructor <;> omega
theorem z_i2l {a : Int} (h : inR a) : (Int32.ofInt a).toInt64 = Int64.ofInt a := by
  apply Int64.toInt_inj.mp
  rw [Int32.toInt_toInt64, z_to h, Int64.toInt_ofInt_of_le (by have := h.1; omega) (by have := h.2; omega)]
theorem z_l2i (x : Int64) : x.toInt32 = Int32.ofInt x.toInt := by
  apply Int32.toInt_inj.mp
  rw [Int64.toInt_toInt32, Int32.toInt_ofInt]
theorem b8_b8 (a : Int) : b8 (b8 a) = b8 a := by unfold b8; omega
theorem z_i2c (a : Int) : ((Int32.ofInt a).toUInt32 % 65536).toInt32 = Int32.ofInt (a % 65536) := by
  have h := z_and a 16 (by decide)
  rw [show ((2:Int) ^ 16) = 65536 from rfl] at h
  rw [← h]
  apply Int32.toBitVec_inj.mp
  show ((Int32.ofInt a).toUInt32 % 65536).toBitVec = _
  rw [Int32.toBitVec_and]
  apply BitVec.eq_of_toNat_eq
  rw [BitVec.toNat_and]
  show (Int32.ofInt a).toBitVec.toNat % 65536 = _ &&& (2 ^ 16 - 1)
  rw [Nat.and_two_pow_sub_one_eq_mod]
