/-! eight letters as one number -/
def pk8 (b : Nat → Int) (L : Nat) : Nat → Nat
  | 0 => 0
  | i + 1 => pk8 b L i * 256 + (if i < L then (b i).toNat else 0)
theorem pk8_lt {b : Nat → Int} {L : Nat} (h : ∀ i, i < L → 0 ≤ b i ∧ b i < 256) : ∀ i, pk8 b L i < 256 ^ i := by
  intro i
  induction i with
  | zero => show 0 < 1; decide
  | succ i ih =>
    unfold pk8
    have e : 256 ^ (i + 1) = 256 ^ i * 256 := Nat.pow_succ ..
    have : (if i < L then (b i).toNat else 0) < 256 := by
      split
      · next q => have := h i q; omega
      · decide
    omega
theorem shl8 (a : Nat) : shlL (Int64.ofNat a) 8 = Int64.ofNat (a * 256) := by
  unfold shlL
  rw [show (Int32.toInt64 (Int32.ofInt 8) &&& 63) = (8 : Int64) from by decide]
  apply Int64.toBitVec_inj.mp
  rw [Int64.toBitVec_shiftLeft]
  show (Int64.ofNat a).toBitVec <<< ((8 : Int64).toBitVec.smod 64) = (Int64.ofNat (a * 256)).toBitVec
  rw [show (8 : Int64).toBitVec.smod 64 = 8#64 from by decide, BitVec.shiftLeft_eq']
  show BitVec.ofNat 64 a <<< 8 = BitVec.ofNat 64 (a * 256)
  rw [BitVec.shiftLeft_eq_mul_twoPow]
  apply BitVec.eq_of_toNat_eq
  rw [BitVec.toNat_mul, BitVec.toNat_twoPow, BitVec.toNat_ofNat, BitVec.toNat_ofNat, show 2 ^ 8 % 2 ^ 64 = 256 from by decide, ← Nat.mul_mod_mod, Nat.mod_mul_mod, Nat.mul_mod_mod]
theorem or8 {a : Nat} {c : Int} (ha : a < 2 ^ 56) (hc : 0 ≤ c ∧ c < 256) : Int64.ofNat (a * 256) ||| Int64.ofInt c = Int64.ofNat (a * 256 + c.toNat) := by
  obtain ⟨k, rfl⟩ : ∃ k : Nat, c = k := ⟨c.toNat, by omega⟩
  apply Int64.toBitVec_inj.mp
  rw [Int64.toBitVec_or, Int64.ofInt_eq_ofNat, Int.toNat_natCast]
  show BitVec.ofNat 64 (a * 256) ||| BitVec.ofNat 64 k = BitVec.ofNat 64 (a * 256 + k)
  apply BitVec.eq_of_toNat_eq
  rw [BitVec.toNat_or, BitVec.toNat_ofNat, BitVec.toNat_ofNat, BitVec.toNat_ofNat, Nat.mod_eq_of_lt (by omega), Nat.mod_eq_of_lt (by omega), Nat.mod_eq_of_lt (by omega)]
  have := Nat.two_pow_add_eq_or_of_lt (i := 8) (b := k) (by omega) a
  rw [show 2 ^ 8 = 256 from rfl] at this
  rw [Nat.mul_comm a 256]
  exact this.symm
theorem ofN_inj {a b : Nat} (ha : a < 2 ^ 64) (hb : b < 2 ^ 64) (h : Int64.ofNat a = Int64.ofNat b) : a = b := by
  have h1 : BitVec.ofNat 64 a = BitVec.ofNat 64 b := congrArg Int64.toBitVec h
  have h2 := congrArg BitVec.toNat h1
  rw [BitVec.toNat_ofNat, BitVec.toNat_ofNat, Nat.mod_eq_of_lt ha, Nat.mod_eq_of_lt hb] at h2
  exact h2
theorem pk8_inj {b b' : Nat → Int} {L L' : Nat} (h : ∀ i, i < L → 0 ≤ b i ∧ b i < 256) (h' : ∀ i, i < L' → 0 ≤ b' i ∧ b' i < 256) : ∀ n, pk8 b L n = pk8 b' L' n ↔ ∀ i, i < n → (if i < L then (b i).toNat else 0) = (if i < L' then (b' i).toNat else 0) := by
  intro n
  induction n with
  | zero => exact ⟨fun _ i hi => by omega, fun _ => rfl⟩
  | succ n ih =>
    have d1 : (if n < L then (b n).toNat else 0) < 256 := by
      split
      · next q => have := h n q; omega
      · decide
    have d2 : (if n < L' then (b' n).toNat else 0) < 256 := by
      split
      · next q => have := h' n q; omega
      · decide
    unfold pk8
    constructor
    · intro e i hi
      have e1 : pk8 b L n = pk8 b' L' n := by omega
      by_cases hin : i = n
      · rw [hin]; omega
      · exact ih.mp e1 i (by omega)
    · intro e
      rw [ih.mpr (fun i hi => e i (by omega)), e n (by omega)]
/-- two words of at most 8 letters, none of them 0 -/
theorem pk8_word {b b' : Nat → Int} {L L' : Nat} (hL : L ≤ 8) (hL' : L' ≤ 8) (h : ∀ i, i < L → 0 < b i ∧ b i < 256) (h' : ∀ i, i < L' → 0 < b' i ∧ b' i < 256) : pk8 b L 8 = pk8 b' L' 8 ↔ L = L' ∧ ∀ i, i < L → b i = b' i := by
  rw [pk8_inj (fun i hi => by have := h i hi; omega) (fun i hi => by have := h' i hi; omega)]
  constructor
  · intro e
    have hl : L = L' := by
      rcases Nat.lt_trichotomy L L' with q | q | q
      · have := e L (by omega)
        have h2 := h' L q
        rw [if_neg (by omega), if_pos q] at this
        omega
      · exact q
      · have := e L' (by omega)
        have h2 := h L' q
        rw [if_neg (show ¬ L' < L' by omega), if_pos q] at this
        omega
    refine ⟨hl, fun i hi => ?_⟩
    have := e i (by omega)
    have h2 := h i hi
    have h3 := h' i (by omega)
    rw [if_pos hi, if_pos (by omega)] at this
    omega
  · intro e i hi
    rw [e.1]
    by_cases q : i < L'
    · rw [if_pos q, if_pos q, e.2 i (by omega)]
    · rw [if_neg q, if_neg q]
theorem s_let {t : St} {q n0 f to : Nat} {B : Nat → Int} (hB : ∀ i, f + i < to → t.1 q (f + i) % 256 = B i) (hr : ∀ i, i < to - f → 0 ≤ B i ∧ B i < 256) (hto : to ≤ n0) (hf : f ≤ 5000) (hn : n0 ≤ 5000) (K : Int64 → St → Option (Int64 × St)) : ∀ (d i n : Nat), i + d = 8 → d < n →
    f_X11_lettersOf_L5 q n0 K f to n (Int64.ofNat (pk8 B (to - f) i)) i t = K (Int64.ofNat (pk8 B (to - f) 8)) t := by
  intro d
  induction d with
  | zero =>
    intro i n h1 h2
    obtain ⟨n, rfl⟩ : ∃ k, n = k + 1 := ⟨n - 1, by omega⟩
    have : i = 8 := by omega
    subst this
    unfold f_X11_lettersOf_L5
    simp only [lt1_k, jn1_k]
    rw [cmpI_ok (by omega), if_neg (by omega)]
  | succ d ih =>
    intro i n h1 h2
    obtain ⟨n, rfl⟩ : ∃ k, n = k + 1 := ⟨n - 1, by omega⟩
    have i1 := ih (i + 1) n (by omega) (by omega)
    have hlt := pk8_lt (b := B) (L := to - f) hr i
    have h256 : 256 ^ i ≤ 2 ^ 56 := Nat.le_trans (Nat.pow_le_pow_right (by decide) (show i ≤ 7 by omega)) (by decide)
    unfold f_X11_lettersOf_L5
    simp only [lt1_k, jn1_k]
    rw [cmpI_ok (by omega), if_pos (by omega), cmpI_ok (by omega), show ((i : Int) + 1) = ((i + 1 : Nat) : Int) from by omega, shl8]
    unfold pk8 at i1
    by_cases h : f + i < to
    · have hb := hB i h
      have hr2 := hr i (by omega)
      rw [if_pos (show i < to - f by omega)] at i1
      rw [if_pos (by omega), cmpI_ok (by omega), if_pos (by omega), ixI_ok (by omega), show ((f : Int) + (i : Int)).toNat = f + i from by omega, hb, rnI_ok (by omega), or8 (by omega) hr2]
      exact i1
    · rw [if_neg (show ¬ i < to - f by omega), Nat.add_zero] at i1
      rw [if_neg (by omega)]
      exact i1
theorem s_lettersOf {N : Nat} {t : St} {q n0 f to : Nat} {B : Nat → Int} (hB : ∀ i, f + i < to → t.1 q (f + i) % 256 = B i) (hr : ∀ i, i < to - f → 0 ≤ B i ∧ B i < 256) (hto : to ≤ n0) (hf : f ≤ 5000) (hn : n0 ≤ 5000) (hN : 100 ≤ N) : f_X11_lettersOf N q n0 f to t = some (Int64.ofNat (pk8 B (to - f) 8), t) := by
  unfold f_X11_lettersOf
  exact s_let hB hr hto hf hn _ 8 0 N (by omega) (by omega)
def fmL (P : Nat → Bool) : Nat → Nat → Int
  | 0, _ => 38
  | d + 1, w => if P w = true then w else fmL P d (w + 1)
theorem s_kindW {t : St} {x : Int64} : ∀ (d w n : Nat), w + d = 38 → d < n → f_X10_kindOfWord_L2 (fun t6 => some (38, t6)) x n w t = some (fmL (fun w => decide (t.2 331 w = x)) d w, t) := by
  intro d
  induction d with
  | zero =>
    intro w n h1 h2
    obtain ⟨n, rfl⟩ : ∃ k, n = k + 1 := ⟨n - 1, by omega⟩
    unfold f_X10_kindOfWord_L2
    simp only [lt1_k, jn1_k]
    rw [cmpI_ok (by omega), if_neg (by omega)]; rfl
  | succ d ih =>
    intro w n h1 h2
    obtain ⟨n, rfl⟩ : ∃ k, n = k + 1 := ⟨n - 1, by omega⟩
    unfold f_X10_kindOfWord_L2 fmL
    simp only [lt1_k, jn1_k]
    rw [cmpI_ok (by omega), if_pos (by omega), ixI_ok (by omega), Int.toNat_natCast, show ((w : Int) + 1) = ((w + 1 : Nat) : Int) from by omega]
    by_cases h : t.2 331 w = x
    · rw [if_pos h, if_pos (decide_eq_true h)]
    · rw [if_neg h, if_neg (by rw [decide_eq_true_iff]; exact h)]
      exact ih (w + 1) n (by omega) (by omega)
theorem fmL_fmw {P : Nat → Bool} : ∀ d w : Nat, fmL P d w = if fmw P d w = -1 then 38 else fmw P d w := by
  intro d
  induction d with
  | zero => intro w; rfl
  | succ d ih =>
    intro w
    unfold fmL fmw
    by_cases h : P w = true
    · rw [if_pos h, if_pos h, if_neg (by omega)]
    · rw [if_neg h, if_neg h]; exact ih (w + 1)
