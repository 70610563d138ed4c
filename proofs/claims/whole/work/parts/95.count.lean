/-! how many bits a long has -/
def uq (x : Int64) : Nat := x.toBitVec.toNat
theorem uq_and {a b : Int64} : uq (a &&& b) = uq a &&& uq b := by unfold uq; rw [Int64.toBitVec_and, BitVec.toNat_and]
theorem uq_lt {a : Int64} : uq a < 18446744073709551616 := a.toBitVec.isLt
theorem uq_add {a b : Int64} : uq (a + b) = (uq a + uq b) % 18446744073709551616 := by unfold uq; rw [Int64.toBitVec_add, BitVec.toNat_add]
theorem uq_sub {a b : Int64} (h : uq b ≤ uq a) : uq (a - b) = uq a - uq b := by
  have h1 : uq (a - b) = (18446744073709551616 - uq b + uq a) % 18446744073709551616 := by unfold uq; rw [Int64.toBitVec_sub, BitVec.toNat_sub]
  have h2 := uq_lt (a := a)
  have h3 := uq_lt (a := b)
  omega
theorem uq_shr {a : Int64} {v : Nat} (h : v < 64) : uq (ushrL a (v : Int)) = uq a / 2 ^ v := by
  unfold ushrL
  have hs := bq_cu v h
  generalize ((Int32.ofInt ((v : Nat) : Int)).toInt64.toUInt64 &&& Int64.toUInt64 63) = s at hs
  show (a.toUInt64 >>> s).toNat = _
  rw [UInt64.toNat_shiftRight, hs, Nat.mod_eq_of_lt h, Nat.shiftRight_eq_div_pow]
  rfl
theorem uq_int {a : Int64} : a.toInt % 128 = ((uq a % 128 : Nat) : Int) := by
  have h : a.toInt = if 2 * uq a < 2 ^ 64 then (uq a : Int) else (uq a : Int) - ((2 ^ 64 : Nat) : Int) := BitVec.toInt_eq_toNat_cond a.toBitVec
  rw [h]
  split <;> omega
theorem land256 {x y c d : Nat} (hc : c < 256) (hd : d < 256) : (256 * x + c) &&& (256 * y + d) = 256 * (x &&& y) + (c &&& d) := by
  have h1 : ((256 * x + c) &&& (256 * y + d)) % 2 ^ 8 = (256 * x + c) % 2 ^ 8 &&& (256 * y + d) % 2 ^ 8 := Nat.and_mod_two_pow
  have h2 : ((256 * x + c) &&& (256 * y + d)) >>> 8 = (256 * x + c) >>> 8 &&& (256 * y + d) >>> 8 := Nat.shiftRight_and_distrib
  rw [Nat.shiftRight_eq_div_pow, Nat.shiftRight_eq_div_pow, Nat.shiftRight_eq_div_pow] at h2
  rw [show (2 : Nat) ^ 8 = 256 from rfl] at h1 h2
  rw [show (256 * x + c) % 256 = c by omega, show (256 * y + d) % 256 = d by omega] at h1
  rw [show (256 * x + c) / 256 = x by omega, show (256 * y + d) / 256 = y by omega] at h2
  omega
def mM (v : Nat) : Nat → Nat
  | 0 => 0
  | b + 1 => 256 * mM v b + v
def P1 (b n : Nat) : Nat := n - ((n / 2) &&& mM 85 b)
def P2 (b n : Nat) : Nat := (n &&& mM 51 b) + ((n / 4) &&& mM 51 b)
def P3 (b n : Nat) : Nat := (n + n / 16) &&& mM 15 b
def q1 (r : Nat) : Nat := r - ((r / 2) &&& 85)
def q2 (r : Nat) : Nat := (r &&& 51) + ((r / 4) &&& 51)
def q3 (r : Nat) : Nat := (r + r / 16) &&& 15
theorem q_a : ∀ x, x < 2 → ∀ y, y < 128 → (128 * x + y) &&& 85 = y &&& 85 := by decide +kernel
theorem q_b : ∀ x, x < 4 → ∀ y, y < 64 → (64 * x + y) &&& 51 = y &&& 51 := by decide +kernel
theorem q_c : ∀ x, x < 5 → ∀ y, y < 80 → (16 * x + y) &&& 15 = y &&& 15 := by decide +kernel
theorem q_d : ∀ r, r < 256 → q1 r < 256 ∧ q2 (q1 r) ≤ 68 ∧ q2 (q1 r) % 16 ≤ 4 ∧ q3 (q2 (q1 r)) = r % 2 + (r / 2 % 2 + (r / 2 / 2 % 2 + (r / 2 / 2 / 2 % 2 + (r / 2 / 2 / 2 / 2 % 2 + (r / 2 / 2 / 2 / 2 / 2 % 2 + (r / 2 / 2 / 2 / 2 / 2 / 2 % 2 + r / 2 / 2 / 2 / 2 / 2 / 2 / 2 % 2)))))) := by decide +kernel
theorem P1_s {b m r : Nat} (hr : r < 256) : P1 (b + 1) (256 * m + r) = 256 * P1 b m + q1 r := by
  unfold P1 q1
  rw [show (256 * m + r) / 2 = 256 * (m / 2) + (128 * (m % 2) + r / 2) by omega, show mM 85 (b + 1) = 256 * mM 85 b + 85 from rfl, land256 (by omega) (by decide), q_a (m % 2) (by omega) (r / 2) (by omega)]
  have h1 : (m / 2) &&& mM 85 b ≤ m / 2 := Nat.and_le_left
  have h2 : (r / 2) &&& 85 ≤ r / 2 := Nat.and_le_left
  omega
theorem P2_s {b m r : Nat} (hr : r < 256) : P2 (b + 1) (256 * m + r) = 256 * P2 b m + q2 r := by
  unfold P2 q2
  rw [show (256 * m + r) / 4 = 256 * (m / 4) + (64 * (m % 4) + r / 4) by omega, show mM 51 (b + 1) = 256 * mM 51 b + 51 from rfl, land256 hr (by decide), land256 (by omega) (by decide), q_b (m % 4) (by omega) (r / 4) (by omega)]
  omega
theorem P3_s {b m r : Nat} (hr : r ≤ 68) (hm : m % 16 ≤ 4) : P3 (b + 1) (256 * m + r) = 256 * P3 b m + q3 r := by
  unfold P3 q3
  rw [show 256 * m + r + (256 * m + r) / 16 = 256 * (m + m / 16) + (16 * (m % 16) + (r + r / 16)) by omega, show mM 15 (b + 1) = 256 * mM 15 b + 15 from rfl, land256 (by omega) (by decide), q_c (m % 16) (by omega) (r + r / 16) (by omega)]
theorem P_lo {b m : Nat} : P2 (b + 1) (P1 (b + 1) m) % 16 ≤ 4 := by
  have h : m = 256 * (m / 256) + m % 256 := by omega
  have hr : m % 256 < 256 := Nat.mod_lt _ (by decide)
  rw [h, P1_s hr, P2_s (q_d _ hr).1]
  have := (q_d _ hr).2.2.1
  omega
theorem P_s {b m r : Nat} (hr : r < 256) : P3 (b + 2) (P2 (b + 2) (P1 (b + 2) (256 * m + r))) = 256 * P3 (b + 1) (P2 (b + 1) (P1 (b + 1) m)) + q3 (q2 (q1 r)) := by
  have hq := q_d r hr
  rw [P1_s hr, P2_s hq.1, P3_s hq.2.1 P_lo]
theorem P_1 {r : Nat} (hr : r < 256) : P3 1 (P2 1 (P1 1 r)) = q3 (q2 (q1 r)) := by
  have hq := q_d r hr
  have h0 : r = 256 * 0 + r := by omega
  have e1 : P1 1 r = q1 r := by conv => lhs; rw [h0]; 
                                rw [P1_s hr]; unfold P1; simp
  have e2 : P2 1 (q1 r) = q2 (q1 r) := by
    conv => lhs; rw [show q1 r = 256 * 0 + q1 r by omega]
    rw [P2_s hq.1]; unfold P2; simp
  have e3 : P3 1 (q2 (q1 r)) = q3 (q2 (q1 r)) := by
    conv => lhs; rw [show q2 (q1 r) = 256 * 0 + q2 (q1 r) by omega]
    rw [P3_s hq.2.1 (by decide)]; unfold P3; simp
  rw [e1, e2, e3]
/-- the bits of a number -/
def cl : Nat → Nat → Nat
  | 0, _ => 0
  | k + 1, n => n % 2 + cl k (n / 2)
theorem cl_s : ∀ k n, cl (k + 1) n = cl k n + (n / 2 ^ k) % 2 := by
  intro k
  induction k with
  | zero => intro n; show n % 2 + 0 = 0 + (n / 1) % 2; rw [Nat.div_one]; omega
  | succ k ih =>
    intro n
    show n % 2 + cl (k + 1) (n / 2) = (n % 2 + cl k (n / 2)) + (n / 2 ^ (k + 1)) % 2
    rw [ih (n / 2), Nat.div_div_eq_div_mul, show 2 * 2 ^ k = 2 ^ (k + 1) by rw [Nat.pow_succ]; omega]
    omega
theorem cnb_cl {s : Int64} : ∀ k, cnb s k = cl k (uq s) := by
  intro k
  induction k with
  | zero => rfl
  | succ k ih =>
    rw [cl_s, show cnb s (k + 1) = cnb s k + (if bq s k = true then 1 else 0) from rfl, ih]
    congr 1
    have h : bq s k = (uq s).testBit k := rfl
    rw [h, Nat.testBit_eq_decide_div_mod_eq]
    by_cases h2 : uq s / 2 ^ k % 2 = 1
    · rw [h2]; simp
    · have : uq s / 2 ^ k % 2 = 0 := by omega
      rw [this]; simp
theorem cl_8 {k n : Nat} : cl (k + 8) n = q3 (q2 (q1 (n % 256))) + cl k (n / 256) := by
  rw [(q_d (n % 256) (Nat.mod_lt _ (by decide))).2.2.2]
  show n % 2 + (n / 2 % 2 + (n / 2 / 2 % 2 + (n / 2 / 2 / 2 % 2 + (n / 2 / 2 / 2 / 2 % 2 + (n / 2 / 2 / 2 / 2 / 2 % 2 + (n / 2 / 2 / 2 / 2 / 2 / 2 % 2 + (n / 2 / 2 / 2 / 2 / 2 / 2 / 2 % 2 + cl k (n / 2 / 2 / 2 / 2 / 2 / 2 / 2 / 2)))))))) = _
  rw [show n / 2 / 2 / 2 / 2 / 2 / 2 / 2 / 2 = n / 256 by omega]
  omega
theorem q_le : ∀ r, r < 256 → q3 (q2 (q1 r)) ≤ 8 := by decide +kernel
theorem P_8 {n : Nat} (hn : n < 18446744073709551616) : ∃ c0 c1 c2 c3 c4 c5 c6 c7 : Nat, c0 ≤ 8 ∧ c1 ≤ 8 ∧ c2 ≤ 8 ∧ c3 ≤ 8 ∧ c4 ≤ 8 ∧ c5 ≤ 8 ∧ c6 ≤ 8 ∧ c7 ≤ 8 ∧ cl 64 n = c0 + c1 + c2 + c3 + c4 + c5 + c6 + c7 ∧
    P3 8 (P2 8 (P1 8 n)) = c0 + 256 * (c1 + 256 * (c2 + 256 * (c3 + 256 * (c4 + 256 * (c5 + 256 * (c6 + 256 * c7)))))) := by
  have hm : ∀ x : Nat, x % 256 < 256 := fun x => Nat.mod_lt _ (by decide)
  have hs : ∀ x : Nat, x = 256 * (x / 256) + x % 256 := fun x => by omega
  generalize h1 : n / 256 = n1
  generalize h2 : n1 / 256 = n2
  generalize h3 : n2 / 256 = n3
  generalize h4 : n3 / 256 = n4
  generalize h5 : n4 / 256 = n5
  generalize h6 : n5 / 256 = n6
  generalize h7 : n6 / 256 = n7
  have hn7 : n7 < 256 := by omega
  refine ⟨q3 (q2 (q1 (n % 256))), q3 (q2 (q1 (n1 % 256))), q3 (q2 (q1 (n2 % 256))), q3 (q2 (q1 (n3 % 256))), q3 (q2 (q1 (n4 % 256))), q3 (q2 (q1 (n5 % 256))), q3 (q2 (q1 (n6 % 256))), q3 (q2 (q1 (n7 % 256))), q_le _ (hm _), q_le _ (hm _), q_le _ (hm _), q_le _ (hm _), q_le _ (hm _), q_le _ (hm _), q_le _ (hm _), q_le _ (hm _), ?_, ?_⟩
  · rw [show (64 : Nat) = 0 + 8 + 8 + 8 + 8 + 8 + 8 + 8 + 8 from rfl, cl_8, h1, cl_8, h2, cl_8, h3, cl_8, h4, cl_8, h5, cl_8, h6, cl_8, h7, cl_8]
    show _ + (_ + (_ + (_ + (_ + (_ + (_ + (_ + 0))))))) = _
    omega
  · have e0 : P3 8 (P2 8 (P1 8 n)) = 256 * P3 7 (P2 7 (P1 7 n1)) + q3 (q2 (q1 (n % 256))) := by
      conv => lhs; rw [hs n, h1]
      exact P_s (b := 6) (hm _)
    have e1 : P3 7 (P2 7 (P1 7 n1)) = 256 * P3 6 (P2 6 (P1 6 n2)) + q3 (q2 (q1 (n1 % 256))) := by
      conv => lhs; rw [hs n1, h2]
      exact P_s (b := 5) (hm _)
    have e2 : P3 6 (P2 6 (P1 6 n2)) = 256 * P3 5 (P2 5 (P1 5 n3)) + q3 (q2 (q1 (n2 % 256))) := by
      conv => lhs; rw [hs n2, h3]
      exact P_s (b := 4) (hm _)
    have e3 : P3 5 (P2 5 (P1 5 n3)) = 256 * P3 4 (P2 4 (P1 4 n4)) + q3 (q2 (q1 (n3 % 256))) := by
      conv => lhs; rw [hs n3, h4]
      exact P_s (b := 3) (hm _)
    have e4 : P3 4 (P2 4 (P1 4 n4)) = 256 * P3 3 (P2 3 (P1 3 n5)) + q3 (q2 (q1 (n4 % 256))) := by
      conv => lhs; rw [hs n4, h5]
      exact P_s (b := 2) (hm _)
    have e5 : P3 3 (P2 3 (P1 3 n5)) = 256 * P3 2 (P2 2 (P1 2 n6)) + q3 (q2 (q1 (n5 % 256))) := by
      conv => lhs; rw [hs n5, h6]
      exact P_s (b := 1) (hm _)
    have e6 : P3 2 (P2 2 (P1 2 n6)) = 256 * P3 1 (P2 1 (P1 1 n7)) + q3 (q2 (q1 (n6 % 256))) := by
      conv => lhs; rw [hs n6, h7]
      exact P_s (b := 0) (hm _)
    have e7 : P3 1 (P2 1 (P1 1 n7)) = q3 (q2 (q1 (n7 % 256))) := by
      rw [show n7 % 256 = n7 by omega]; exact P_1 hn7
    rw [e0, e1, e2, e3, e4, e5, e6, e7]
    omega
theorem dv9 {a D k : Nat} (h : a < k) : (a + k * D) / k = D := by
  rw [Nat.add_mul_div_left _ _ (by omega), Nat.div_eq_of_lt h, Nat.zero_add]
theorem bd2 {d0 d1 d2 : Nat} (l0 : d0 ≤ 8) (l1 : d1 ≤ 8) (l2 : d2 ≤ 8) : d0 + d1 + 256 * (d1 + d2) < 65536 := by omega
theorem bd3 {d0 d1 d2 d3 d4 d5 d6 : Nat} (l0 : d0 ≤ 8) (l1 : d1 ≤ 8) (l2 : d2 ≤ 8) (l3 : d3 ≤ 8) (l4 : d4 ≤ 8) (l5 : d5 ≤ 8) (l6 : d6 ≤ 8) : d0 + d1 + d2 + d3 + 256 * (d1 + d2 + d3 + d4) + 65536 * (d2 + d3 + d4 + d5) + 16777216 * (d3 + d4 + d5 + d6) < 4294967296 := by omega
theorem bd4 {d0 d1 d2 d3 d4 d5 d6 d7 : Nat} (l0 : d0 ≤ 8) (l1 : d1 ≤ 8) (l2 : d2 ≤ 8) (l3 : d3 ≤ 8) (l4 : d4 ≤ 8) (l5 : d5 ≤ 8) (l6 : d6 ≤ 8) (l7 : d7 ≤ 8) : d0 + d1 + d2 + d3 + d4 + d5 + d6 + d7 < 128 := by omega
theorem ln2 {d0 d1 d2 D3 : Nat} : d0 + 256 * (d1 + 256 * (d2 + 256 * D3)) + (d1 + 256 * (d2 + 256 * D3)) = (d0 + d1 + 256 * (d1 + d2)) + 65536 * ((d2 + 256 * D3) + D3) := by omega
theorem ln3 {d0 d1 d2 d3 d4 d5 D6 d6 d7 : Nat} (h : D6 = d6 + 256 * d7) : (d0 + d1 + 256 * (d1 + d2)) + 65536 * ((d2 + 256 * (d3 + 256 * (d4 + 256 * (d5 + 256 * D6)))) + (d3 + 256 * (d4 + 256 * (d5 + 256 * D6)))) + ((d2 + 256 * (d3 + 256 * (d4 + 256 * (d5 + 256 * D6)))) + (d3 + 256 * (d4 + 256 * (d5 + 256 * D6)))) =
    (d0 + d1 + d2 + d3 + 256 * (d1 + d2 + d3 + d4) + 65536 * (d2 + d3 + d4 + d5) + 16777216 * (d3 + d4 + d5 + d6)) + 4294967296 * ((d4 + 256 * (d5 + 256 * D6)) + (d5 + 256 * D6) + D6 + d7) := by omega
theorem ln4 {s0 a1 a2 a3 d4 d5 d6 d7 D5 D6 : Nat} (h5 : D5 = d5 + 256 * D6) (h6 : D6 = d6 + 256 * d7) : (s0 + 256 * a1 + 65536 * a2 + 16777216 * a3) + 4294967296 * ((d4 + 256 * D5) + D5 + D6 + d7) + ((d4 + 256 * D5) + D5 + D6 + d7) = (s0 + d4 + d5 + d6 + d7) + 128 * (2 * (a1 + 256 * a2 + 65536 * a3 + 16777216 * ((d4 + 256 * D5) + D5 + D6 + d7) + D5 + D6 + d7)) := by omega
theorem cnt_f {d0 d1 d2 d3 d4 d5 d6 d7 x3 x4 x5 x6 : Nat} (l0 : d0 ≤ 8) (l1 : d1 ≤ 8) (l2 : d2 ≤ 8) (l3 : d3 ≤ 8) (l4 : d4 ≤ 8) (l5 : d5 ≤ 8) (l6 : d6 ≤ 8) (l7 : d7 ≤ 8)
    (h3 : x3 = d0 + 256 * (d1 + 256 * (d2 + 256 * (d3 + 256 * (d4 + 256 * (d5 + 256 * (d6 + 256 * d7))))))) (h4 : x4 = x3 + x3 / 256) (h5 : x5 = x4 + x4 / 65536) (h6 : x6 = x5 + x5 / 4294967296) : x6 % 128 = d0 + d1 + d2 + d3 + d4 + d5 + d6 + d7 := by
  rw [h3, dv9 (Nat.lt_of_le_of_lt l0 (by decide)), ln2] at h4
  rw [h4, dv9 (bd2 l0 l1 l2), ln3 rfl] at h5
  rw [h5, dv9 (bd3 l0 l1 l2 l3 l4 l5 l6), ln4 rfl rfl] at h6
  rw [h6, Nat.add_mul_mod_self_left]
  exact Nat.mod_eq_of_lt (bd4 l0 l1 l2 l3 l4 l5 l6 l7)
theorem P1_le {b n : Nat} : P1 b n ≤ n := Nat.sub_le _ _
theorem mM_55 : mM 85 8 = 6148914691236517205 := by decide
theorem mM_33 : mM 51 8 = 3689348814741910323 := by decide
theorem mM_0f : mM 15 8 = 1085102592571150095 := by decide
theorem h_bitCount {N : Nat} {a : Int64} {t : St} : f_J13_bitCount_95d88 N a t = some (((cnb a 64 : Nat) : Int), t) := by
  unfold f_J13_bitCount_95d88
  have s1 : ∀ x : Int64, uq (ushrL x 1) = uq x / 2 := fun x => uq_shr (v := 1) (by decide)
  have s2 : ∀ x : Int64, uq (ushrL x 2) = uq x / 4 := fun x => uq_shr (v := 2) (by decide)
  have s4 : ∀ x : Int64, uq (ushrL x 4) = uq x / 16 := fun x => uq_shr (v := 4) (by decide)
  have s8 : ∀ x : Int64, uq (ushrL x 8) = uq x / 256 := fun x => uq_shr (v := 8) (by decide)
  have s16 : ∀ x : Int64, uq (ushrL x 16) = uq x / 65536 := fun x => uq_shr (v := 16) (by decide)
  have s32 : ∀ x : Int64, uq (ushrL x 32) = uq x / 4294967296 := fun x => uq_shr (v := 32) (by decide)
  have c1 : uq (6148914691236517205 : Int64) = mM 85 8 := by decide
  have c2 : uq (3689348814741910323 : Int64) = mM 51 8 := by decide
  have c3 : uq (1085102592571150095 : Int64) = mM 15 8 := by decide
  have hlt := uq_lt (a := a)
  have a1 : uq (a - ((ushrL a 1) &&& (6148914691236517205 : Int64))) = P1 8 (uq a) := by
    have : uq ((ushrL a 1) &&& (6148914691236517205 : Int64)) = (uq a / 2) &&& mM 85 8 := by rw [uq_and, s1, c1]
    have hle : (uq a / 2) &&& mM 85 8 ≤ uq a / 2 := Nat.and_le_left
    rw [uq_sub (by rw [this]; omega), this]
    rfl
  generalize a - ((ushrL a 1) &&& (6148914691236517205 : Int64)) = x1 at *
  have a2 : uq ((x1 &&& (3689348814741910323 : Int64)) + ((ushrL x1 2) &&& (3689348814741910323 : Int64))) = P2 8 (P1 8 (uq a)) := by
    have h1 : (uq x1) &&& mM 51 8 ≤ mM 51 8 := Nat.and_le_right
    have h2 : (uq x1 / 4) &&& mM 51 8 ≤ mM 51 8 := Nat.and_le_right
    rw [mM_33] at h1 h2
    rw [uq_add, uq_and, uq_and, s2, c2, mM_33, Nat.mod_eq_of_lt (by omega), ← mM_33, a1]
    rfl
  generalize (x1 &&& (3689348814741910323 : Int64)) + ((ushrL x1 2) &&& (3689348814741910323 : Int64)) = x2 at *
  have b2 : uq x2 ≤ 7378697629483820646 := by
    rw [a2]
    unfold P2
    have h1 : (P1 8 (uq a)) &&& mM 51 8 ≤ mM 51 8 := Nat.and_le_right
    have h2 : (P1 8 (uq a) / 4) &&& mM 51 8 ≤ mM 51 8 := Nat.and_le_right
    rw [mM_33] at *
    omega
  have a3 : uq ((x2 + (ushrL x2 4)) &&& (1085102592571150095 : Int64)) = P3 8 (P2 8 (P1 8 (uq a))) := by
    rw [uq_and, uq_add, s4, c3, Nat.mod_eq_of_lt (by omega), a2]
    rfl
  generalize (x2 + (ushrL x2 4)) &&& (1085102592571150095 : Int64) = x3 at *
  obtain ⟨d0, d1, d2, d3, d4, d5, d6, d7, l0, l1, l2, l3, l4, l5, l6, l7, hc, hp⟩ := P_8 hlt
  rw [hp] at a3
  have k3 : uq x3 ≤ 600000000000000000 := by clear a1 a2 b2 hc hp s1 s2 s4 s8 s16 s32 c1 c2 c3; omega
  have a4 : uq (x3 + (ushrL x3 8)) = uq x3 + uq x3 / 256 := by rw [uq_add, s8, Nat.mod_eq_of_lt (by clear a1 a2 a3 b2 hc hp; omega)]
  generalize x3 + (ushrL x3 8) = x4 at *
  have k4 : uq x4 ≤ 1200000000000000000 := by clear a1 a2 a3 b2 hc hp; omega
  have a5 : uq (x4 + (ushrL x4 16)) = uq x4 + uq x4 / 65536 := by rw [uq_add, s16, Nat.mod_eq_of_lt (by clear a1 a2 a3 a4 b2 hc hp; omega)]
  generalize x4 + (ushrL x4 16) = x5 at *
  have k5 : uq x5 ≤ 2400000000000000000 := by clear a1 a2 a3 a4 b2 hc hp; omega
  have a6 : uq (x5 + (ushrL x5 32)) = uq x5 + uq x5 / 4294967296 := by rw [uq_add, s32, Nat.mod_eq_of_lt (by clear a1 a2 a3 a4 a5 b2 hc hp; omega)]
  generalize x5 + (ushrL x5 32) = x6 at *
  rw [uq_int, cnb_cl, hc, cnt_f l0 l1 l2 l3 l4 l5 l6 l7 a3 a4 a5 a6]
