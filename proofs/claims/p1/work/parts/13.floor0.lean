/-! the floor, pure: a dancer's place and facing is a number below 16384 (its code) -/
def cdE (x y f : Int32) : Int32 := ((y <<< ((nI 4) &&& 31)) + (x >>> ((nI 2) &&& 31))) <<< ((nI 2) &&& 31) ||| f
theorem nI_or (a b : Nat) : nI a ||| nI b = nI (a ||| b) := by
  apply Int32.toBitVec.inj
  simp [nI, BitVec.ofNat_or]
theorem cdE_eq {c : Nat} (h : c < 16384) : cdE (nI (4 * (c / 4 % 64))) (nI (4 * (c / 256))) (nI (c % 4)) = nI c := by
  unfold cdE
  rw [pk_shlN (n := 4 * (c / 256)) (nI 4 &&& 31) 4 (by decide) (by omega), pk_shrN (n := 4 * (c / 4 % 64)) (by omega) (nI 2 &&& 31) 2 (by decide), nI_add, pk_shlN (nI 2 &&& 31) 2 (by decide) (by omega), nI_or]
  have e1 : (4 * (c / 256) * 2 ^ 4 + 4 * (c / 4 % 64) / 2 ^ 2) * 2 ^ 2 = 2 ^ 2 * (c / 4) := by omega
  rw [e1, ← Nat.two_pow_add_eq_or_of_lt (by omega : c % 4 < 2 ^ 2)]
  congr 1
  omega
/-- the dancers' codes, and the arrays that hold places and facings -/
def flo (cd : Nat → Nat) (N : Nat) (fx fy ff : Nat → Int32) : Prop := ∀ d, d < N → cd d < 16384 ∧ fx d = nI (4 * (cd d / 4 % 64)) ∧ fy d = nI (4 * (cd d / 256)) ∧ ff d = nI (cd d % 4)
theorem flo.code {cd : Nat → Nat} {N d : Nat} {fx fy ff : Nat → Int32} (h : flo cd N fx fy ff) (hd : d < N) : cdE (fx d) (fy d) (ff d) = nI (cd d) := by
  obtain ⟨h1, h2, h3, h4⟩ := h d hd
  rw [h2, h3, h4, cdE_eq h1]
/-- who is seated at a spot: 1 + the last of the dancers that has it -/
def seatOf (cd : Nat → Nat) : Nat → Nat → Int32
  | 0, _ => 0
  | n + 1, s => if cd n / 4 = s then nI (n + 1) else seatOf cd n s
/-- the seats while they are cleared -/
def clrS (cd : Nat → Nat) (f : Nat → Int32) : Nat → Nat → Int32
  | 0, s => f s
  | n + 1, s => if cd n / 4 = s then 0 else clrS cd f n s
/-- who faces a way -/
def faOf (cd : Nat → Nat) : Nat → Nat → Int64
  | 0, _ => 0
  | n + 1, k => if cd n % 4 = k then faOf cd n k ||| (1 : Int64) <<< ((nI n).toInt64 &&& 63) else faOf cd n k
theorem clrS_all {cd : Nat → Nat} {N : Nat} : ∀ n, n ≤ N → (∀ s, clrS cd (seatOf cd N) n s = 0 ∨ clrS cd (seatOf cd N) n s = seatOf cd N s) := by
  intro n
  induction n with
  | zero => intro _ s; exact Or.inr rfl
  | succ n ih =>
    intro h s
    unfold clrS
    split
    · exact Or.inl rfl
    · exact ih (by omega) s
theorem seatOf_0 {cd : Nat → Nat} {s : Nat} : ∀ N, (∀ d, d < N → ¬ cd d / 4 = s) → seatOf cd N s = 0 := by
  intro N
  induction N with
  | zero => intro _; rfl
  | succ N ih =>
    intro h
    unfold seatOf
    rw [if_neg (h N (by omega))]
    exact ih (fun d hd => h d (by omega))
theorem clrS_neg {cd : Nat → Nat} {f : Nat → Int32} {s : Nat} : ∀ N, (∀ d, d < N → ¬ cd d / 4 = s) → clrS cd f N s = f s := by
  intro N
  induction N with
  | zero => intro _; rfl
  | succ N ih =>
    intro h
    unfold clrS
    rw [if_neg (h N (by omega))]
    exact ih (fun d hd => h d (by omega))
theorem clrS_pos {cd : Nat → Nat} {f : Nat → Int32} {s : Nat} : ∀ N d, d < N → cd d / 4 = s → clrS cd f N s = 0 := by
  intro N
  induction N with
  | zero => intro d h; omega
  | succ N ih =>
    intro d h e
    unfold clrS
    by_cases hN : cd N / 4 = s
    · rw [if_pos hN]
    · rw [if_neg hN]
      refine ih d ?_ e
      rcases Nat.lt_or_ge d N with q | q
      · exact q
      · exact absurd (show cd N / 4 = s by rw [show N = d by omega]; exact e) hN
/-- when all are cleared, nobody is seated -/
theorem clrS_end {cd : Nat → Nat} {N s : Nat} : clrS cd (seatOf cd N) N s = 0 := by
  by_cases h : ∃ d, d < N ∧ cd d / 4 = s
  · obtain ⟨d, h1, h2⟩ := h
    exact clrS_pos N d h1 h2
  · have h2 : ∀ d, d < N → ¬ cd d / 4 = s := fun d h1 h3 => h ⟨d, h1, h3⟩
    rw [clrS_neg N h2, seatOf_0 N h2]
/-- insertion: a dancer comes in at place k or below -/
def updN (o : Nat → Nat) (k v : Nat) : Nat → Nat := fun j => if j = k then v else o j
def insO (lt : Nat → Nat → Bool) (d : Nat) : Nat → (Nat → Nat) → Nat → Nat
  | 0, o => updN o 0 d
  | k + 1, o => if lt d (o k) then insO lt d k (updN o (k + 1) (o k)) else updN o (k + 1) d
def srtO (lt : Nat → Nat → Bool) (o : Nat → Nat) : Nat → Nat → Nat
  | 0 => o
  | n + 1 => insO lt n n (srtO lt o n)
def cdLt (cd : Nat → Nat) (a b : Nat) : Bool := decide (cd a / 4 < cd b / 4)
theorem updN_nI (o : Nat → Nat) (k v : Nat) : upd (fun j => nI (o j)) k (nI v) = fun j => nI (updN o k v j) := by
  funext j
  unfold upd updN
  split <;> rfl
theorem insO_lt {lt : Nat → Nat → Bool} {d N : Nat} (hd : d < N) : ∀ (k : Nat) (o : Nat → Nat), (∀ j, j < k → o j < N) → ∀ j, j < k + 1 → insO lt d k o j < N := by
  intro k
  induction k with
  | zero =>
    intro o ho j hj
    unfold insO updN
    rw [if_pos (by omega)]
    exact hd
  | succ k ih =>
    intro o ho j hj
    unfold insO
    split
    · by_cases h : j < k + 1
      · exact ih _ (fun i hi => by unfold updN; rw [if_neg (by omega)]; exact ho i (by omega)) j h
      · have hk : ∀ (i : Nat) (o2 : Nat → Nat) (m : Nat), i < m → insO lt d i o2 m = o2 m := by
          intro i
          induction i with
          | zero => intro o2 m hm; unfold insO updN; rw [if_neg (by omega)]
          | succ i ih2 =>
            intro o2 m hm
            unfold insO
            split
            · rw [ih2 _ m (by omega)]; unfold updN; rw [if_neg (by omega)]
            · unfold updN; rw [if_neg (by omega)]
        rw [hk k _ j (by omega)]
        unfold updN
        rw [if_pos (by omega)]
        exact ho k (by omega)
    · unfold updN
      split
      · exact hd
      · exact ho j (by omega)
theorem srtO_lt {lt : Nat → Nat → Bool} {o : Nat → Nat} : ∀ n j, j < n → srtO lt o n j < n := by
  intro n
  induction n with
  | zero => intro j h; omega
  | succ n ih =>
    intro j h
    exact insO_lt (Nat.lt_succ_self n) n _ (fun i hi => Nat.lt_succ_of_lt (ih i hi)) j h
/-- where a dancer of a set of a kind begins -/
def stC (kind d : Nat) : Nat :=
  match kind with
  | 0 => ([4, 8, 271, 527, 778, 774, 513, 257] : List Nat).getD (d % 8) 0
  | 1 => 256 * (d / 2) + 4 * (d % 2) + (1 + 2 * (d % 2))
  | 2 => 256 * (d / 2) + 4 * ((d % 2) ^^^ (d / 2 % 2)) + 2 * (d / 2 % 2)
  | _ => 256 * (2 * (d / 4) + (1 ^^^ (d % 2) ^^^ (d / 2 % 2))) + 4 * (d / 2 % 2) + (1 + 2 * (d / 2 % 2))
