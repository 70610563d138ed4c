/-! floors: who is where, the order -/
/-- an int array written anew -/
def pA (t : St) (a : Nat) (F : Nat → Int) : St := (fun x => bif Nat.beq x a then F else t.1 x, t.2)
def fup (F : Nat → Int) (i : Nat) (v : Int) : Nat → Int := fun j => if j = i then v else F j
theorem pA_at {t : St} {a : Nat} {F : Nat → Int} : (pA t a F).1 a = F := by
  show (bif Nat.beq a a then F else t.1 a) = F
  rw [Nat.beq_refl]; rfl
theorem pA_ne {t : St} {a b : Nat} {F : Nat → Int} (h : b ≠ a) : (pA t a F).1 b = t.1 b := by
  show (bif Nat.beq b a then F else t.1 b) = _
  rw [show Nat.beq b a = false from Bool.eq_false_iff.mpr (fun q => h (Nat.eq_of_beq_eq_true q))]; rfl
theorem pA_2 {t : St} {a : Nat} {F : Nat → Int} : (pA t a F).2 = t.2 := rfl
theorem pA_I {t : St} {a i : Nat} {F : Nat → Int} {v : Int} : pI (pA t a F) a i v = pA t a (fup F i v) := by
  unfold pI pA fup
  refine Prod.ext ?_ rfl
  funext x y
  show (bif Nat.beq x a && Nat.beq y i then v else (bif Nat.beq x a then F else t.1 x) y) = (bif Nat.beq x a then (fun j => if j = i then v else F j) else t.1 x) y
  cases h : Nat.beq x a with
  | false => rfl
  | true =>
    show (bif Nat.beq y i then v else F y) = if y = i then v else F y
    by_cases h2 : y = i
    · rw [if_pos h2, h2, Nat.beq_refl]; rfl
    · rw [if_neg h2, show Nat.beq y i = false from Bool.eq_false_iff.mpr (fun q => h2 (Nat.eq_of_beq_eq_true q))]; rfl
theorem pA_self {t : St} {a : Nat} : pA t a (t.1 a) = t := by
  unfold pA
  refine Prod.ext ?_ rfl
  funext x
  show (bif Nat.beq x a then t.1 a else t.1 x) = t.1 x
  cases h : Nat.beq x a with
  | false => rfl
  | true => rw [Nat.eq_of_beq_eq_true h]; rfl
theorem pA_pA {t : St} {a : Nat} {F G : Nat → Int} : pA (pA t a F) a G = pA t a G := by
  unfold pA
  refine Prod.ext ?_ rfl
  funext x
  show (bif Nat.beq x a then G else bif Nat.beq x a then F else t.1 x) = bif Nat.beq x a then G else t.1 x
  cases Nat.beq x a <;> rfl
theorem pI_A {t : St} {a i : Nat} {v : Int} : pI t a i v = pA t a (fup (t.1 a) i v) := by
  rw [← pA_I, pA_self]
theorem fup_at {F : Nat → Int} {i : Nat} {v : Int} : fup F i v i = v := if_pos rfl
theorem fup_ne {F : Nat → Int} {i j : Nat} {v : Int} (h : j ≠ i) : fup F i v j = F j := if_neg h
/-! numbers put together by bits -/
theorem ior_nat {a b : Nat} (ha : a < 2147483648) (hb : b < 2147483648) : iorZ (a : Int) (b : Int) = ((a ||| b : Nat) : Int) := by
  unfold iorZ
  have hlt : a ||| b < 2 ^ 31 := Nat.or_lt_two_pow (by omega) (by omega)
  have e : (Int32.ofInt (a : Int) ||| Int32.ofInt (b : Int)) = Int32.ofInt ((a ||| b : Nat) : Int) := by
    apply Int32.toBitVec_inj.mp
    rw [Int32.toBitVec_or, Int32.toBitVec_ofInt, Int32.toBitVec_ofInt, Int32.toBitVec_ofInt, BitVec.ofInt_natCast, BitVec.ofInt_natCast, BitVec.ofInt_natCast]
    apply BitVec.eq_of_toNat_eq
    rw [BitVec.toNat_or, BitVec.toNat_ofNat, BitVec.toNat_ofNat, BitVec.toNat_ofNat, Nat.mod_eq_of_lt (by omega), Nat.mod_eq_of_lt (by omega), Nat.mod_eq_of_lt (by omega)]
  rw [e, z_to ⟨by omega, by omega⟩]
theorem ior_4 {a b : Int} (ha : 0 ≤ a ∧ a < 2147483648) (hb : 0 ≤ b ∧ b < 2147483648) : (iorZ a b) % 4 = 0 ↔ a % 4 = 0 ∧ b % 4 = 0 := by
  obtain ⟨x, rfl⟩ := Int.eq_ofNat_of_zero_le ha.1
  obtain ⟨y, rfl⟩ := Int.eq_ofNat_of_zero_le hb.1
  rw [ior_nat (by omega) (by omega)]
  have h1 : (x ||| y) % 2 ^ 2 = x % 2 ^ 2 ||| y % 2 ^ 2 := Nat.or_mod_two_pow
  have h2 : (x % 2 ^ 2 ||| y % 2 ^ 2) = 0 ↔ x % 2 ^ 2 = 0 ∧ y % 2 ^ 2 = 0 := Nat.or_eq_zero_iff
  rw [show (2 : Nat) ^ 2 = 4 from rfl] at h1 h2
  constructor
  · intro h
    have : (x ||| y) % 4 = 0 := by omega
    rw [h1] at this
    have := h2.mp this
    omega
  · intro h
    have := h2.mpr ⟨by omega, by omega⟩
    rw [← h1] at this
    omega
theorem ior_lo {a b : Int} (k : Nat) (ha : 0 ≤ a ∧ a * 2 ^ k < 2147483648) (hb : 0 ≤ b ∧ b < 2 ^ k) (hk : k ≤ 20) : iorZ (a * 2 ^ k) b = a * 2 ^ k + b := by
  obtain ⟨x, rfl⟩ := Int.eq_ofNat_of_zero_le ha.1
  obtain ⟨y, rfl⟩ := Int.eq_ofNat_of_zero_le hb.1
  have hp : (2 : Int) ^ k = ((2 ^ k : Nat) : Int) := by simp
  have hle : 2 ^ k ≤ 2 ^ 20 := Nat.pow_le_pow_right (by decide) hk
  rw [hp] at ha hb ⊢
  have e : (x : Int) * ((2 ^ k : Nat) : Int) = ((x * 2 ^ k : Nat) : Int) := by rw [Int.natCast_mul]
  rw [e] at ha ⊢
  rw [ior_nat (by omega) (by omega)]
  have h1 : 2 ^ k * x + y = 2 ^ k * x ||| y := Nat.two_pow_add_eq_or_of_lt (by omega) x
  rw [Nat.mul_comm] at h1
  rw [← h1]
  omega
theorem ior_64 {a b : Int} (ha : 0 ≤ a ∧ a < 33554432) (hb : 0 ≤ b ∧ b < 64) : iorZ (a * 64) b = a * 64 + b := ior_lo 6 ⟨ha.1, by omega⟩ ⟨hb.1, by omega⟩ (by decide)
theorem ior_c {a b : Int} (ha : 0 ≤ a ∧ a < 500000000) (hb : 0 ≤ b ∧ b < 4) : iorZ (a * 4) b = a * 4 + b := ior_lo 2 ⟨ha.1, by omega⟩ ⟨hb.1, by omega⟩ (by decide)
/-! who is at a place -/
theorem fmw_t {P : Nat → Bool} {d w : Nat} (h : P w = true) : fmw P (d + 1) w = w := if_pos h
theorem fmw_f {P : Nat → Bool} {d w : Nat} (h : P w = false) : fmw P (d + 1) w = fmw P d (w + 1) := if_neg (by rw [h]; decide)
abbrev ok4 (v : Int) : Prop := 0 ≤ v ∧ v ≤ 252 ∧ v % 4 = 0
def who9 (X Y : Nat → Int) (n : Nat) (px py : Int) : Int := fmw (fun d => decide (X d = px) && decide (Y d = py)) n 0
/-- places and facings of a squared floor -/
def FXs (X Y W : Nat → Int) (n : Nat) : Prop := n ≤ 64 ∧ (∀ d, d < n → ok4 (X d) ∧ ok4 (Y d) ∧ 0 ≤ W d ∧ W d ≤ 3) ∧ ∀ d e, d < n → e < n → X d = X e → Y d = Y e → d = e
theorem who9_rng {X Y : Nat → Int} {n : Nat} {px py : Int} : -1 ≤ who9 X Y n px py ∧ who9 X Y n px py < n := by
  unfold who9
  by_cases h : fmw (fun d => decide (X d = px) && decide (Y d = py)) n 0 = -1
  · rw [h]; omega
  · obtain ⟨k, h1, h2, h3, h4⟩ := fmw_some _ _ h
    rw [h3]; omega
theorem who9_at {X Y : Nat → Int} {n : Nat} {px py : Int} {k : Nat} (h : who9 X Y n px py = k) : k < n ∧ X k = px ∧ Y k = py := by
  unfold who9 at h
  obtain ⟨j, h1, h2, h3, h4⟩ := fmw_some _ _ (show fmw (fun d => decide (X d = px) && decide (Y d = py)) n 0 ≠ -1 by rw [h]; omega)
  have : j = k := by omega
  subst this
  rw [Bool.and_eq_true, decide_eq_true_iff, decide_eq_true_iff] at h4
  exact ⟨by omega, h4.1, h4.2⟩
theorem who9_no {X Y : Nat → Int} {n : Nat} {px py : Int} (h : ∀ d, d < n → ¬ (X d = px ∧ Y d = py)) : who9 X Y n px py = -1 := by
  apply Classical.byContradiction
  intro h2
  unfold who9 at h2
  obtain ⟨j, h1, h3, h4, h5⟩ := fmw_some _ _ h2
  rw [Bool.and_eq_true, decide_eq_true_iff, decide_eq_true_iff] at h5
  exact h j (by omega) h5
theorem who9_of {X Y W : Nat → Int} {n d : Nat} (hV : FXs X Y W n) (hd : d < n) : who9 X Y n (X d) (Y d) = d := by
  by_cases h : who9 X Y n (X d) (Y d) = -1
  · unfold who9 at h
    have := fmw_neg _ _ h d (by omega) (by omega)
    simp at this
  · have h2 := who9_rng (X := X) (Y := Y) (n := n) (px := X d) (py := Y d)
    obtain ⟨k, hk⟩ := Int.eq_ofNat_of_zero_le (show 0 ≤ who9 X Y n (X d) (Y d) by omega)
    have h3 := who9_at hk
    rw [hk, hV.2.2 k d h3.1 hd h3.2.1 h3.2.2]
theorem s_whoL {m : St} {n : Nat} {px py : Int} {X Y W : Nat → Int} (hX : m.1 38 = X) (hY : m.1 39 = Y) (hn : m.1 200 37 = n) (hV : FXs X Y W n) (hx : inR px) (hy : inR py) (K : St → Option (Int × St)) : ∀ (k d q : Nat), d + k = n → k < q →
    f_X12_whoAt_L2 K px py q d m = (if fmw (fun d => decide (X d = px) && decide (Y d = py)) k d = -1 then K m else some (fmw (fun d => decide (X d = px) && decide (Y d = py)) k d, m)) := by
  intro k
  induction k with
  | zero =>
    intro d q h1 h2
    obtain ⟨q, rfl⟩ : ∃ k, q = k + 1 := ⟨q - 1, by omega⟩
    have h64 := hV.1
    unfold f_X12_whoAt_L2 fmw
    simp only [lt1_k]
    rw [hn, cmpI_ok (by omega), if_neg (by omega), if_pos trivial]
  | succ k ih =>
    intro d q h1 h2
    obtain ⟨q, rfl⟩ : ∃ k, q = k + 1 := ⟨q - 1, by omega⟩
    have h64 := hV.1
    have hd := hV.2.1 d (by omega)
    unfold f_X12_whoAt_L2
    simp only [lt1_k, jn1_k]
    rw [hn, cmpI_ok (by omega), if_pos (by omega), ixI_ok (by omega), Int.toNat_natCast, hX, hY, cmpI_ok (by omega), ixI_ok (by omega), cmpI_ok (by omega)]
    have e : ((d : Int) + 1) = ((d + 1 : Nat) : Int) := by omega
    rw [e, ih (d + 1) q (by omega) (by omega)]
    by_cases hp : X d = px
    · by_cases hq : Y d = py
      · rw [fmw_t (by simp [hp, hq]), if_pos hp, if_pos hq, if_neg (by omega)]
      · rw [fmw_f (d := k) (by simp [hq]), if_pos hp, if_neg hq]
    · rw [fmw_f (d := k) (by simp [hp]), if_neg hp]
theorem s_whoAt {N : Nat} {m : St} {n : Nat} {px py : Int} {X Y W : Nat → Int} (hX : m.1 38 = X) (hY : m.1 39 = Y) (hn : m.1 200 37 = n) (hV : FXs X Y W n) (hx : inR px) (hy : inR py) (hN : 65 ≤ N) : f_X12_whoAt N px py m = some (who9 X Y n px py, m) := by
  unfold f_X12_whoAt who9
  have := hV.1
  rw [show (0 : Int) = ((0 : Nat) : Int) from rfl, s_whoL hX hY hn hV hx hy _ n 0 N (by omega) (by omega)]
  split
  · next h => rw [h]
  · rfl
/-- the hall's floor o shows places and facings -/
def FH (o : Nat) (t : St) (X Y W : Nat → Int) (n : Nat) : Prop :=
  t.1 (305 + o) 8 = n ∧ (∀ d, d < n → t.1 (390 + 10 * o) d = X d ∧ t.1 (391 + 10 * o) d = Y d ∧ t.1 (392 + 10 * o) d = W d) ∧
  (∀ px py : Nat, px < 64 → py < 64 → t.1 (397 + 10 * o) (64 * py + px) = who9 X Y n (4 * px) (4 * py) + 1)
theorem h_who {N o : Nat} {t : St} {n : Nat} {px py : Int} {X Y W : Nat → Int} (hF : FH o t X Y W n) (hV : FXs X Y W n) (hx : inR px) (hy : inR py) : f_X3_whoIsAt N o px py t = some (who9 X Y n px py, t) := by
  have hno : ¬ (ok4 px ∧ ok4 py) → who9 X Y n px py = -1 := by
    intro h
    apply who9_no
    intro d hd hh
    have := hV.2.1 d hd
    rw [hh.1, hh.2] at this
    exact h ⟨this.1, this.2.1⟩
  unfold f_X3_whoIsAt
  rw [cmpI_ok (by omega)]
  by_cases h1 : px < 0
  · rw [if_pos h1, hno (by omega)]
  rw [if_neg h1, cmpI_ok (by omega)]
  by_cases h2 : py < 0
  · rw [if_pos h2, hno (by omega)]
  rw [if_neg h2, cmpI_ok (by omega)]
  by_cases h3 : 252 < px
  · rw [if_pos h3, hno (by omega)]
  rw [if_neg h3, cmpI_ok (by omega)]
  by_cases h4 : 252 < py
  · rw [if_pos h4, hno (by omega)]
  rw [if_neg h4, cmpI_ok (by omega)]
  by_cases h5 : (iorZ px py) % 4 = 0
  · have h6 := (ior_4 (by omega) (by omega)).mp h5
    rw [if_pos h5, rnI_ok hx, ixI_ok (by omega), lt1_k]
    obtain ⟨a, ha⟩ : ∃ a : Nat, px = 4 * (a : Int) := ⟨(px / 4).toNat, by omega⟩
    obtain ⟨b, hb⟩ : ∃ b : Nat, py = 4 * (b : Int) := ⟨(py / 4).toNat, by omega⟩
    have e : ((py * 16) + (px / 4)).toNat = 64 * b + a := by omega
    rw [e, hF.2.2 a b (by omega) (by omega), ← ha, ← hb]
    simp
  · rw [if_neg h5, hno (fun q => h5 ((ior_4 (by omega) (by omega)).mpr ⟨q.1.2.2, q.2.2.2⟩))]
/-! the order -/
def lt9 (X Y : Nat → Int) (d : Nat) (v : Int) : Bool := decide (Y d < Y v.toNat) || (decide (Y d = Y v.toNat) && decide (X d < X v.toNat))
/-- d comes into its place among the first i of a row -/
def ins9 (L : Nat → Int → Bool) (d : Nat) : Nat → (Nat → Int) → Nat → Int
  | 0, A => fup A 0 d
  | i + 1, A => if L d (A i) = true then ins9 L d i (fup A (i + 1) (A i)) else fup A (i + 1) d
def srt9 (L : Nat → Int → Bool) (A : Nat → Int) : Nat → Nat → Int
  | 0 => A
  | d + 1 => ins9 L d d (srt9 L A d)
theorem ins9_hi {L : Nat → Int → Bool} {d : Nat} : ∀ (i : Nat) (A : Nat → Int) (j : Nat), i < j → ins9 L d i A j = A j := by
  intro i
  induction i with
  | zero => intro A j h; unfold ins9; exact fup_ne (by omega)
  | succ i ih =>
    intro A j h
    unfold ins9
    split
    · rw [ih _ j (by omega), fup_ne (by omega)]
    · exact fup_ne (by omega)
theorem ins9_val {L : Nat → Int → Bool} {d : Nat} : ∀ (i : Nat) (A : Nat → Int) (j : Nat), j ≤ i → ins9 L d i A j = d ∨ ∃ k, k < i ∧ ins9 L d i A j = A k := by
  intro i
  induction i with
  | zero => intro A j h; left; unfold ins9; rw [show j = 0 by omega]; exact fup_at
  | succ i ih =>
    intro A j h
    unfold ins9
    split
    · by_cases hj : j ≤ i
      · rcases ih (fup A (i + 1) (A i)) j hj with h1 | ⟨k, h1, h2⟩
        · exact Or.inl h1
        · right; exact ⟨k, by omega, by rw [h2, fup_ne (by omega)]⟩
      · right
        refine ⟨i, by omega, ?_⟩
        rw [ins9_hi _ _ _ (by omega), show j = i + 1 by omega, fup_at]
    · by_cases hj : j = i + 1
      · left; rw [hj, fup_at]
      · right; exact ⟨j, by omega, fup_ne hj⟩
theorem ins9_has {L : Nat → Int → Bool} {d : Nat} : ∀ (i : Nat) (A : Nat → Int), (∃ j, j ≤ i ∧ ins9 L d i A j = d) ∧ ∀ k, k < i → ∃ j, j ≤ i ∧ ins9 L d i A j = A k := by
  intro i
  induction i with
  | zero => intro A; exact ⟨⟨0, Nat.le_refl _, by unfold ins9; exact fup_at⟩, fun k h => by omega⟩
  | succ i ih =>
    intro A
    obtain ⟨⟨j, h1, h2⟩, h3⟩ := ih (fup A (i + 1) (A i))
    unfold ins9
    split
    · refine ⟨⟨j, by omega, h2⟩, fun k hk => ?_⟩
      by_cases hki : k = i
      · refine ⟨i + 1, Nat.le_refl _, ?_⟩
        rw [ins9_hi _ _ _ (by omega), fup_at, hki]
      · obtain ⟨j2, h4, h5⟩ := h3 k (by omega)
        exact ⟨j2, by omega, by rw [h5, fup_ne (by omega)]⟩
    · refine ⟨⟨i + 1, Nat.le_refl _, fup_at⟩, fun k hk => ⟨k, by omega, fup_ne (by omega)⟩⟩
theorem ins9_cong {L : Nat → Int → Bool} {d : Nat} : ∀ (i : Nat) (A B : Nat → Int), (∀ j, j < i → A j = B j) → ∀ j, j ≤ i → ins9 L d i A j = ins9 L d i B j := by
  intro i
  induction i with
  | zero => intro A B h j hj; unfold ins9; rw [show j = 0 by omega, fup_at, fup_at]
  | succ i ih =>
    intro A B h j hj
    unfold ins9
    rw [h i (by omega)]
    split
    · by_cases hji : j ≤ i
      · exact ih _ _ (fun k hk => by rw [fup_ne (by omega), fup_ne (by omega)]; exact h k (by omega)) j hji
      · rw [ins9_hi _ _ _ (by omega), ins9_hi _ _ _ (by omega), show j = i + 1 by omega, fup_at, fup_at]
    · by_cases hji : j = i + 1
      · rw [hji, fup_at, fup_at]
      · rw [fup_ne hji, fup_ne hji]; exact h j (by omega)
theorem srt9_cong {L : Nat → Int → Bool} {A B : Nat → Int} : ∀ (d j : Nat), j < d → srt9 L A d j = srt9 L B d j := by
  intro d
  induction d with
  | zero => intro j h; omega
  | succ d ih =>
    intro j h
    unfold srt9
    exact ins9_cong d _ _ (fun k hk => ih k hk) j (by omega)
theorem srt9_val {L : Nat → Int → Bool} {A : Nat → Int} : ∀ (d j : Nat), j < d → ∃ e : Nat, e < d ∧ srt9 L A d j = e := by
  intro d
  induction d with
  | zero => intro j h; omega
  | succ d ih =>
    intro j h
    unfold srt9
    rcases ins9_val (L := L) (d := d) d (srt9 L A d) j (by omega) with h1 | ⟨k, h1, h2⟩
    · exact ⟨d, by omega, h1⟩
    · obtain ⟨e, h3, h4⟩ := ih k h1
      exact ⟨e, by omega, by rw [h2, h4]⟩
theorem srt9_has {L : Nat → Int → Bool} {A : Nat → Int} : ∀ (d e : Nat), e < d → ∃ j, j < d ∧ srt9 L A d j = e := by
  intro d
  induction d with
  | zero => intro j h; omega
  | succ d ih =>
    intro e h
    unfold srt9
    obtain ⟨⟨j, h1, h2⟩, h3⟩ := ins9_has (L := L) (d := d) d (srt9 L A d)
    by_cases he : e = d
    · exact ⟨j, by omega, by rw [h2, he]⟩
    · obtain ⟨k, h4, h5⟩ := ih e (by omega)
      obtain ⟨j2, h6, h7⟩ := h3 k h4
      exact ⟨j2, by omega, by rw [h7, h5]⟩
def ord9 (X Y : Nat → Int) (n : Nat) : Nat → Int := srt9 (lt9 X Y) (fun _ => 0) n
theorem ord9_val {X Y : Nat → Int} {n j : Nat} (h : j < n) : ∃ e : Nat, e < n ∧ ord9 X Y n j = e := srt9_val n j h
theorem ord9_has {X Y : Nat → Int} {n e : Nat} (h : e < n) : ∃ j, j < n ∧ ord9 X Y n j = e := srt9_has n e h
/-- the model's order -/
theorem s_before {N : Nat} {m : St} {d e : Nat} {n : Nat} {X Y W : Nat → Int} (hX : m.1 38 = X) (hY : m.1 39 = Y) (hV : FXs X Y W n) (hd : d < n) (he : e < n) : f_X12_isBefore N d e m = some ((if lt9 X Y d (e : Int) = true then 1 else 0), m) := by
  have h64 := hV.1
  have h1 := hV.2.1 d hd
  have h2 := hV.2.1 e he
  unfold f_X12_isBefore lt9
  simp only [lt1_k, Int.toNat_natCast, hX, hY]
  rw [ixI_ok (by omega), ixI_ok (by omega), cmpI_ok (by omega), ixI_ok (by omega), ixI_ok (by omega), cmpI_ok (by omega), ixI_ok (by omega), ixI_ok (by omega), cmpI_ok (by omega), boI_0, boI_1]
  by_cases h3 : Y d = Y e
  · rw [if_pos h3]
    by_cases h4 : X d < X e
    · rw [if_pos h4, if_pos (by simp [h3, h4])]
    · rw [if_neg h4, if_neg (by simp [h3, h4])]
  · rw [if_neg h3]
    by_cases h4 : Y d < Y e
    · rw [if_pos h4, if_pos (by simp [h4])]
    · rw [if_neg h4, if_neg (by simp [h3, h4])]
theorem s_insL {N : Nat} {m : St} {d n : Nat} {X Y W : Nat → Int} (hX : m.1 38 = X) (hY : m.1 39 = Y) (hV : FXs X Y W n) (hd : d < n) (K : Int → St → Option St) (K2 : St → Option St)
    (hK : ∀ (k : Nat) (t : St), k ≤ d → K k t = K2 (pI t 80 k d)) : ∀ (i q : Nat) (A : Nat → Int), i ≤ d → i < q → (∀ j, j < i → ∃ e : Nat, e < n ∧ A j = e) →
    f_X12_sort_L12 N K d q i (pA m 80 A) = K2 (pA m 80 (ins9 (lt9 X Y) d i A)) := by
  have h64 := hV.1
  intro i
  induction i with
  | zero =>
    intro q A h1 h2 h3
    obtain ⟨q, rfl⟩ : ∃ k, q = k + 1 := ⟨q - 1, by omega⟩
    unfold f_X12_sort_L12 ins9
    rw [cmpI_ok (by omega), if_neg (by omega), hK 0 _ (by omega), pA_I]
  | succ i ih =>
    intro q A h1 h2 h3
    obtain ⟨q, rfl⟩ : ∃ k, q = k + 1 := ⟨q - 1, by omega⟩
    obtain ⟨e, h4, h5⟩ := h3 i (by omega)
    unfold f_X12_sort_L12 ins9
    have e1 : (((i + 1 : Nat) : Int) - 1) = (i : Int) := by omega
    have e2 : (((i + 1 : Nat) : Int) + (-1)) = (i : Int) := by omega
    simp only [lt1_k, e1, e2, Int.toNat_natCast, pA_at]
    rw [cmpI_ok (by omega), if_pos (by omega), ixI_ok (by omega), h5, s_before (by rw [pA_ne (by decide)]; exact hX) (by rw [pA_ne (by decide)]; exact hY) hV hd h4, bdI_s, cmpI_ok (by split <;> omega)]
    by_cases h6 : lt9 X Y d (e : Int) = true
    · rw [if_pos h6, if_pos h6, if_neg (by decide), ixI_ok (by omega), pA_at, h5, ixI_ok (by omega), pA_I]
      refine ih q _ (by omega) (by omega) (fun j hj => ?_)
      rw [fup_ne (by omega)]
      exact h3 j (by omega)
    · rw [if_neg h6, if_neg h6, if_pos rfl, hK (i + 1) _ h1, pA_I]
theorem s_sortL {N : Nat} {m : St} {n : Nat} {X Y W : Nat → Int} (hX : m.1 38 = X) (hY : m.1 39 = Y) (hn : m.1 200 37 = n) (hV : FXs X Y W n) (hN : 65 ≤ N) (A : Nat → Int) (K : St → Option St) : ∀ (k d q : Nat), d + k = n → k < q →
    f_X12_sort_L2 N K q d (pA m 80 (srt9 (lt9 X Y) A d)) = K (pA m 80 (srt9 (lt9 X Y) A n)) := by
  have h64 := hV.1
  intro k
  induction k with
  | zero =>
    intro d q h1 h2
    obtain ⟨q, rfl⟩ : ∃ k, q = k + 1 := ⟨q - 1, by omega⟩
    unfold f_X12_sort_L2
    have hd : d = n := by omega
    subst hd
    rw [lt1_k, pA_ne (by decide), hn, cmpI_ok (by omega), if_neg (by omega)]
  | succ k ih =>
    intro d q h1 h2
    obtain ⟨q, rfl⟩ : ∃ k, q = k + 1 := ⟨q - 1, by omega⟩
    unfold f_X12_sort_L2
    rw [lt1_k, pA_ne (by decide), hn, cmpI_ok (by omega), if_pos (by omega)]
    have e : ((d : Int) + 1) = ((d + 1 : Nat) : Int) := by omega
    rw [s_insL (K2 := fun t => f_X12_sort_L2 N K q ((d + 1 : Nat) : Int) t) hX hY hV (by omega) _ ?_ d N _ (Nat.le_refl _) (by omega) (fun j hj => ?_)]
    · exact ih (d + 1) q (by omega) (by omega)
    · intro k t hk
      simp only [lt1_k, e, Int.toNat_natCast]
      rw [ixI_ok (by omega)]
    · obtain ⟨e, h3, h4⟩ := srt9_val (L := lt9 X Y) (A := A) d j hj
      exact ⟨e, by omega, h4⟩
theorem s_sort {N : Nat} {m : St} {n : Nat} {X Y W : Nat → Int} (hX : m.1 38 = X) (hY : m.1 39 = Y) (hn : m.1 200 37 = n) (hV : FXs X Y W n) (hN : 65 ≤ N) : ∃ A : Nat → Int, f_X12_sort N m = some (pA m 80 A) ∧ ∀ i, i < n → A i = ord9 X Y n i := by
  refine ⟨srt9 (lt9 X Y) (m.1 80) n, ?_, fun i hi => srt9_cong n i hi⟩
  have := hV.1
  unfold f_X12_sort
  have := s_sortL (N := N) hX hY hn hV hN (m.1 80) (fun t17 => some t17) n 0 N (by omega) (by omega)
  rw [show srt9 (lt9 X Y) (m.1 80) 0 = m.1 80 from rfl, pA_self] at this
  exact this
