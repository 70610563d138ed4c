/-! squaring a floor: both sides -/
/-- whether lo + i is among the first d -/
def prB (R : Nat → Int) (lo : Int) : Nat → Nat → Bool
  | 0, _ => false
  | d + 1, i => prB R lo d i || decide (R d = lo + (i : Int))
theorem prB_s {R : Nat → Int} {lo : Int} {d i : Nat} : prB R lo (d + 1) i = (prB R lo d i || decide (R d = lo + (i : Int))) := rfl
theorem prB_iff {R : Nat → Int} {lo : Int} {i : Nat} : ∀ d, prB R lo d i = true ↔ ∃ e, e < d ∧ R e = lo + (i : Int) := by
  intro d
  induction d with
  | zero => constructor
            · intro h; cases h
            · intro ⟨e, h, _⟩; omega
  | succ d ih =>
    rw [prB_s, Bool.or_eq_true, ih, decide_eq_true_iff]
    constructor
    · intro h
      rcases h with ⟨e, h1, h2⟩ | h
      · exact ⟨e, by omega, h2⟩
      · exact ⟨d, by omega, h⟩
    · intro ⟨e, h1, h2⟩
      by_cases he : e = d
      · right; rw [← he]; exact h2
      · left; exact ⟨e, by omega, h2⟩
/-- how many values below v are among the first d -/
def rk9 (R : Nat → Int) (v : Int) : Nat → Nat
  | 0 => 0
  | d + 1 => rk9 R v d + (if R d < v ∧ prB R (R d) d 0 = false then 1 else 0)
theorem rk9_s {R : Nat → Int} {v : Int} {d : Nat} : rk9 R v (d + 1) = rk9 R v d + (if R d < v ∧ prB R (R d) d 0 = false then 1 else 0) := rfl
def cntP (P : Nat → Bool) : Nat → Nat
  | 0 => 0
  | i + 1 => cntP P i + (if P i = true then 1 else 0)
theorem cntP_s {P : Nat → Bool} {i : Nat} : cntP P (i + 1) = cntP P i + (if P i = true then 1 else 0) := rfl
theorem cntP_same {P Q : Nat → Bool} (h : ∀ i, Q i = P i) : ∀ w, cntP Q w = cntP P w := by
  intro w
  induction w with
  | zero => rfl
  | succ w ih => rw [cntP_s, cntP_s, ih, h w]
theorem cntP_new {P Q : Nat → Bool} {i0 : Nat} (h : ∀ i, Q i = (P i || decide (i = i0))) (h0 : P i0 = false) : ∀ w, cntP Q w = cntP P w + (if i0 < w then 1 else 0) := by
  intro w
  induction w with
  | zero => rw [if_neg (by omega)]; rfl
  | succ w ih =>
    rw [cntP_s, cntP_s, ih, h w]
    by_cases hw : w = i0
    · subst hw
      rw [h0]; simp
    · rw [decide_eq_false hw, Bool.or_false]
      have : (if i0 < w + 1 then 1 else 0) = (if i0 < w then 1 else 0) := by
        by_cases h1 : i0 < w
        · rw [if_pos h1, if_pos (by omega)]
        · rw [if_neg h1, if_neg (by omega)]
      rw [this]; omega
theorem rk_cnt {R : Nat → Int} {lo : Int} {w : Nat} : ∀ n, (∀ d, d < n → lo ≤ R d) → cntP (prB R lo n) w = rk9 R (lo + (w : Int)) n := by
  intro n
  induction n with
  | zero =>
    intro _
    have : ∀ w, cntP (prB R lo 0) w = 0 := by
      intro w
      induction w with
      | zero => rfl
      | succ w ih => rw [cntP_s, ih]; rfl
    rw [this]; rfl
  | succ n ih =>
    intro h
    have ih := ih (fun d hd => h d (by omega))
    have hn := h n (by omega)
    rw [rk9_s, ← ih]
    cases hp : prB R (R n) n 0 with
    | true =>
      rw [if_neg (by simp)]
      obtain ⟨e, h1, h2⟩ := (prB_iff n).mp hp
      rw [cntP_same (P := prB R lo n) (fun i => ?_)]
      · rfl
      · rw [prB_s]
        by_cases hi : R n = lo + (i : Int)
        · rw [(prB_iff n).mpr ⟨e, h1, by omega⟩]; simp
        · rw [decide_eq_false hi, Bool.or_false]
    | false =>
      have h0 : prB R lo n (R n - lo).toNat = false := by
        cases h9 : prB R lo n (R n - lo).toNat with
        | false => rfl
        | true =>
          obtain ⟨e, h1, h2⟩ := (prB_iff n).mp h9
          have : prB R (R n) n 0 = true := (prB_iff n).mpr ⟨e, h1, by omega⟩
          rw [hp] at this; cases this
      rw [cntP_new (P := prB R lo n) (i0 := (R n - lo).toNat) (fun i => ?_) h0]
      · by_cases hv : R n < lo + (w : Int)
        · rw [if_pos (by omega), if_pos ⟨hv, rfl⟩]
        · rw [if_neg (by omega), if_neg (fun q => hv q.1)]
      · rw [prB_s]
        congr 1
        by_cases hi : R n = lo + (i : Int)
        · rw [decide_eq_true hi, decide_eq_true (by omega)]
        · rw [decide_eq_false hi, decide_eq_false (by omega)]
theorem rk_le {R : Nat → Int} {v : Int} : ∀ n, rk9 R v n ≤ n ∧ ((∃ d, d < n ∧ v ≤ R d) → rk9 R v n + 1 ≤ n) := by
  intro n
  induction n with
  | zero => exact ⟨Nat.le_refl _, fun ⟨d, h, _⟩ => by omega⟩
  | succ n ih =>
    rw [rk9_s]
    refine ⟨by split <;> omega, fun ⟨d, h1, h2⟩ => ?_⟩
    by_cases hd : d = n
    · subst hd
      rw [if_neg (by omega)]; omega
    · have := ih.2 ⟨d, by omega, h2⟩
      split <;> omega
theorem rk_mono {R : Nat → Int} {v v2 : Int} (h : v ≤ v2) : ∀ n, rk9 R v n ≤ rk9 R v2 n ∧ ((∃ d, d < n ∧ v ≤ R d ∧ R d < v2) → rk9 R v n < rk9 R v2 n) := by
  intro n
  induction n with
  | zero => exact ⟨Nat.le_refl _, fun ⟨d, h, _⟩ => by omega⟩
  | succ n ih =>
    rw [rk9_s, rk9_s]
    have hi : (if R n < v ∧ prB R (R n) n 0 = false then 1 else 0) ≤ (if R n < v2 ∧ prB R (R n) n 0 = false then 1 else 0) := by
      by_cases h1 : R n < v ∧ prB R (R n) n 0 = false
      · rw [if_pos h1, if_pos ⟨by omega, h1.2⟩]; exact Nat.le_refl _
      · rw [if_neg h1]; exact Nat.zero_le _
    refine ⟨by omega, fun ⟨d, h1, h2, h3⟩ => ?_⟩
    by_cases hd : d = n
    · subst hd
      cases hp : prB R (R d) d 0 with
      | true =>
        obtain ⟨e, h4, h5⟩ := (prB_iff d).mp hp
        have := ih.2 ⟨e, h4, by omega, by omega⟩
        rw [hp] at hi
        omega
      | false =>
        rw [if_neg (by omega), if_pos ⟨h3, rfl⟩]
        omega
    · have := ih.2 ⟨d, by omega, h2, h3⟩
      omega
theorem rk_inj {R : Nat → Int} {n d e : Nat} (hd : d < n) (he : e < n) (h : rk9 R (R d) n = rk9 R (R e) n) : R d = R e := by
  rcases Int.lt_trichotomy (R d) (R e) with h1 | h1 | h1
  · have := (rk_mono (R := R) (v := R d) (v2 := R e) (by omega) n).2 ⟨d, hd, by omega, h1⟩
    omega
  · exact h1
  · have := (rk_mono (R := R) (v := R e) (v2 := R d) (by omega) n).2 ⟨e, he, by omega, h1⟩
    omega
/-- from the front -/
def nf9 (R : Nat → Int) (v : Int) : Nat → Nat → Bool
  | 0, _ => true
  | i + 1, e => !decide (R e = v) && nf9 R v i (e + 1)
theorem nf9_iff {R : Nat → Int} {v : Int} : ∀ i e, nf9 R v i e = true ↔ ∀ x, e ≤ x → x < e + i → R x ≠ v := by
  intro i
  induction i with
  | zero => intro e; constructor
            · intro _ x h1 h2; omega
            · intro _; rfl
  | succ i ih =>
    intro e
    show (!decide (R e = v) && nf9 R v i (e + 1)) = true ↔ _
    rw [Bool.and_eq_true, ih (e + 1)]
    constructor
    · intro ⟨h1, h2⟩ x h3 h4
      by_cases hx : x = e
      · rw [hx]; intro h5; rw [decide_eq_true h5] at h1; cases h1
      · exact h2 x (by omega) (by omega)
    · intro h
      exact ⟨by rw [decide_eq_false (h e (by omega) (by omega))]; rfl, fun x h3 h4 => h x (by omega) (by omega)⟩
theorem nf9_pr {R : Nat → Int} {d : Nat} : nf9 R (R d) d 0 = !prB R (R d) d 0 := by
  apply Bool.eq_iff_iff.mpr
  rw [nf9_iff]
  constructor
  · intro h
    cases hp : prB R (R d) d 0 with
    | false => rfl
    | true =>
      obtain ⟨e, h1, h2⟩ := (prB_iff d).mp hp
      exact absurd (by omega : R e = R d) (h e (by omega) (by omega))
  · intro h x h1 h2 h3
    rw [(prB_iff d).mpr ⟨x, by omega, by omega⟩] at h
    cases h
theorem s_firstR76 {m : St} {d : Nat} (hd : d < 64) (hR : ∀ e, e ≤ d → inR (m.1 76 e)) (K : Int → St → Option (Int × St)) : ∀ (i e q : Nat), e + i = d → i < q → f_X12_rank_76_L32 K d q 1 e m = K (if nf9 (m.1 76) (m.1 76 d) i e = true then 1 else 0) m := by
  intro i
  induction i with
  | zero =>
    intro e q h1 h2
    obtain ⟨q, rfl⟩ : ∃ k, q = k + 1 := ⟨q - 1, by omega⟩
    unfold f_X12_rank_76_L32
    rw [cmpI_ok (by omega), if_neg (by omega)]
    rfl
  | succ i ih =>
    intro e q h1 h2
    obtain ⟨q, rfl⟩ : ∃ k, q = k + 1 := ⟨q - 1, by omega⟩
    have r1 := hR e (by omega)
    have r2 := hR d (by omega)
    unfold f_X12_rank_76_L32
    simp only [lt1_k, jn1_k, Int.toNat_natCast]
    rw [cmpI_ok (by omega), if_pos (by omega), cmpI_ok (by omega), if_neg (by decide), ixI_ok (by omega), ixI_ok (by omega), cmpI_ok ⟨r1, r2⟩, show ((e : Int) + 1) = ((e + 1 : Nat) : Int) by omega]
    have hs : nf9 (m.1 76) (m.1 76 d) (i + 1) e = (!decide (m.1 76 e = m.1 76 d) && nf9 (m.1 76) (m.1 76 d) i (e + 1)) := rfl
    by_cases h9 : m.1 76 e = m.1 76 d
    · rw [if_pos h9, hs, decide_eq_true h9]
      obtain ⟨q, rfl⟩ : ∃ k, q = k + 1 := ⟨q - 1, by omega⟩
      unfold f_X12_rank_76_L32
      rw [cmpI_ok (by omega), cmpI_ok (by omega), if_pos (show (0 : Int) = 0 from rfl)]
      split <;> rfl
    · rw [if_neg h9, hs, decide_eq_false h9, Bool.not_false, Bool.true_and]
      exact ih (e + 1) q (by omega) (by omega)
theorem s_first076 {N : Nat} {m : St} {d : Nat} (hd : d < 64) (hR : ∀ e, e ≤ d → inR (m.1 76 e)) (hN : 70 ≤ N) (K : Int → St → Option (Int × St)) : f_X12_rank_76_L32 K d N 1 0 m = K (if nf9 (m.1 76) (m.1 76 d) d 0 = true then 1 else 0) m := s_firstR76 hd hR K d 0 N (by omega) (by omega)
theorem s_rankL76 {N n : Nat} {m : St} {v : Int} (hn : m.1 200 37 = n) (h64 : n ≤ 64) (hR : ∀ e, e < n → inR (m.1 76 e)) (hv : inR v) (hN : 70 ≤ N) (K : Int → St → Option (Int × St)) : ∀ (i d q : Nat), d + i = n → i < q → f_X12_rank_76_L5 N K v q (rk9 (m.1 76) v d : Nat) d m = K (rk9 (m.1 76) v n : Nat) m := by
  intro i
  induction i with
  | zero =>
    intro d q h1 h2
    obtain ⟨q, rfl⟩ : ∃ k, q = k + 1 := ⟨q - 1, by omega⟩
    have : d = n := by omega
    subst this
    unfold f_X12_rank_76_L5
    rw [lt1_k, hn, cmpI_ok (by omega), if_neg (by omega)]
  | succ i ih =>
    intro d q h1 h2
    obtain ⟨q, rfl⟩ : ∃ k, q = k + 1 := ⟨q - 1, by omega⟩
    have r1 := hR d (by omega)
    have ih2 := ih (d + 1) q (by omega) (by omega)
    rw [rk9_s] at ih2
    have hfin : ∀ j : Int, (j = if (m.1 76 d < v ∧ prB (m.1 76) (m.1 76 d) d 0 = false) then 1 else 0) → f_X12_rank_76_L5 N K v q (((rk9 (m.1 76) v d : Nat) : Int) + j) ((d + 1 : Nat) : Int) m = K (rk9 (m.1 76) v n : Nat) m := by
      intro j hj
      rw [hj]
      by_cases hc : m.1 76 d < v ∧ prB (m.1 76) (m.1 76 d) d 0 = false
      · rw [if_pos hc] at ih2 ⊢
        rw [show ((rk9 (m.1 76) v d : Nat) : Int) + 1 = ((rk9 (m.1 76) v d + 1 : Nat) : Int) by omega]
        exact ih2
      · rw [if_neg hc] at ih2 ⊢
        rw [show ((rk9 (m.1 76) v d : Nat) : Int) + 0 = ((rk9 (m.1 76) v d + 0 : Nat) : Int) by omega]
        exact ih2
    unfold f_X12_rank_76_L5
    simp only [lt1_k, jn1_k, Int.toNat_natCast]
    rw [hn, cmpI_ok (by omega), if_pos (by omega), ixI_ok (by omega), cmpI_ok ⟨r1, hv⟩, show ((d : Int) + 1) = ((d + 1 : Nat) : Int) by omega]
    by_cases hlt : m.1 76 d < v
    · rw [if_pos hlt, s_first076 (by omega) (fun e he => hR e (by omega)) hN, nf9_pr]
      cases hp : prB (m.1 76) (m.1 76 d) d 0 with
      | true => rw [Bool.not_true, if_neg (by decide : ¬ (false = true)), cmpI_ok (by omega), if_pos rfl]; exact hfin 0 (by rw [if_neg (by rw [hp]; simp)])
      | false => rw [Bool.not_false, if_pos rfl, cmpI_ok (by omega), if_neg (by decide)]; exact hfin 1 (by rw [if_pos ⟨hlt, hp⟩])
    · rw [if_neg hlt]
      obtain ⟨N, rfl⟩ : ∃ k, N = k + 1 := ⟨N - 1, by omega⟩
      have hz : ∀ K9 : Int → St → Option (Int × St), f_X12_rank_76_L32 K9 d (N + 1) 0 0 m = K9 0 m := by
        intro K9
        unfold f_X12_rank_76_L32
        rw [cmpI_ok (by omega), cmpI_ok (by omega), if_pos (show (0 : Int) = 0 from rfl)]
        split <;> rfl
      rw [hz, cmpI_ok (by omega), if_pos rfl]
      exact hfin 0 (by rw [if_neg (fun q => hlt q.1)])
theorem s_rank76 {N n : Nat} {m : St} {v : Int} (hn : m.1 200 37 = n) (h64 : n ≤ 64) (hR : ∀ e, e < n → inR (m.1 76 e)) (hv : inR v) (hN : 70 ≤ N) : f_X12_rank_76 N v m = some (((rk9 (m.1 76) v n : Nat) : Int), m) := by
  unfold f_X12_rank_76
  exact s_rankL76 hn h64 hR hv hN (fun (k28 : Int) (t29 : St) => some (k28, t29)) n 0 N (by omega) (by omega)
theorem s_firstR77 {m : St} {d : Nat} (hd : d < 64) (hR : ∀ e, e ≤ d → inR (m.1 77 e)) (K : Int → St → Option (Int × St)) : ∀ (i e q : Nat), e + i = d → i < q → f_X12_rank_77_L32 K d q 1 e m = K (if nf9 (m.1 77) (m.1 77 d) i e = true then 1 else 0) m := by
  intro i
  induction i with
  | zero =>
    intro e q h1 h2
    obtain ⟨q, rfl⟩ : ∃ k, q = k + 1 := ⟨q - 1, by omega⟩
    unfold f_X12_rank_77_L32
    rw [cmpI_ok (by omega), if_neg (by omega)]
    rfl
  | succ i ih =>
    intro e q h1 h2
    obtain ⟨q, rfl⟩ : ∃ k, q = k + 1 := ⟨q - 1, by omega⟩
    have r1 := hR e (by omega)
    have r2 := hR d (by omega)
    unfold f_X12_rank_77_L32
    simp only [lt1_k, jn1_k, Int.toNat_natCast]
    rw [cmpI_ok (by omega), if_pos (by omega), cmpI_ok (by omega), if_neg (by decide), ixI_ok (by omega), ixI_ok (by omega), cmpI_ok ⟨r1, r2⟩, show ((e : Int) + 1) = ((e + 1 : Nat) : Int) by omega]
    have hs : nf9 (m.1 77) (m.1 77 d) (i + 1) e = (!decide (m.1 77 e = m.1 77 d) && nf9 (m.1 77) (m.1 77 d) i (e + 1)) := rfl
    by_cases h9 : m.1 77 e = m.1 77 d
    · rw [if_pos h9, hs, decide_eq_true h9]
      obtain ⟨q, rfl⟩ : ∃ k, q = k + 1 := ⟨q - 1, by omega⟩
      unfold f_X12_rank_77_L32
      rw [cmpI_ok (by omega), cmpI_ok (by omega), if_pos (show (0 : Int) = 0 from rfl)]
      split <;> rfl
    · rw [if_neg h9, hs, decide_eq_false h9, Bool.not_false, Bool.true_and]
      exact ih (e + 1) q (by omega) (by omega)
theorem s_first077 {N : Nat} {m : St} {d : Nat} (hd : d < 64) (hR : ∀ e, e ≤ d → inR (m.1 77 e)) (hN : 70 ≤ N) (K : Int → St → Option (Int × St)) : f_X12_rank_77_L32 K d N 1 0 m = K (if nf9 (m.1 77) (m.1 77 d) d 0 = true then 1 else 0) m := s_firstR77 hd hR K d 0 N (by omega) (by omega)
theorem s_rankL77 {N n : Nat} {m : St} {v : Int} (hn : m.1 200 37 = n) (h64 : n ≤ 64) (hR : ∀ e, e < n → inR (m.1 77 e)) (hv : inR v) (hN : 70 ≤ N) (K : Int → St → Option (Int × St)) : ∀ (i d q : Nat), d + i = n → i < q → f_X12_rank_77_L5 N K v q (rk9 (m.1 77) v d : Nat) d m = K (rk9 (m.1 77) v n : Nat) m := by
  intro i
  induction i with
  | zero =>
    intro d q h1 h2
    obtain ⟨q, rfl⟩ : ∃ k, q = k + 1 := ⟨q - 1, by omega⟩
    have : d = n := by omega
    subst this
    unfold f_X12_rank_77_L5
    rw [lt1_k, hn, cmpI_ok (by omega), if_neg (by omega)]
  | succ i ih =>
    intro d q h1 h2
    obtain ⟨q, rfl⟩ : ∃ k, q = k + 1 := ⟨q - 1, by omega⟩
    have r1 := hR d (by omega)
    have ih2 := ih (d + 1) q (by omega) (by omega)
    rw [rk9_s] at ih2
    have hfin : ∀ j : Int, (j = if (m.1 77 d < v ∧ prB (m.1 77) (m.1 77 d) d 0 = false) then 1 else 0) → f_X12_rank_77_L5 N K v q (((rk9 (m.1 77) v d : Nat) : Int) + j) ((d + 1 : Nat) : Int) m = K (rk9 (m.1 77) v n : Nat) m := by
      intro j hj
      rw [hj]
      by_cases hc : m.1 77 d < v ∧ prB (m.1 77) (m.1 77 d) d 0 = false
      · rw [if_pos hc] at ih2 ⊢
        rw [show ((rk9 (m.1 77) v d : Nat) : Int) + 1 = ((rk9 (m.1 77) v d + 1 : Nat) : Int) by omega]
        exact ih2
      · rw [if_neg hc] at ih2 ⊢
        rw [show ((rk9 (m.1 77) v d : Nat) : Int) + 0 = ((rk9 (m.1 77) v d + 0 : Nat) : Int) by omega]
        exact ih2
    unfold f_X12_rank_77_L5
    simp only [lt1_k, jn1_k, Int.toNat_natCast]
    rw [hn, cmpI_ok (by omega), if_pos (by omega), ixI_ok (by omega), cmpI_ok ⟨r1, hv⟩, show ((d : Int) + 1) = ((d + 1 : Nat) : Int) by omega]
    by_cases hlt : m.1 77 d < v
    · rw [if_pos hlt, s_first077 (by omega) (fun e he => hR e (by omega)) hN, nf9_pr]
      cases hp : prB (m.1 77) (m.1 77 d) d 0 with
      | true => rw [Bool.not_true, if_neg (by decide : ¬ (false = true)), cmpI_ok (by omega), if_pos rfl]; exact hfin 0 (by rw [if_neg (by rw [hp]; simp)])
      | false => rw [Bool.not_false, if_pos rfl, cmpI_ok (by omega), if_neg (by decide)]; exact hfin 1 (by rw [if_pos ⟨hlt, hp⟩])
    · rw [if_neg hlt]
      obtain ⟨N, rfl⟩ : ∃ k, N = k + 1 := ⟨N - 1, by omega⟩
      have hz : ∀ K9 : Int → St → Option (Int × St), f_X12_rank_77_L32 K9 d (N + 1) 0 0 m = K9 0 m := by
        intro K9
        unfold f_X12_rank_77_L32
        rw [cmpI_ok (by omega), cmpI_ok (by omega), if_pos (show (0 : Int) = 0 from rfl)]
        split <;> rfl
      rw [hz, cmpI_ok (by omega), if_pos rfl]
      exact hfin 0 (by rw [if_neg (fun q => hlt q.1)])
theorem s_rank77 {N n : Nat} {m : St} {v : Int} (hn : m.1 200 37 = n) (h64 : n ≤ 64) (hR : ∀ e, e < n → inR (m.1 77 e)) (hv : inR v) (hN : 70 ≤ N) : f_X12_rank_77 N v m = some (((rk9 (m.1 77) v n : Nat) : Int), m) := by
  unfold f_X12_rank_77
  exact s_rankL77 hn h64 hR hv hN (fun (k28 : Int) (t29 : St) => some (k28, t29)) n 0 N (by omega) (by omega)
