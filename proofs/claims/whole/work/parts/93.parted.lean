/-! partitions -/
theorem cnb_lt {a b : Int64} : ∀ n : Nat, (∀ d, d < n → bq a d = true → bq b d = true) → cnb a n ≤ cnb b n ∧ ((∃ d, d < n ∧ bq b d = true ∧ bq a d = false) → cnb a n < cnb b n) := by
  intro n
  induction n with
  | zero => intro _; exact ⟨Nat.le_refl _, fun ⟨d, h, _⟩ => by omega⟩
  | succ n ih =>
    intro h
    have ih := ih (fun d hd => h d (by omega))
    unfold cnb
    cases ha : bq a n with
    | true =>
      have hb := h n (by omega) ha
      rw [hb]
      refine ⟨by simp; exact ih.1, fun ⟨d, h1, h2, h3⟩ => ?_⟩
      have : d ≠ n := fun h4 => by rw [h4, ha] at h3; cases h3
      have := ih.2 ⟨d, by omega, h2, h3⟩
      simp; exact this
    | false =>
      simp only [if_neg (by decide : ¬ (false = true))]
      refine ⟨by split <;> omega, fun ⟨d, h1, h2, h3⟩ => ?_⟩
      by_cases hd : d = n
      · rw [hd] at h2; rw [if_pos h2]; omega
      · have := ih.2 ⟨d, by omega, h2, h3⟩
        split <;> omega
theorem cnb_pos {a : Int64} (h : a ≠ 0) : 1 ≤ cnb a 64 := by
  obtain ⟨d, h1, h2⟩ := bq_nz h
  have := (cnb_lt (a := 0) (b := a) 64 (fun d _ h => by rw [bq_0] at h; cases h)).2 ⟨d, h1, h2, bq_0⟩
  omega
/-- the first of some in order -/
def fo9 (m : St) (n : Nat) (s : Int64) : Int := fmw (fun i => bq s (odM m n i)) n 0
theorem fo9_some {m : St} {n : Nat} {s : Int64} (h0 : s ≠ 0) (hs : ∀ e, e < 64 → bq s e = true → e < n) : ∃ i : Nat, fo9 m n s = i ∧ i < n ∧ bq s (odM m n i) = true ∧ ∀ j, j < i → bq s (odM m n j) = false := by
  obtain ⟨d, h1, h2⟩ := bq_nz h0
  obtain ⟨i, h3, h4⟩ := odM_has (m := m) (hs d h1 h2)
  have hne : fmw (fun i => bq s (odM m n i)) n 0 ≠ -1 := by
    intro h5
    have := fmw_neg _ _ h5 i (by omega) (by omega)
    rw [h4, h2] at this; cases this
  obtain ⟨k, a1, a2, a3, a4⟩ := fmw_some _ _ hne
  refine ⟨k, a3, by omega, a4, ?_⟩
  have hfirst : ∀ (d w : Nat) (P : Nat → Bool) (k : Nat), fmw P d w = k → ∀ j, w ≤ j → j < k → P j = false := by
    intro d
    induction d with
    | zero => intro w P k h j _ _; unfold fmw at h; omega
    | succ d ih =>
      intro w P k h j h1 h2
      unfold fmw at h
      by_cases hp : P w = true
      · rw [if_pos hp] at h; omega
      · rw [if_neg hp] at h
        by_cases hj : j = w
        · rw [hj]; cases hq : P w with
          | true => exact absurd hq hp
          | false => rfl
        · exact ih (w + 1) P k h j (by omega) h2
  exact fun j hj => hfirst n 0 _ k a3 j (by omega) hj
theorem s_firstL {N : Nat} {m M : St} {n : Nat} {s : Int64} (hn : n ≤ 64) (hor : ∀ i, i < n → m.1 80 i = (odM M n i : Int)) (K : Int → St → Option (Int × St)) {i : Nat} (hi : i < n) (hb : bq s (odM M n i) = true) (hf : ∀ j, j < i → bq s (odM M n j) = false) : ∀ (k j q : Nat), j + k = i → k < q → f_X12_firstOf_L2 N K s q j m = K i m := by
  intro k
  induction k with
  | zero =>
    intro j q h1 h2
    obtain ⟨q, rfl⟩ : ∃ k, q = k + 1 := ⟨q - 1, by omega⟩
    have : j = i := by omega
    subst this
    have hd := (odM_lt (m := M) (n := n) (i := j) hi).1
    unfold f_X12_firstOf_L2
    rw [ixI_ok (by omega), lt1_k, Int.toNat_natCast, hor j hi, s_has (by omega), bdI_s, if_pos hb, cmpI_ok (by omega), if_neg (by decide)]
  | succ k ih =>
    intro j q h1 h2
    obtain ⟨q, rfl⟩ : ∃ k, q = k + 1 := ⟨q - 1, by omega⟩
    have hd := (odM_lt (m := M) (n := n) (i := j) (by omega)).1
    unfold f_X12_firstOf_L2
    have e2 : ((j : Int) + 1) = ((j + 1 : Nat) : Int) := by omega
    rw [ixI_ok (by omega), lt1_k, Int.toNat_natCast, hor j (by omega), s_has (by omega), bdI_s, if_neg (by rw [hf j (by omega)]; decide), cmpI_ok (by omega), if_pos rfl, e2]
    exact ih (j + 1) q (by omega) (by omega)
theorem s_firstOf {N : Nat} {m M : St} {n : Nat} {s : Int64} (hn : n ≤ 64) (hor : ∀ i, i < n → m.1 80 i = (odM M n i : Int)) {i : Nat} (hi : i < n) (hb : bq s (odM M n i) = true) (hf : ∀ j, j < i → bq s (odM M n j) = false) (hN : 65 ≤ N) : f_X12_firstOf N s m = some ((odM M n i : Int), m) := by
  unfold f_X12_firstOf
  rw [show (0 : Int) = ((0 : Nat) : Int) from rfl, s_firstL hn hor _ hi hb hf i 0 N (by omega) (by omega), ixI_ok (by omega), lt1_k, Int.toNat_natCast, hor i hi]
theorem h_firstL {o : Nat} {t M : St} {n : Nat} {s : Int64} (hn : n ≤ 64) (hsz : t.1 (305 + o) 8 = n) (hor : hoO o t M n) (K : St → Option (Int × St)) : ∀ (k j q : Nat), j + k = n → k < q →
    f_X3_firstOf_L3 o K s q j t = (if fmw (fun i => bq s (odM M n i)) k j = -1 then K t else some (fmw (fun i => bq s (odM M n i)) k j, t)) := by
  intro k
  induction k with
  | zero =>
    intro j q h1 h2
    obtain ⟨q, rfl⟩ : ∃ k, q = k + 1 := ⟨q - 1, by omega⟩
    unfold f_X3_firstOf_L3 fmw
    rw [lt1_k, hsz, cmpI_ok (by omega), if_neg (by omega), if_pos rfl]
  | succ k ih =>
    intro j q h1 h2
    obtain ⟨q, rfl⟩ : ∃ k, q = k + 1 := ⟨q - 1, by omega⟩
    have hd := (odM_lt (m := M) (n := n) (i := j) (by omega)).1
    unfold f_X3_firstOf_L3
    have e2 : ((j : Int) + 1) = ((j + 1 : Nat) : Int) := by omega
    rw [lt1_k, hsz, cmpI_ok (by omega), if_pos (by omega), ixI_ok (by omega), lt1_k, Int.toNat_natCast, hor j (by omega), e2]
    simp only [bq_h (show odM M n j < 64 by omega)]
    cases hb : bq s (odM M n j) with
    | true => rw [if_neg (by decide), fmw_t (P := fun i => bq s (odM M n i)) hb, if_neg (by omega)]
    | false => rw [if_pos rfl, fmw_f (P := fun i => bq s (odM M n i)) (d := k) hb]; exact ih (j + 1) q (by omega) (by omega)
theorem fmw_skip {P : Nat → Bool} : ∀ (j k w : Nat), (∀ i, w ≤ i → i < w + j → P i = false) → fmw P (j + k) w = fmw P k (w + j) := by
  intro j
  induction j with
  | zero => intro k w _; rw [Nat.zero_add, Nat.add_zero]
  | succ j ih =>
    intro k w h
    rw [show j + 1 + k = (j + k) + 1 by omega]
    rw [fmw_f (h w (by omega) (by omega)), ih k (w + 1) (fun i h1 h2 => h i (by omega) (by omega)), show w + 1 + j = w + (j + 1) by omega]
/-- the hall's first one, from a place ahead of which there is none -/
theorem h_firstOf {N o : Nat} {t M : St} {n : Nat} {s : Int64} {j : Nat} (hn : n ≤ 64) (hsz : t.1 (305 + o) 8 = n) (hor : hoO o t M n) (hj : j ≤ n) (hf : ∀ i, i < j → bq s (odM M n i) = false) (hN : 65 ≤ N) : f_X3_firstOf N o s j t = some ((if fo9 M n s = -1 then (n : Int) else fo9 M n s), t) := by
  unfold f_X3_firstOf fo9
  rw [h_firstL hn hsz hor _ (n - j) j N (by omega) (by omega)]
  have : fmw (fun i => bq s (odM M n i)) n 0 = fmw (fun i => bq s (odM M n i)) (n - j) j := by
    have := fmw_skip (P := fun i => bq s (odM M n i)) j (n - j) 0 (fun i _ h => hf i (by omega))
    rw [show j + (n - j) = n by omega, Nat.zero_add] at this
    exact this
  rw [this]
  split
  · rw [lt1_k, hsz]
  · rfl
/-- both stacks of copies -/
def STK (t m M : St) (n f k : Nat) (all : Int64) (p : Nat) (fs : Nat → Int64) : Prop := fs 0 = all ∧ ∀ j, j < p → ∃ i c : Nat, i < n ∧ c < 4 * k ∧ t.1 382 j = i ∧ t.1 383 j = c ∧ m.1 86 j = (odM M n i : Int) ∧ m.1 87 j = c ∧ fitb M f (odM M n i) c (fs j) k = true ∧ t.2 384 j = mk9 (wsm M f (odM M n i) c) k ∧ fs (j + 1) = fs j &&& (mk9 (wsm M f (odM M n i) c) k ^^^ (-1)) ∧ bq (fs j) (odM M n i) = true ∧ (∀ x, x < i → bq (fs j) (odM M n x) = false) ∧ j + cnb (fs j) 64 ≤ 64 ∧ ∀ e, e < 64 → bq (fs j) e = true → e < n
/-- frame of the hall's partition -/
def hfp (t u : St) : Prop := (∀ a, a ≠ 382 → a ≠ 383 → a ≠ 311 → u.1 a = t.1 a) ∧ (∀ b, b ≠ 9 → u.1 311 b = t.1 311 b) ∧ (∀ a, a ≠ 384 → u.2 a = t.2 a)
theorem hfp.rf {t : St} : hfp t t := ⟨fun _ _ _ _ => rfl, fun _ _ => rfl, fun _ _ => rfl⟩
theorem hfp.tr {t u v : St} (h : hfp t u) (g : hfp u v) : hfp t v :=
  ⟨fun a h1 h2 h3 => (g.1 a h1 h2 h3).trans (h.1 a h1 h2 h3), fun b h1 => (g.2.1 b h1).trans (h.2.1 b h1), fun a h1 => (g.2.2 a h1).trans (h.2.2 a h1)⟩
theorem hfp.hfr {t u : St} (h : hfp t u) : hfr t u :=
  ⟨fun a _ _ h3 h4 h5 => h.1 a h3 h4 h5, fun b _ _ h3 => h.2.1 b h3, fun a h1 _ _ => h.2.2 a h1⟩
theorem hfp.I {t : St} {a i : Nat} {v : Int} (h : a = 382 ∨ a = 383) : hfp t (pI t a i v) :=
  ⟨fun b h1 h2 h3 => pI_ne (by omega), fun b _ => by rw [pI_ne (by omega)], fun _ _ => rfl⟩
theorem hfp.F {t : St} {v : Int} : hfp t (pI t 311 9 v) :=
  ⟨fun b h1 h2 h3 => pI_ne h3, fun b h => pI_nf h, fun _ _ => rfl⟩
theorem hfp.L {t : St} {i : Nat} {v : Int64} : hfp t (pL t 384 i v) :=
  ⟨fun _ _ _ _ => rfl, fun _ _ => rfl, fun b h1 => pL_ne h1⟩
theorem CIk.fp {t u : St} (h : CIk t) (g : hfp t u) : CIk u := by
  obtain ⟨c1, c2, c3, c4⟩ := h
  refine ⟨by rw [g.2.1 3 (by decide)]; exact c1, by rw [g.2.1 4 (by decide)]; exact c2, fun f hf => by rw [g.1 381 (by decide) (by decide) (by decide)]; exact c3 f hf, fun o ho h9 => ?_⟩
  rw [g.2.1 3 (by decide)] at h9
  rw [g.2.1 4 (by decide), g.1 (305 + o) (by omega) (by omega) (by omega), g.1 381 (by decide) (by decide) (by decide), g.1 312 (by decide) (by decide) (by decide), g.1 380 (by decide) (by decide) (by decide), g.2.2 311 (by decide)]
  refine ⟨(c4 o ho h9).1, fun h10 f hf h11 => ?_⟩
  obtain ⟨q1, M, n, k, q2, q3, q4, q5⟩ := (c4 o ho h9).2 h10 f hf h11
  exact ⟨q1, M, n, k, q2.fr g.hfr ho, q3, q4.fr g.hfr, q5⟩
/-- what a partition comes to on both sides -/
def PRES (t0 m0 M : St) (n f k : Nat) (all : Int64) (F G : Option (Int × St)) : Prop :=
  ∃ (a b : Int) (t m : St), F = some (a, t) ∧ G = some (b, m) ∧ hfp t0 t ∧ mfr m0 m ∧ ((a = 3 ∧ b = 0) ∨ (a = 4 ∧ b = -1) ∨ (a = 0 ∧ b = 1 ∧ ∃ (p : Nat) (fs : Nat → Int64), p ≤ 64 ∧ t.1 311 9 = p ∧ m.1 200 88 = p ∧ STK t m M n f k all p fs ∧ fs p = 0))
def pKK (N : Nat) (K13 : St → Option (Int × St)) (y7 : Int64) (y8 : Int) (y9 : Int) (n9 : Nat) (x10 : Int64) (v15 : Int) : Int → Int → St → Option (Int × St) :=
  fun (k30 : Int) (k31 : Int) (t32 : St) => jn1 (fun (j33 : Int64) (j34 : Int) (t35 : St) => f_X12_parted_L40 N K13 y7 y8 y9 n9 j33 j34 t35) fun J36 =>
    cmpI k31 0 (if k31 = 0 then (lt1 (t32.1 200 88) fun v37 =>
    cmpI v37 0 (if v37 = 0 then (some (0, t32))
    else (lt1 (t32.1 200 88) fun v38 =>
    lt1 (pI t32 200 88 (v38 - 1)) fun t39 =>
    lt1 (t39.1 200 88) fun v40 =>
    ixI v40 64 (lt1 (t39.1 87 v40.toNat) fun v41 =>
    f_X12_parted_L210 N (fun (k57 : Int64) (t58 : St) => J36 k57 (v41 + 1) t58) y8 N y7 0 t39))))
    else (lt1 (t32.1 200 88) fun v59 =>
    ixI v59 64 (lt1 (pI t32 86 v59.toNat v15) fun t60 =>
    lt1 (t60.1 200 88) fun v61 =>
    ixI v61 64 (lt1 (pI t60 87 v61.toNat (k30 - 1)) fun t62 =>
    lt1 (t62.1 200 88) fun v63 =>
    lt1 (pI t62 200 88 (v63 + 1)) fun t64 =>
    bdL (f_X12_ofCopy N y8 t64) fun v66 t65 =>
    J36 (x10 &&& (v66 ^^^ (-1 : Int64))) 0 t65))))
theorem pL40 {N : Nat} {K13 : St → Option (Int × St)} {y7 : Int64} {y8 y9 : Int} {n9 : Nat} {x10 : Int64} {x11 : Int} {t12 : St} : f_X12_parted_L40 N K13 y7 y8 y9 (n9 + 1) x10 x11 t12 = (if x10 = (0 : Int64) then (K13 t12) else (bdI (f_X12_firstOf N x10 t12) fun v15 t14 => f_X12_parted_L58 N (pKK N K13 y7 y8 y9 n9 x10 v15) y8 y9 x10 v15 N x11 0 t14)) := rfl
/-- the model takes back: it finds out anew who is left -/
theorem s_redo {N : Nat} {M : St} {n f k : Nat} {all : Int64} {fs : Nat → Int64} {p : Nat} {cp : Nat → Nat × Nat} (hO : fmO M f k) (hF : fmF M n) (h0 : fs 0 = all) (hs : ∀ j, j < p → (cp j).1 < n ∧ (cp j).2 < 4 * k ∧ fitb M f (cp j).1 (cp j).2 (fs j) k = true ∧ fs (j + 1) = fs j &&& (mk9 (wsm M f (cp j).1 (cp j).2) k ^^^ (-1))) (hp : p ≤ 64) (hN : 70 ≤ N) (K : Int64 → St → Option (Int × St)) : ∀ (i j q : Nat) (m : St), j + i = p → i < q → mfr M m → m.1 200 88 = p → (∀ x, x < p → m.1 86 x = ((cp x).1 : Int) ∧ m.1 87 x = ((cp x).2 : Int)) →
    ∃ v : St, f_X12_parted_L210 N K f q (fs j) j m = K (fs p) v ∧ mfr m v ∧ v.1 80 = m.1 80 ∧ v.1 86 = m.1 86 ∧ v.1 87 = m.1 87 ∧ v.1 200 85 = m.1 200 85 ∧ v.1 200 88 = m.1 200 88 := by
  have hf40 := hO.1
  have hk8 := hO.2.2.2.1
  intro i
  induction i with
  | zero =>
    intro j q m h1 h2 h3 h4 h5
    obtain ⟨q, rfl⟩ : ∃ k, q = k + 1 := ⟨q - 1, by omega⟩
    have : j = p := by omega
    subst this
    refine ⟨m, ?_, mfr.rf, rfl, rfl, rfl, rfl, rfl⟩
    unfold f_X12_parted_L210
    rw [lt1_k, h4, cmpI_ok (by omega), if_neg (by omega)]
  | succ i ih =>
    intro j q m h1 h2 h3 h4 h5
    obtain ⟨q, rfl⟩ : ∃ k, q = k + 1 := ⟨q - 1, by omega⟩
    obtain ⟨a1, a2, a3, a4⟩ := hs j (by omega)
    obtain ⟨u, b1, b2, b3, b4, b5, b6, b7, b8⟩ := s_fits (N := N) (s := fs j) (hF.fr h3) (hO.fr h3) a1 a2 hN
    rw [fitb_fr h3] at b1 b8
    have hof : f_X12_ofCopy N f u = some (mk9 (wsm M f (cp j).1 (cp j).2) k, u) := s_ofCopy hf40 (hO.fr (h3.tr b2)).2.1 hk8 (fun x hx => by rw [(b8 a3).1 x hx, wsm_fr h3]) (by omega)
    have e2 : ((j : Int) + 1) = ((j + 1 : Nat) : Int) := by omega
    unfold f_X12_parted_L210
    rw [lt1_k, h4, cmpI_ok (by omega), if_pos (by omega), ixI_ok (by omega), lt1_k, Int.toNat_natCast, ixI_ok (by omega), lt1_k, (h5 j (by omega)).1, (h5 j (by omega)).2, b1, bdI_s, hof, bdL_s, e2, ← a4]
    obtain ⟨v, c1, c2, c3, c4, c5, c6, c7⟩ := ih (j + 1) q u (by omega) (by omega) (h3.tr b2) (by rw [b7, h4]) (fun x hx => by rw [b4, b5]; exact h5 x hx)
    exact ⟨v, c1, b2.tr c2, by rw [c3, b3], by rw [c4, b4], by rw [c5, b5], by rw [c6, b6], by rw [c7, b7, h4]⟩
