/-! copies of forms on both sides -/
def tX9 (x y r : Int) : Int := if r = 0 then x else if r = 1 then y else if r = 2 then -x else -y
def tY9 (x y r : Int) : Int := if r = 0 then y else if r = 1 then -x else if r = 2 then -y else x
theorem tX9_rng {x y r : Int} (hx : -32 ≤ x ∧ x ≤ 32) (hy : -32 ≤ y ∧ y ≤ 32) : -32 ≤ tX9 x y r ∧ tX9 x y r ≤ 32 := by
  unfold tX9; split
  · exact hx
  · split
    · exact hy
    · split <;> omega
theorem tY9_rng {x y r : Int} (hx : -32 ≤ x ∧ x ≤ 32) (hy : -32 ≤ y ∧ y ≤ 32) : -32 ≤ tY9 x y r ∧ tY9 x y r ≤ 32 := by
  unfold tY9; split
  · exact hy
  · split
    · omega
    · split <;> omega
theorem t9_inj {x y x2 y2 r : Int} (h : tX9 x y r = tX9 x2 y2 r) (g : tY9 x y r = tY9 x2 y2 r) : x = x2 ∧ y = y2 := by
  unfold tX9 at h; unfold tY9 at g
  by_cases h0 : r = 0
  · rw [if_pos h0, if_pos h0] at h g; exact ⟨h, g⟩
  rw [if_neg h0, if_neg h0] at h g
  by_cases h1 : r = 1
  · rw [if_pos h1, if_pos h1] at h g; omega
  rw [if_neg h1, if_neg h1] at h g
  by_cases h2 : r = 2
  · rw [if_pos h2, if_pos h2] at h g; omega
  rw [if_neg h2, if_neg h2] at h g
  omega
theorem s_tX {N : Nat} {x y r : Int} {m : St} (hr : inR r) : f_X12_turnedX N x y r m = some (tX9 x y r, m) := by
  unfold f_X12_turnedX tX9
  rw [cmpI_ok (by omega), cmpI_ok (by omega), cmpI_ok (by omega)]
  split; · rfl
  split; · rfl
  split <;> rfl
theorem s_tY {N : Nat} {x y r : Int} {m : St} (hr : inR r) : f_X12_turnedY N x y r m = some (tY9 x y r, m) := by
  unfold f_X12_turnedY tY9
  rw [cmpI_ok (by omega), cmpI_ok (by omega), cmpI_ok (by omega)]
  split; · rfl
  split; · rfl
  split <;> rfl
theorem h_tX {N : Nat} {x y r : Int} {m : St} (hr : inR r) : f_X0_turnedX N x y r m = some (tX9 x y r, m) := by
  unfold f_X0_turnedX tX9
  rw [rnI_ok hr]
  split; · rfl
  split; · rfl
  split <;> rfl
theorem h_tY {N : Nat} {x y r : Int} {m : St} (hr : inR r) : f_X0_turnedY N x y r m = some (tY9 x y r, m) := by
  unfold f_X0_turnedY
  rw [h_tX hr, bdI_s]
  have : tX9 y (-x) r = tY9 x y r := by
    unfold tX9 tY9
    split; · rfl
    split; · rfl
    split
    · rfl
    · omega
  rw [this]
/-- where the copy c of form f for dancer d lies -/
def cpx (m : St) (f d c : Nat) : Int := m.1 38 d - tX9 (m.1 19 (8 * f + c / 4)) (m.1 20 (8 * f + c / 4)) ((c % 4 : Nat) : Int)
def cpy (m : St) (f d c : Nat) : Int := m.1 39 d - tY9 (m.1 19 (8 * f + c / 4)) (m.1 20 (8 * f + c / 4)) ((c % 4 : Nat) : Int)
/-- who is in its slot j -/
def wsm (m : St) (f d c j : Nat) : Int := who9 (m.1 38) (m.1 39) (m.1 200 37).toNat (cpx m f d c + tX9 (m.1 19 (8 * f + j)) (m.1 20 (8 * f + j)) ((c % 4 : Nat) : Int)) (cpy m f d c + tY9 (m.1 19 (8 * f + j)) (m.1 20 (8 * f + j)) ((c % 4 : Nat) : Int))
/-- whether one of some dancers stands in it -/
def okb (m : St) (f d c : Nat) (s : Int64) (j : Nat) : Bool :=
  decide (0 ≤ wsm m f d c j) && bq s (wsm m f d c j).toNat && (decide (4 ≤ m.1 21 (8 * f + j)) || decide (m.1 40 (wsm m f d c j).toNat = (m.1 21 (8 * f + j) + ((c % 4 : Nat) : Int)) % 4)) && (decide (m.1 22 (8 * f + j) ≤ 0) || decide (wsm m f d c j % 2 = m.1 22 (8 * f + j) - 1))
def fitb (m : St) (f d c : Nat) (s : Int64) : Nat → Bool
  | 0 => true
  | j + 1 => fitb m f d c s j && okb m f d c s j
def mk9 (w : Nat → Int) : Nat → Int64
  | 0 => 0
  | j + 1 => mk9 w j ||| shlL 1 (w j)
/-- what finding out leaves as it is: the model -/
def mfr (m u : St) : Prop := (∀ a, a ≠ 80 → a ≠ 81 → a ≠ 86 → a ≠ 87 → a ≠ 200 → u.1 a = m.1 a) ∧ (∀ b, b ≠ 82 → b ≠ 83 → b ≠ 84 → b ≠ 85 → b ≠ 88 → u.1 200 b = m.1 200 b) ∧ u.2 = m.2
theorem mfr.rf {m : St} : mfr m m := ⟨fun _ _ _ _ _ _ => rfl, fun _ _ _ _ _ _ => rfl, rfl⟩
theorem mfr.tr {m u v : St} (h : mfr m u) (g : mfr u v) : mfr m v :=
  ⟨fun a h1 h2 h3 h4 h5 => (g.1 a h1 h2 h3 h4 h5).trans (h.1 a h1 h2 h3 h4 h5), fun b h1 h2 h3 h4 h5 => (g.2.1 b h1 h2 h3 h4 h5).trans (h.2.1 b h1 h2 h3 h4 h5), g.2.2.trans h.2.2⟩
theorem mfr.A {m : St} {a : Nat} {F : Nat → Int} (h : a = 80 ∨ a = 81 ∨ a = 86 ∨ a = 87) : mfr m (pA m a F) :=
  ⟨fun b h1 h2 h3 h4 h5 => pA_ne (by omega), fun b _ _ _ _ _ => by rw [pA_ne (by omega)], rfl⟩
theorem mfr.F {m : St} {b : Nat} {v : Int} (h : b = 82 ∨ b = 83 ∨ b = 84 ∨ b = 85 ∨ b = 88) : mfr m (pI m 200 b v) :=
  ⟨fun a h1 h2 h3 h4 h5 => pI_ne h5, fun c _ _ _ _ _ => pI_nf (by omega), rfl⟩
theorem cpx_fr {m u : St} (h : mfr m u) : cpx u = cpx m := by
  funext f d c
  unfold cpx
  rw [h.1 38 (by decide) (by decide) (by decide) (by decide) (by decide), h.1 19 (by decide) (by decide) (by decide) (by decide) (by decide), h.1 20 (by decide) (by decide) (by decide) (by decide) (by decide)]
theorem cpy_fr {m u : St} (h : mfr m u) : cpy u = cpy m := by
  funext f d c
  unfold cpy
  rw [h.1 39 (by decide) (by decide) (by decide) (by decide) (by decide), h.1 19 (by decide) (by decide) (by decide) (by decide) (by decide), h.1 20 (by decide) (by decide) (by decide) (by decide) (by decide)]
theorem wsm_fr {m u : St} (h : mfr m u) : wsm u = wsm m := by
  funext f d c j
  unfold wsm
  rw [cpx_fr h, cpy_fr h, h.1 38 (by decide) (by decide) (by decide) (by decide) (by decide), h.1 39 (by decide) (by decide) (by decide) (by decide) (by decide), h.1 19 (by decide) (by decide) (by decide) (by decide) (by decide), h.1 20 (by decide) (by decide) (by decide) (by decide) (by decide), h.2.1 37 (by decide) (by decide) (by decide) (by decide) (by decide)]
theorem okb_fr {m u : St} (h : mfr m u) : okb u = okb m := by
  funext f d c s j
  unfold okb
  rw [wsm_fr h, h.1 21 (by decide) (by decide) (by decide) (by decide) (by decide), h.1 22 (by decide) (by decide) (by decide) (by decide) (by decide), h.1 40 (by decide) (by decide) (by decide) (by decide) (by decide)]
theorem fitb_fr {m u : St} (h : mfr m u) : fitb u = fitb m := by
  funext f d c s j
  induction j with
  | zero => rfl
  | succ j ih => unfold fitb; rw [ih, okb_fr h]
/-- a form of the model -/
def fmO (m : St) (f k : Nat) : Prop := f < 40 ∧ m.1 18 f = k ∧ 1 ≤ k ∧ k ≤ 8 ∧ (∀ j, j < k → (-32 ≤ m.1 19 (8 * f + j) ∧ m.1 19 (8 * f + j) ≤ 32) ∧ (-32 ≤ m.1 20 (8 * f + j) ∧ m.1 20 (8 * f + j) ≤ 32) ∧ (0 ≤ m.1 21 (8 * f + j) ∧ m.1 21 (8 * f + j) ≤ 4) ∧ (0 ≤ m.1 22 (8 * f + j) ∧ m.1 22 (8 * f + j) ≤ 2)) ∧ ∀ i j, i < k → j < k → m.1 19 (8 * f + i) = m.1 19 (8 * f + j) → m.1 20 (8 * f + i) = m.1 20 (8 * f + j) → i = j
/-- the model's floor -/
def fmF (m : St) (n : Nat) : Prop := m.1 200 37 = n ∧ FXs (m.1 38) (m.1 39) (m.1 40) n
theorem fmO.fr {m u : St} {f k : Nat} (h : fmO m f k) (g : mfr m u) : fmO u f k := by
  unfold fmO
  rw [g.1 18 (by decide) (by decide) (by decide) (by decide) (by decide), g.1 19 (by decide) (by decide) (by decide) (by decide) (by decide), g.1 20 (by decide) (by decide) (by decide) (by decide) (by decide), g.1 21 (by decide) (by decide) (by decide) (by decide) (by decide), g.1 22 (by decide) (by decide) (by decide) (by decide) (by decide)]
  exact h
theorem fmF.fr {m u : St} {n : Nat} (h : fmF m n) (g : mfr m u) : fmF u n := by
  unfold fmF
  rw [g.2.1 37 (by decide) (by decide) (by decide) (by decide) (by decide), g.1 38 (by decide) (by decide) (by decide) (by decide) (by decide), g.1 39 (by decide) (by decide) (by decide) (by decide) (by decide), g.1 40 (by decide) (by decide) (by decide) (by decide) (by decide)]
  exact h
theorem wsm_rng {m : St} {n f d c j : Nat} (h : fmF m n) : -1 ≤ wsm m f d c j ∧ wsm m f d c j < n := by
  unfold wsm
  have := who9_rng (X := m.1 38) (Y := m.1 39) (n := (m.1 200 37).toNat) (px := cpx m f d c + tX9 (m.1 19 (8 * f + j)) (m.1 20 (8 * f + j)) ((c % 4 : Nat) : Int)) (py := cpy m f d c + tY9 (m.1 19 (8 * f + j)) (m.1 20 (8 * f + j)) ((c % 4 : Nat) : Int))
  have := h.1
  omega
theorem okb_0 {m : St} {n f d c j : Nat} {s : Int64} (hF : fmF m n) (h : okb m f d c s j = true) : ∃ w : Nat, wsm m f d c j = w ∧ w < n ∧ bq s w = true := by
  unfold okb at h
  simp only [Bool.and_eq_true, decide_eq_true_iff] at h
  have h1 := wsm_rng (f := f) (d := d) (c := c) (j := j) hF
  obtain ⟨w, hw⟩ := Int.eq_ofNat_of_zero_le h.1.1.1
  refine ⟨w, hw, by omega, ?_⟩
  have := h.1.1.2
  rw [hw, Int.toNat_natCast] at this
  exact this
theorem fitb_le {m : St} {f d c : Nat} {s : Int64} : ∀ {j i : Nat}, fitb m f d c s j = true → i < j → okb m f d c s i = true := by
  intro j
  induction j with
  | zero => intro i _ h; omega
  | succ j ih =>
    intro i h hi
    unfold fitb at h
    rw [Bool.and_eq_true] at h
    by_cases hij : i = j
    · rw [hij]; exact h.2
    · exact ih h.1 (by omega)
theorem fitb_no {m : St} {f d c : Nat} {s : Int64} {j k : Nat} (h : okb m f d c s j = false) (hj : j < k) : fitb m f d c s k = false := by
  cases h2 : fitb m f d c s k with
  | false => rfl
  | true => rw [fitb_le h2 hj] at h; cases h
theorem s_fitsL {N : Nat} {m : St} {n f k d c : Nat} {s : Int64} (hF : fmF m n) (hO : fmO m f k) (hd : d < n) (hc : c < 4 * k) (hN : 70 ≤ N) (K : St → Option (Int × St)) : ∀ (i j q : Nat) (A : Nat → Int), j + i = k → i < q → fitb m f d c s j = true → (∀ x, x < j → A x = wsm m f d c x) →
    ∃ A2 : Nat → Int, f_X12_fits_L74 N K f s ((c % 4 : Nat) : Int) (cpx m f d c) (cpy m f d c) q j (pA m 81 A) = (if fitb m f d c s k = true then K (pA m 81 A2) else some (0, pA m 81 A2)) ∧ (fitb m f d c s k = true → ∀ x, x < k → A2 x = wsm m f d c x) := by
  obtain ⟨hf, hk, hk1, hk8, hsl, hdi⟩ := hO
  obtain ⟨hn, hV⟩ := hF
  have h64 := hV.1
  have hdd := hV.2.1 d hd
  have hc4 : c % 4 < 4 := Nat.mod_lt _ (by decide)
  have hcs := hsl (c / 4) (by omega)
  intro i
  induction i with
  | zero =>
    intro j q A h1 h2 h3 h4
    obtain ⟨q, rfl⟩ : ∃ k, q = k + 1 := ⟨q - 1, by omega⟩
    have hj : j = k := by omega
    subst hj
    refine ⟨A, ?_, fun _ => h4⟩
    unfold f_X12_fits_L74
    rw [ixI_ok (by omega), lt1_k, Int.toNat_natCast, pA_ne (by decide), hk, cmpI_ok (by omega), if_neg (by omega), if_pos h3]
  | succ i ih =>
    intro j q A h1 h2 h3 h4
    obtain ⟨q, rfl⟩ : ∃ k, q = k + 1 := ⟨q - 1, by omega⟩
    have hjs := hsl j (by omega)
    have ex := tX9_rng (r := ((c % 4 : Nat) : Int)) hjs.1 hjs.2.1
    have ey := tY9_rng (r := ((c % 4 : Nat) : Int)) hjs.1 hjs.2.1
    have cx := tX9_rng (r := ((c % 4 : Nat) : Int)) hcs.1 hcs.2.1
    have cy := tY9_rng (r := ((c % 4 : Nat) : Int)) hcs.1 hcs.2.1
    have ei : ((8 * (f : Int)) + (j : Int)).toNat = 8 * f + j := by omega
    have hpx : -400 ≤ cpx m f d c ∧ cpx m f d c ≤ 400 := by unfold cpx; omega
    have hpy : -400 ≤ cpy m f d c ∧ cpy m f d c ≤ 400 := by unfold cpy; omega
    have hne : ∀ a, a ≠ 81 → (pA m 81 A).1 a = m.1 a := fun a ha => pA_ne ha
    have kx : ∀ X : Option (Int × St), ixI ((8 * (f : Int)) + (j : Int)) 320 X = X := fun X => ixI_ok (by omega)
    have hw := wsm_rng (f := f) (d := d) (c := c) (j := j) (show fmF m n from ⟨hn, hV⟩)
    have hwa : f_X12_whoAt N (cpx m f d c + tX9 (m.1 19 (8 * f + j)) (m.1 20 (8 * f + j)) ((c % 4 : Nat) : Int)) (cpy m f d c + tY9 (m.1 19 (8 * f + j)) (m.1 20 (8 * f + j)) ((c % 4 : Nat) : Int)) (pA m 81 A) = some (wsm m f d c j, pA m 81 A) := by
      rw [s_whoAt (X := m.1 38) (Y := m.1 39) (W := m.1 40) (n := n) (hne 38 (by decide)) (hne 39 (by decide)) (by rw [hne 200 (by decide)]; exact hn) hV (by omega) (by omega) (by omega)]
      unfold wsm
      rw [hn, Int.toNat_natCast]
    have e1 : ((j : Int) + 1) = ((j + 1 : Nat) : Int) := by omega
    have hno : okb m f d c s j = false → ∃ A2 : Nat → Int, some ((0 : Int), pA m 81 A) = (if fitb m f d c s k = true then K (pA m 81 A2) else some (0, pA m 81 A2)) ∧ (fitb m f d c s k = true → ∀ x, x < k → A2 x = wsm m f d c x) := by
      intro hb
      have h9 := fitb_no (k := k) hb (by omega)
      exact ⟨A, by rw [if_neg (by rw [h9]; decide)], fun h => by rw [h9] at h; cases h⟩
    unfold f_X12_fits_L74
    simp only [lt1_k, jn1_k, Int.toNat_natCast, ei, kx, hne 18 (by decide), hne 19 (by decide), hne 20 (by decide), s_tX (show inR ((c % 4 : Nat) : Int) from ⟨by omega, by omega⟩), s_tY (show inR ((c % 4 : Nat) : Int) from ⟨by omega, by omega⟩), bdI_s, hwa]
    rw [ixI_ok (by omega), hk, cmpI_ok (by omega), if_pos (by omega), cmpI_ok (by omega)]
    by_cases hw0 : wsm m f d c j = -1
    · rw [if_pos hw0, boI_0]
      refine hno ?_
      unfold okb; rw [hw0]; rfl
    · obtain ⟨w, hw1⟩ := Int.eq_ofNat_of_zero_le (show 0 ≤ wsm m f d c j by omega)
      rw [if_neg hw0, hw1, s_has (by omega), bdI_s, cmpI_ok (by split <;> omega)]
      by_cases hb : bq s w = true
      · rw [if_pos hb, if_neg (by decide)]
        simp only [hne 21 (by decide), hne 22 (by decide), hne 40 (by decide), Int.toNat_natCast]
        have hwv := hV.2.1 w (by omega)
        rw [cmpI_ok (by omega), cmpI_ok (by omega), cmpI_ok (by omega)]
        have hturn : ∀ x : St, f_X12_turns N (m.1 21 (8 * f + j) + ((c % 4 : Nat) : Int)) x = some ((m.1 21 (8 * f + j) + ((c % 4 : Nat) : Int)) % 4, x) := fun x => rfl
        rw [hturn, bdI_s, cmpI_ok (by omega), dvI_ok (by omega), ixI_ok (by omega), ixI_ok (by omega), boI_0, e1, pA_I]
        have hgo : okb m f d c s j = true → ∃ A2 : Nat → Int, f_X12_fits_L74 N K f s ((c % 4 : Nat) : Int) (cpx m f d c) (cpy m f d c) q ((j + 1 : Nat) : Int) (pA m 81 (fup A j w)) = (if fitb m f d c s k = true then K (pA m 81 A2) else some (0, pA m 81 A2)) ∧ (fitb m f d c s k = true → ∀ x, x < k → A2 x = wsm m f d c x) := by
          intro hb
          refine ih (j + 1) q _ (by omega) (by omega) (by unfold fitb; rw [h3, hb]; rfl) (fun x hx => ?_)
          by_cases hxj : x = j
          · rw [hxj, fup_at, hw1]
          · rw [fup_ne hxj]; exact h4 x (by omega)
        have hob : okb m f d c s j = ((decide (4 ≤ m.1 21 (8 * f + j)) || decide (m.1 40 w = (m.1 21 (8 * f + j) + ((c % 4 : Nat) : Int)) % 4)) && (decide (m.1 22 (8 * f + j) ≤ 0) || decide ((w : Int) % 2 = m.1 22 (8 * f + j) - 1))) := by
          unfold okb
          rw [hw1, Int.toNat_natCast, hb]
          simp
        simp only [hne 22 (by decide)]
        rw [cmpI_ok (by omega), cmpI_ok (by omega)]
        by_cases q1 : m.1 21 (8 * f + j) < 4
        · rw [if_pos q1]
          by_cases q2 : m.1 40 w = (m.1 21 (8 * f + j) + ((c % 4 : Nat) : Int)) % 4
          · rw [if_pos q2]
            by_cases q3 : 0 < m.1 22 (8 * f + j)
            · rw [if_pos q3]
              by_cases q4 : (w : Int) % 2 = m.1 22 (8 * f + j) - 1
              · rw [if_pos q4]; exact hgo (by rw [hob]; simp only [Bool.and_eq_true, Bool.or_eq_true, decide_eq_true_iff]; omega)
              · rw [if_neg q4]; exact hno (by rw [hob, ← Bool.not_eq_true]; simp only [Bool.and_eq_true, Bool.or_eq_true, decide_eq_true_iff]; omega)
            · rw [if_neg q3]; exact hgo (by rw [hob]; simp only [Bool.and_eq_true, Bool.or_eq_true, decide_eq_true_iff]; omega)
          · rw [if_neg q2]; exact hno (by rw [hob, ← Bool.not_eq_true]; simp only [Bool.and_eq_true, Bool.or_eq_true, decide_eq_true_iff]; omega)
        · rw [if_neg q1]
          by_cases q3 : 0 < m.1 22 (8 * f + j)
          · rw [if_pos q3]
            by_cases q4 : (w : Int) % 2 = m.1 22 (8 * f + j) - 1
            · rw [if_pos q4, dvI_ok (by omega)]; exact hgo (by rw [hob]; simp only [Bool.and_eq_true, Bool.or_eq_true, decide_eq_true_iff]; omega)
            · rw [if_neg q4, dvI_ok (by omega)]; exact hno (by rw [hob, ← Bool.not_eq_true]; simp only [Bool.and_eq_true, Bool.or_eq_true, decide_eq_true_iff]; omega)
          · rw [if_neg q3]; exact hgo (by rw [hob]; simp only [Bool.and_eq_true, Bool.or_eq_true, decide_eq_true_iff]; omega)
      · rw [if_neg hb, if_pos rfl, boI_0]
        refine hno ?_
        unfold okb
        rw [hw1, Int.toNat_natCast]
        simp [hb]
theorem s_fits {N : Nat} {m : St} {n f k d c : Nat} {s : Int64} (hF : fmF m n) (hO : fmO m f k) (hd : d < n) (hc : c < 4 * k) (hN : 70 ≤ N) :
    ∃ u : St, f_X12_fits N f d c s m = some ((if fitb m f d c s k = true then 1 else 0), u) ∧ mfr m u ∧ u.1 80 = m.1 80 ∧ u.1 86 = m.1 86 ∧ u.1 87 = m.1 87 ∧ u.1 200 85 = m.1 200 85 ∧ u.1 200 88 = m.1 200 88 ∧
      (fitb m f d c s k = true → (∀ j, j < k → u.1 81 j = wsm m f d c j) ∧ u.1 200 82 = cpx m f d c ∧ u.1 200 83 = cpy m f d c ∧ u.1 200 84 = ((c % 4 : Nat) : Int)) := by
  obtain ⟨hf, hk, hk1, hk8, hsl, hdi⟩ := id hO
  have hV := hF.2
  have h64 := hV.1
  have ec : ((c : Int) / 4) = ((c / 4 : Nat) : Int) := by omega
  have ec2 : ((c : Int) % 4) = ((c % 4 : Nat) : Int) := by omega
  have ei : ((8 * (f : Int)) + ((c / 4 : Nat) : Int)).toNat = 8 * f + c / 4 := by omega
  have kx : ∀ X : Option (Int × St), ixI ((8 * (f : Int)) + ((c / 4 : Nat) : Int)) 320 X = X := fun X => ixI_ok (by omega)
  have kd : ∀ X : Option (Int × St), ixI (d : Int) 64 X = X := fun X => ixI_ok (by omega)
  have hr : inR ((c % 4 : Nat) : Int) := ⟨by omega, by omega⟩
  have hL := s_fitsL (s := s) hF hO hd hc hN (fun (t44 : St) => lt1 (pI t44 200 82 (cpx m f d c)) fun t45 =>
    lt1 (pI t45 200 83 (cpy m f d c)) fun t46 =>
    lt1 (pI t46 200 84 ((c % 4 : Nat) : Int)) fun t47 =>
    boI 1 (some (1, t47))) k 0 N (m.1 81) (by omega) (by omega) rfl (fun x hx => by omega)
  rw [pA_self] at hL
  obtain ⟨A2, h1, h2⟩ := hL
  unfold f_X12_fits
  rw [dvI_ok (by omega), dvI_ok (by omega)]
  simp only [lt1_k, ec, ec2, Int.toNat_natCast, ei, kx, kd, s_tX hr, s_tY hr, bdI_s]
  unfold cpx cpy at h1
  rw [show (0 : Int) = ((0 : Nat) : Int) from rfl]
  simp only [lt1_k] at h1
  rw [h1]
  by_cases hb : fitb m f d c s k = true
  · rw [if_pos hb, if_pos hb, boI_1]
    refine ⟨_, rfl, ?_, ?_, ?_, ?_, ?_, ?_, fun _ => ⟨fun j hj => ?_, ?_, ?_, ?_⟩⟩
    · exact ((mfr.A (by omega)).tr (mfr.F (by omega))).tr ((mfr.F (by omega)).tr (mfr.F (by omega)))
    · rw [pI_ne (by decide), pI_ne (by decide), pI_ne (by decide), pA_ne (by decide)]
    · rw [pI_ne (by decide), pI_ne (by decide), pI_ne (by decide), pA_ne (by decide)]
    · rw [pI_ne (by decide), pI_ne (by decide), pI_ne (by decide), pA_ne (by decide)]
    · rw [pI_nf (by decide), pI_nf (by decide), pI_nf (by decide), pA_ne (by decide)]
    · rw [pI_nf (by decide), pI_nf (by decide), pI_nf (by decide), pA_ne (by decide)]
    · rw [pI_ne (by decide), pI_ne (by decide), pI_ne (by decide), pA_at]; exact h2 hb j hj
    · rw [pI_nf (by decide), pI_nf (by decide), pI_at]; rfl
    · rw [pI_nf (by decide), pI_at]; rfl
    · rw [pI_at]
  · rw [if_neg hb, if_neg hb]
    refine ⟨_, rfl, mfr.A (by omega), pA_ne (by decide), pA_ne (by decide), pA_ne (by decide), by rw [pA_ne (by decide)], by rw [pA_ne (by decide)], fun h => absurd h hb⟩
theorem s_ofCopyL {N : Nat} {m : St} {f k : Nat} {w : Nat → Int} (hf : f < 40) (hk : m.1 18 f = k) (hk8 : k ≤ 8) (hw : ∀ j, j < k → m.1 81 j = w j) (K : Int64 → St → Option (Int64 × St)) : ∀ (i j q : Nat), j + i = k → i < q →
    f_X12_ofCopy_L5 N K f q (mk9 w j) j m = K (mk9 w k) m := by
  intro i
  induction i with
  | zero =>
    intro j q h1 h2
    obtain ⟨q, rfl⟩ : ∃ k, q = k + 1 := ⟨q - 1, by omega⟩
    have : j = k := by omega
    subst this
    unfold f_X12_ofCopy_L5
    rw [ixI_ok (by omega), lt1_k, Int.toNat_natCast, hk, cmpI_ok (by omega), if_neg (by omega)]
  | succ i ih =>
    intro j q h1 h2
    obtain ⟨q, rfl⟩ : ∃ k, q = k + 1 := ⟨q - 1, by omega⟩
    unfold f_X12_ofCopy_L5
    have e1 : ((j : Int) + 1) = ((j + 1 : Nat) : Int) := by omega
    rw [ixI_ok (by omega), lt1_k, Int.toNat_natCast, hk, cmpI_ok (by omega), if_pos (by omega), ixI_ok (by omega), lt1_k, Int.toNat_natCast, hw j (by omega), e1]
    exact ih (j + 1) q (by omega) (by omega)
theorem s_ofCopy {N : Nat} {m : St} {f k : Nat} {w : Nat → Int} (hf : f < 40) (hk : m.1 18 f = k) (hk8 : k ≤ 8) (hw : ∀ j, j < k → m.1 81 j = w j) (hN : 10 ≤ N) : f_X12_ofCopy N f m = some (mk9 w k, m) := by
  unfold f_X12_ofCopy
  exact s_ofCopyL hf hk hk8 hw _ k 0 N (by omega) (by omega)
