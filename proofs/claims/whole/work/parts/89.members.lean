/-! the hall's copies -/
/-- a form of the hall is the model's -/
def fhO (t m : St) (f k : Nat) : Prop := t.1 350 f = k ∧ ∀ j, j < k → (∀ r, r < 4 → t.1 351 (4 * (8 * f + j) + r) = tX9 (m.1 19 (8 * f + j)) (m.1 20 (8 * f + j)) (r : Int) ∧ t.1 352 (4 * (8 * f + j) + r) = tY9 (m.1 19 (8 * f + j)) (m.1 20 (8 * f + j)) (r : Int)) ∧ t.1 353 (8 * f + j) = m.1 21 (8 * f + j) + 8 * (if m.1 22 (8 * f + j) = 0 then 2 else m.1 22 (8 * f + j) - 1)
theorem fhO.x {t m : St} {f k c j : Nat} (h : fhO t m f k) (hj : j < k) : t.1 351 (32 * f + 4 * j + c % 4) = tX9 (m.1 19 (8 * f + j)) (m.1 20 (8 * f + j)) ((c % 4 : Nat) : Int) := by
  rw [show 32 * f + 4 * j + c % 4 = 4 * (8 * f + j) + c % 4 by omega]
  exact ((h.2 j hj).1 (c % 4) (Nat.mod_lt _ (by decide))).1
theorem fhO.y {t m : St} {f k c j : Nat} (h : fhO t m f k) (hj : j < k) : t.1 352 (32 * f + 4 * j + c % 4) = tY9 (m.1 19 (8 * f + j)) (m.1 20 (8 * f + j)) ((c % 4 : Nat) : Int) := by
  rw [show 32 * f + 4 * j + c % 4 = 4 * (8 * f + j) + c % 4 by omega]
  exact ((h.2 j hj).1 (c % 4) (Nat.mod_lt _ (by decide))).2
theorem fhO.cx {t m : St} {f k c : Nat} (h : fhO t m f k) (hc : c < 4 * k) : t.1 351 (32 * f + c) = tX9 (m.1 19 (8 * f + c / 4)) (m.1 20 (8 * f + c / 4)) ((c % 4 : Nat) : Int) := by
  have := h.x (c := c) (j := c / 4) (by omega)
  rw [show 32 * f + 4 * (c / 4) + c % 4 = 32 * f + c by omega] at this
  exact this
theorem fhO.cy {t m : St} {f k c : Nat} (h : fhO t m f k) (hc : c < 4 * k) : t.1 352 (32 * f + c) = tY9 (m.1 19 (8 * f + c / 4)) (m.1 20 (8 * f + c / 4)) ((c % 4 : Nat) : Int) := by
  have := h.y (c := c) (j := c / 4) (by omega)
  rw [show 32 * f + 4 * (c / 4) + c % 4 = 32 * f + c by omega] at this
  exact this
/-- floor o of the hall is the model's -/
def hmF (o : Nat) (t m : St) (n : Nat) : Prop := fmF m n ∧ FH o t (m.1 38) (m.1 39) (m.1 40) n
theorem cp_rng {m : St} {n f k d c : Nat} (hF : fmF m n) (hO : fmO m f k) (hd : d < n) (hc : c < 4 * k) : (-400 ≤ cpx m f d c ∧ cpx m f d c ≤ 400) ∧ (-400 ≤ cpy m f d c ∧ cpy m f d c ≤ 400) := by
  have hdd := hF.2.2.1 d hd
  have hcs := hO.2.2.2.2.1 (c / 4) (by omega)
  have cx := tX9_rng (r := ((c % 4 : Nat) : Int)) hcs.1 hcs.2.1
  have cy := tY9_rng (r := ((c % 4 : Nat) : Int)) hcs.1 hcs.2.1
  unfold cpx cpy
  omega
theorem h_whoS {N o : Nat} {t m : St} {n f k d c j : Nat} (hH : hmF o t m n) (hO : fmO m f k) (hd : d < n) (hc : c < 4 * k) (hj : j < k) : f_X3_whoIsAt N o (cpx m f d c + tX9 (m.1 19 (8 * f + j)) (m.1 20 (8 * f + j)) ((c % 4 : Nat) : Int)) (cpy m f d c + tY9 (m.1 19 (8 * f + j)) (m.1 20 (8 * f + j)) ((c % 4 : Nat) : Int)) t = some (wsm m f d c j, t) := by
  have h1 := cp_rng hH.1 hO hd hc
  have hjs := hO.2.2.2.2.1 j hj
  have ex := tX9_rng (r := ((c % 4 : Nat) : Int)) hjs.1 hjs.2.1
  have ey := tY9_rng (r := ((c % 4 : Nat) : Int)) hjs.1 hjs.2.1
  rw [h_who hH.2 hH.1.2 (by omega) (by omega)]
  unfold wsm
  rw [hH.1.1, Int.toNat_natCast]
theorem h_whoIsIn {N o : Nat} {t m : St} {n f k d c j : Nat} (hH : hmF o t m n) (hO : fmO m f k) (hf : fhO t m f k) (hd : d < n) (hc : c < 4 * k) (hj : j < k) : f_X2_whoIsIn N o f c d j t = some (wsm m f d c j, t) := by
  have h64 := hH.1.2.1
  have hf40 := hO.1
  have hk8 := hO.2.2.2.1
  have hdd := hH.2.2.1 d hd
  have ec2 : ((c : Int) % 4) = ((c % 4 : Nat) : Int) := by omega
  have e1 : ((((f : Int) * 8) * 4) + (c : Int)).toNat = 32 * f + c := by omega
  have e2 : (((((f : Int) * 8) * 4) + (4 * (j : Int))) + ((c % 4 : Nat) : Int)).toNat = 32 * f + 4 * j + c % 4 := by omega
  unfold f_X2_whoIsIn
  simp only [lt1_k, ec2, Int.toNat_natCast, e1, e2]
  rw [ixI_ok (by omega), ixI_ok (by omega), ixI_ok (by omega), ixI_ok (by omega), ixI_ok (by omega), ixI_ok (by omega), hf.x hj, hf.y hj, hf.cx hc, hf.cy hc, hdd.1, hdd.2.1]
  have := h_whoS (N := N) hH hO hd hc hj
  unfold cpx cpy at this
  rw [this, bdI_s]
theorem h_membersL {N o : Nat} {t m : St} {n f k d c : Nat} {s : Int64} (hH : hmF o t m n) (hO : fmO m f k) (hf : fhO t m f k) (hd : d < n) (hc : c < 4 * k) (K : Int64 → St → Option (Int64 × St)) : ∀ (i j q : Nat), j + i = k → i < q → fitb m f d c s j = true →
    f_X2_membersOf_L63 N o K f s ((c % 4 : Nat) : Int) (((f : Int) * 8) * 4) (cpx m f d c) (cpy m f d c) q (mk9 (wsm m f d c) j) j t = (if fitb m f d c s k = true then K (mk9 (wsm m f d c) k) t else some (0, t)) := by
  have h64 := hH.1.2.1
  have hf40 := hO.1
  have hk8 := hO.2.2.2.1
  intro i
  induction i with
  | zero =>
    intro j q h1 h2 h3
    obtain ⟨q, rfl⟩ : ∃ k, q = k + 1 := ⟨q - 1, by omega⟩
    have hj : j = k := by omega
    subst hj
    unfold f_X2_membersOf_L63
    rw [ixI_ok (by omega), lt1_k, Int.toNat_natCast, hf.1, cmpI_ok (by omega), if_neg (by omega), if_pos h3]
  | succ i ih =>
    intro j q h1 h2 h3
    obtain ⟨q, rfl⟩ : ∃ k, q = k + 1 := ⟨q - 1, by omega⟩
    have hjs := hO.2.2.2.2.1 j (by omega)
    have hlk := (hf.2 j (by omega)).2
    have hno : okb m f d c s j = false → some ((0 : Int64), t) = (if fitb m f d c s k = true then K (mk9 (wsm m f d c) k) t else some (0, t)) := by
      intro hb
      rw [if_neg (by rw [fitb_no (k := k) hb (by omega)]; decide)]
    have hc4 : c % 4 < 4 := Nat.mod_lt _ (by decide)
    have e2 : (((((f : Int) * 8) * 4) + (4 * (j : Int))) + ((c % 4 : Nat) : Int)).toNat = 32 * f + 4 * j + c % 4 := by omega
    have e3 : (((f : Int) * 8) + (j : Int)).toNat = 8 * f + j := by omega
    have e4 : ((j : Int) + 1) = ((j + 1 : Nat) : Int) := by omega
    have hw := wsm_rng (f := f) (d := d) (c := c) (j := j) hH.1
    unfold f_X2_membersOf_L63
    simp only [lt1_k, jn1_k, Int.toNat_natCast, e2, e3]
    rw [ixI_ok (by omega), hf.1, cmpI_ok (by omega), if_pos (by omega), ixI_ok (by omega), ixI_ok (by omega), hf.x (by omega), hf.y (by omega), h_whoS hH hO hd hc (by omega), bdI_s, cmpI_ok (by omega)]
    by_cases hw0 : wsm m f d c j < 0
    · rw [if_pos hw0]
      refine hno ?_
      unfold okb
      rw [decide_eq_false (by omega : ¬ 0 ≤ wsm m f d c j)]; rfl
    · obtain ⟨w, hw1⟩ := Int.eq_ofNat_of_zero_le (show 0 ≤ wsm m f d c j by omega)
      rw [if_neg hw0, hw1]
      simp only [bq_h (show w < 64 by omega), Int.toNat_natCast]
      by_cases hb : bq s w = true
      · rw [if_neg (by rw [hb]; decide), ixI_ok (by omega), hlk]
        have hwv := hH.2.2.1 w (by omega)
        have hWw := (hH.1.2.2.1 w (by omega)).2.2
        generalize hrl : (if m.1 22 (8 * f + j) = 0 then (2 : Int) else m.1 22 (8 * f + j) - 1) = rl
        have hrl2 : 0 ≤ rl ∧ rl ≤ 2 := by
          rw [← hrl]; split <;> omega
        have em : (m.1 21 (8 * f + j) + 8 * rl) % 8 = m.1 21 (8 * f + j) := by omega
        have ed : (m.1 21 (8 * f + j) + 8 * rl) / 8 = rl := by omega
        rw [rnI_ok (by omega), em, ed, cmpI_ok (by omega), ixI_ok (by omega), cmpI_ok (by omega), cmpI_ok (by omega), cmpI_ok (by omega), e4]
        simp only [hwv.2.2]
        have hgo : okb m f d c s j = true → f_X2_membersOf_L63 N o K f s ((c % 4 : Nat) : Int) (((f : Int) * 8) * 4) (cpx m f d c) (cpy m f d c) q (mk9 (wsm m f d c) j ||| shlL 1 (w : Int)) ((j + 1 : Nat) : Int) t = (if fitb m f d c s k = true then K (mk9 (wsm m f d c) k) t else some (0, t)) := by
          intro hb
          have := ih (j + 1) q (by omega) (by omega) (by unfold fitb; rw [h3, hb]; rfl)
          rw [show mk9 (wsm m f d c) (j + 1) = mk9 (wsm m f d c) j ||| shlL 1 (wsm m f d c j) from rfl, hw1] at this
          exact this
        have hob : okb m f d c s j = ((decide (4 ≤ m.1 21 (8 * f + j)) || decide (m.1 40 w = (m.1 21 (8 * f + j) + ((c % 4 : Nat) : Int)) % 4)) && (decide (m.1 22 (8 * f + j) ≤ 0) || decide ((w : Int) % 2 = m.1 22 (8 * f + j) - 1))) := by
          unfold okb
          rw [hw1, Int.toNat_natCast, hb]
          simp
        have hr : (rl = 2 ∨ rl = (w : Int) % 2) ↔ (m.1 22 (8 * f + j) ≤ 0 ∨ (w : Int) % 2 = m.1 22 (8 * f + j) - 1) := by
          rw [← hrl]; split <;> omega
        by_cases q1 : m.1 21 (8 * f + j) = 4 ∨ (m.1 21 (8 * f + j) + ((c % 4 : Nat) : Int)) % 4 = m.1 40 w
        · have hA : (decide (4 ≤ m.1 21 (8 * f + j)) || decide (m.1 40 w = (m.1 21 (8 * f + j) + ((c % 4 : Nat) : Int)) % 4)) = true := by
            rw [Bool.or_eq_true, decide_eq_true_iff, decide_eq_true_iff]; omega
          rw [hA, Bool.true_and] at hob
          have hjj : ∀ Z : Option (Int64 × St), (if rl = 2 then Z else (if rl = (w : Int) % 2 then Z else some (0, t))) = (if okb m f d c s j = true then Z else some (0, t)) := by
            intro Z
            by_cases q3 : rl = 2 ∨ rl = (w : Int) % 2
            · have : okb m f d c s j = true := by rw [hob, Bool.or_eq_true, decide_eq_true_iff, decide_eq_true_iff]; exact hr.mp q3
              rw [if_pos this]
              by_cases q4 : rl = 2
              · rw [if_pos q4]
              · rw [if_neg q4, if_pos (by omega)]
            · have : ¬ okb m f d c s j = true := by rw [hob, Bool.or_eq_true, decide_eq_true_iff, decide_eq_true_iff]; exact fun h => q3 (hr.mpr h)
              rw [if_neg this, if_neg (by omega), if_neg (by omega)]
          have hz : (if okb m f d c s j = true then f_X2_membersOf_L63 N o K f s ((c % 4 : Nat) : Int) (((f : Int) * 8) * 4) (cpx m f d c) (cpy m f d c) q (mk9 (wsm m f d c) j ||| shlL 1 (w : Int)) ((j + 1 : Nat) : Int) t else some (0, t)) = (if fitb m f d c s k = true then K (mk9 (wsm m f d c) k) t else some (0, t)) := by
            cases hb2 : okb m f d c s j with
            | true => rw [if_pos rfl]; exact hgo hb2
            | false => rw [if_neg (by decide)]; exact hno hb2
          rw [hjj]
          by_cases q2 : m.1 21 (8 * f + j) = 4
          · rw [if_pos q2]; exact hz
          · rw [if_neg q2, if_pos (by omega)]; exact hz
        · rw [if_neg (by omega), if_neg (by omega)]
          refine hno ?_
          rw [hob]
          rw [decide_eq_false (by omega), decide_eq_false (by omega)]; rfl
      · have hb' : bq s w = false := by cases h9 : bq s w with
          | true => exact absurd h9 hb
          | false => rfl
        rw [if_pos hb']
        refine hno ?_
        unfold okb
        rw [hw1, Int.toNat_natCast, hb']
        simp
theorem h_members {N o : Nat} {t m : St} {n f k d c : Nat} {s : Int64} (hH : hmF o t m n) (hO : fmO m f k) (hf : fhO t m f k) (hd : d < n) (hc : c < 4 * k) (hN : 10 ≤ N) :
    f_X2_membersOf N o f c d s t = some ((if fitb m f d c s k = true then mk9 (wsm m f d c) k else 0), t) := by
  have h64 := hH.1.2.1
  have hf40 := hO.1
  have hk8 := hO.2.2.2.1
  have hdd := hH.2.2.1 d hd
  have ec2 : ((c : Int) % 4) = ((c % 4 : Nat) : Int) := by omega
  have e1 : ((((f : Int) * 8) * 4) + (c : Int)).toNat = 32 * f + c := by omega
  unfold f_X2_membersOf
  simp only [lt1_k, ec2, Int.toNat_natCast, e1]
  rw [ixI_ok (by omega), ixI_ok (by omega), ixI_ok (by omega), ixI_ok (by omega), hf.cx hc, hf.cy hc, hdd.1, hdd.2.1]
  have := h_membersL (N := N) (s := s) hH hO hf hd hc (fun (k26 : Int64) (t27 : St) => some (k26, t27)) k 0 N (by omega) (by omega) rfl
  unfold cpx cpy at this
  refine Eq.trans this ?_
  split <;> rfl
/-! the set of a copy -/
theorem bq_mk {w : Nat → Int} : ∀ (k : Nat), (∀ j, j < k → 0 ≤ w j ∧ w j < 64) → ∀ e, e < 64 → (bq (mk9 w k) e = true ↔ ∃ j, j < k ∧ w j = e) := by
  intro k
  induction k with
  | zero => intro _ e he; unfold mk9; rw [bq_0]; constructor
            · intro h; cases h
            · intro ⟨j, h, _⟩; omega
  | succ k ih =>
    intro hw e he
    unfold mk9
    have hk := hw k (by omega)
    obtain ⟨v, hv⟩ := Int.eq_ofNat_of_zero_le hk.1
    rw [bq_or, Bool.or_eq_true, ih (fun j hj => hw j (by omega)) e he, hv, bq_1 (by omega) he, decide_eq_true_iff]
    constructor
    · intro h
      rcases h with ⟨j, h1, h2⟩ | h
      · exact ⟨j, by omega, h2⟩
      · exact ⟨k, by omega, by rw [hv, h]⟩
    · intro ⟨j, h1, h2⟩
      by_cases hjk : j = k
      · right; rw [hjk, hv] at h2; omega
      · left; exact ⟨j, by omega, h2⟩
theorem fit_w {m : St} {n f k d c : Nat} {s : Int64} (hF : fmF m n) (h : fitb m f d c s k = true) {j : Nat} (hj : j < k) : ∃ w : Nat, wsm m f d c j = w ∧ w < n ∧ bq s w = true := okb_0 hF (fitb_le h hj)
theorem fit_inj {m : St} {n f k d c : Nat} {s : Int64} (hF : fmF m n) (hO : fmO m f k) (h : fitb m f d c s k = true) {i j : Nat} (hi : i < k) (hj : j < k) (he : wsm m f d c i = wsm m f d c j) : i = j := by
  obtain ⟨w, h1, h2, h3⟩ := fit_w hF h hi
  have h4 : wsm m f d c j = w := by rw [← he, h1]
  unfold wsm at h1 h4
  have a1 := who9_at h1
  have a2 := who9_at h4
  have := t9_inj (x := m.1 19 (8 * f + i)) (y := m.1 20 (8 * f + i)) (x2 := m.1 19 (8 * f + j)) (y2 := m.1 20 (8 * f + j)) (r := ((c % 4 : Nat) : Int)) (by have b1 := a1.2.1; have b2 := a2.2.1; omega) (by have b1 := a1.2.2; have b2 := a2.2.2; omega)
  exact hO.2.2.2.2.2 i j hi hj this.1 this.2
theorem fit_mk {m : St} {n f k d c : Nat} {s : Int64} (hF : fmF m n) (h : fitb m f d c s k = true) {e : Nat} (he : e < 64) : bq (mk9 (wsm m f d c) k) e = true ↔ ∃ j, j < k ∧ wsm m f d c j = e := by
  refine bq_mk k (fun j hj => ?_) e he
  obtain ⟨w, h1, h2, h3⟩ := fit_w hF h hj
  have := hF.2.1
  omega
theorem fit_sub {m : St} {n f k d c : Nat} {s : Int64} (hF : fmF m n) (h : fitb m f d c s k = true) {e : Nat} (he : e < 64) (hb : bq (mk9 (wsm m f d c) k) e = true) : bq s e = true ∧ e < n := by
  obtain ⟨j, h1, h2⟩ := (fit_mk hF h he).mp hb
  obtain ⟨w, h3, h4, h5⟩ := fit_w hF h h1
  have : w = e := by omega
  subst this
  exact ⟨h5, h4⟩
theorem fit_nz {m : St} {n f k d c : Nat} {s : Int64} (hF : fmF m n) (hO : fmO m f k) (h : fitb m f d c s k = true) : mk9 (wsm m f d c) k ≠ 0 := by
  intro h0
  obtain ⟨w, h3, h4, h5⟩ := fit_w hF h (show 0 < k from hO.2.2.1)
  have h64 := hF.2.1
  have := (fit_mk hF h (show w < 64 by omega)).mpr ⟨0, hO.2.2.1, h3⟩
  rw [h0, bq_0] at this; cases this
