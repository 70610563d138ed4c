/-! a partition: both sides -/
theorem p_part {N o : Nat} {t m : St} {n f k : Nat} {all : Int64} (ho : o < 2) (hH : hmF o t m n) (hor : hoO o t m n) (hO : fmO m f k) (hf : fhO t m f k) (hall : ∀ e, e < 64 → bq all e = true → e < n) (hN : 2000 ≤ N) :
    PRES t m m n f k all (f_X2_part N o f all t) (f_X12_parted N all f m) := by
  have h64 := hH.1.2.1
  have hf40 := hO.1
  have hk1 := hO.2.2.1
  have hk8 := hO.2.2.2.1
  have hcn := cnb_le (s := all) 64
  have hm1 : mfr m (pI (pI m 200 88 0) 200 85 0) := (mfr.F (by omega)).tr (mfr.F (by omega))
  have hf1 : hfp t (pI t 311 9 0) := hfp.F
  have hmd1 : 0 ≤ (cnb all 64 : Int) % (k : Int) := Int.emod_nonneg _ (by omega)
  have hmd2 : (cnb all 64 : Int) % (k : Int) < k := Int.emod_lt_of_pos _ (by omega)
  -- the model
  have hmod : f_X12_parted N all f m = (if (cnb all 64 : Int) % (k : Int) = 0 then bdV (f_X12_sort N (pI (pI m 200 88 0) 200 85 0)) fun t6 => f_X12_parted_L40 N (fun (t67 : St) => some (1, t67)) all f k N all 0 t6 else some (0, pI (pI m 200 88 0) 200 85 0)) := by
    unfold f_X12_parted
    simp only [lt1_k]
    rw [ixI_ok (by omega), Int.toNat_natCast, (hO.fr hm1).2.1, s_sizeOf (by omega), bdI_s, dvI_ok (by omega), cmpI_ok (by omega)]
  have hhal : f_X2_part N o f all t = (if (cnb all 64 : Int) % (k : Int) = 0 then bdI (f_X3_firstOf N o all 0 (pI t 311 9 0)) fun v6 t5 => f_X2_part_L62 N o (fun (k49 : Int64) (t50 : St) => (if k49 = (0 : Int64) then (some (0, t50)) else (some (4, t50)))) f k N all 0 0 (pI (pI t5 382 0 v6) 383 0 (-1)) else some (3, pI t 311 9 0)) := by
    unfold f_X2_part
    simp only [lt1_k]
    rw [ixI_ok (by omega), Int.toNat_natCast, hf.1, cmpI_ok (by omega), if_neg (by omega), h_bitCount, bdI_s, dvI_ok (by omega), cmpI_ok (by omega)]
    simp only [ixI_ok (show (0 : Int) ≤ 0 ∧ (0 : Int) < ((65 : Nat) : Int) by omega)]
    rfl
  rw [hmod, hhal]
  by_cases hdv : (cnb all 64 : Int) % (k : Int) = 0
  · rw [if_pos hdv, if_pos hdv]
    obtain ⟨A, a1, a2⟩ := s_sort (N := N) (m := pI (pI m 200 88 0) 200 85 0) rfl rfl (hH.1.fr hm1).1 (hH.1.fr hm1).2 (by omega)
    rw [a1, bdV_s]
    have hfo := h_firstOf (N := N) (o := o) (t := pI t 311 9 0) (M := m) (n := n) (s := all) (j := 0) h64 (by rw [hf1.1 (305 + o) (by omega) (by omega) (by omega)]; exact hH.2.1) (hor.fr hf1.hfr ho) (by omega) (fun j hj => by omega) (by omega)
    rw [show ((0 : Nat) : Int) = 0 from rfl] at hfo
    rw [hfo, bdI_s]
    generalize hi2 : (if fo9 m n all = -1 then (n : Int) else fo9 m n all) = i2
    have hft : hfp t (pI (pI (pI t 311 9 0) 382 0 i2) 383 0 (-1)) := (hf1.tr (hfp.I (by omega))).tr (hfp.I (by omega))
    have hfm : mfr m (pA (pI (pI m 200 88 0) 200 85 0) 80 A) := hm1.tr (mfr.A (by omega))
    have w9 : (pI (pI (pI t 311 9 0) 382 0 i2) 383 0 (-1)).1 311 9 = ((0 : Nat) : Int) := by rw [pI_ne (by decide), pI_ne (by decide), pI_at]; rfl
    have w88 : (pA (pI (pI m 200 88 0) 200 85 0) 80 A).1 200 88 = ((0 : Nat) : Int) := by rw [pA_ne (by decide), pI_nf (by decide), pI_at]; rfl
    have w85 : (pA (pI (pI m 200 88 0) 200 85 0) 80 A).1 200 85 = ((0 : Nat) : Int) := by rw [pA_ne (by decide), pI_at]; rfl
    obtain ⟨q, hq⟩ : ∃ q, N = q + 1 := ⟨N - 1, by omega⟩
    by_cases hz : all = 0
    · refine ⟨0, 1, _, _, ?_, ?_, hft, hfm, Or.inr (Or.inr ⟨rfl, rfl, 0, fun _ => 0, by omega, w9, w88, ⟨hz.symm, fun j hj => by omega⟩, rfl⟩)⟩
      · conv => lhs; rw [hq]
        unfold f_X2_part_L62
        rw [cmpI_ok (by omega), if_neg (by omega), if_pos hz, if_pos hz]
      · conv => lhs; rw [hq]
        rw [pL40, if_pos hz]
    · obtain ⟨i, z1, z2, z3, z4⟩ := fo9_some (m := m) (n := n) hz hall
      have h80 : ∀ j, j < n → (pA (pI (pI m 200 88 0) 200 85 0) 80 A).1 80 j = (odM m n j : Int) := by
        intro j hj
        rw [pA_at, a2 j hj, pI_ne (by decide), pI_ne (by decide), pI_ne (by decide), pI_ne (by decide)]
        exact (odM_lt hj).2
      have hL : f_X12_parted_L40 N (fun (t67 : St) => some (1, t67)) all f k N all 0 (pA (pI (pI m 200 88 0) 200 85 0) 80 A) = f_X12_parted_L58 N (pKK N (fun (t67 : St) => some (1, t67)) all f k q all (odM m n i)) f k all (odM m n i) N 0 0 (pA (pI (pI m 200 88 0) 200 85 0) 80 A) := by
        conv => lhs; arg 6; rw [hq]
        rw [pL40, if_neg hz, s_firstOf h64 h80 z2 z3 z4 (by omega), bdI_s]
      rw [hL]
      have := p_joint (N := N) (o := o) (t0 := t) (m0 := m) (M := m) (n := n) (f := f) (k := k) (all := all) ho hH hor hO hf mfr.rf hN 802 0 i 0 0 0 (fun _ => all) (pI (pI (pI t 311 9 0) 382 0 i2) 383 0 (-1)) (pA (pI (pI m 200 88 0) 200 85 0) 80 A) N q N (by omega) (by omega) (by omega) (by omega) (by omega) (by omega) hft hfm h80 ⟨rfl, fun j hj => by omega⟩ hz hall w9 w88 w85 (by rw [pI_at]; rfl) (by omega) (by rw [pI_ne (by decide), pI_at, ← hi2, z1, if_neg (by omega)]) z2 z3 z4 (by omega)
      exact this
  · rw [if_neg hdv, if_neg hdv]
    exact ⟨3, 0, _, _, rfl, rfl, hf1, hm1, Or.inl ⟨rfl, rfl⟩⟩
/-! home: both sides -/
def cdZ (x y w : Int) : Int := ((y * 16) + (x / 4)) * 4 + w
theorem h_codeOf {N : Nat} {x y w : Int} {t : St} (hx : ok4 x) (hy : ok4 y) (hw : 0 ≤ w ∧ w ≤ 3) : f_X3_codeOf N x y w t = some (cdZ x y w, t) := by
  unfold f_X3_codeOf cdZ
  rw [rnI_ok (by omega), ior_c (by omega) (by omega)]
theorem h_codeAt {N o d n : Nat} {t : St} {X Y W : Nat → Int} (hF : FH o t X Y W n) (hV : FXs X Y W n) (hd : d < n) : f_X3_codeAt N o d t = some (cdZ (X d) (Y d) (W d), t) := by
  have h64 := hV.1
  have h1 := hV.2.1 d hd
  have h2 := hF.2.1 d hd
  unfold f_X3_codeAt
  simp only [lt1_k, Int.toNat_natCast]
  rw [ixI_ok (by omega), ixI_ok (by omega), ixI_ok (by omega), h2.1, h2.2.1, h2.2.2, h_codeOf h1.1 h1.2.1 h1.2.2, bdI_s]
theorem cdZ_inj {x y w x2 y2 w2 : Int} (hx : ok4 x) (hy : ok4 y) (hw : 0 ≤ w ∧ w ≤ 3) (hx2 : ok4 x2) (hy2 : ok4 y2) (hw2 : 0 ≤ w2 ∧ w2 ≤ 3) : cdZ x y w = cdZ x2 y2 w2 ↔ x = x2 ∧ y = y2 ∧ w = w2 := by
  unfold cdZ
  constructor
  · intro h; omega
  · intro h; rw [h.1, h.2.1, h.2.2]
theorem cdZ_rng {x y w : Int} (hx : ok4 x) (hy : ok4 y) (hw : 0 ≤ w ∧ w ≤ 3) : 0 ≤ cdZ x y w ∧ cdZ x y w < 16384 := by
  unfold cdZ; omega
/-- whether all are at some codes -/
def atB (C X Y W : Nat → Int) : Nat → Nat → Bool
  | 0, _ => true
  | i + 1, d => decide (C d = cdZ (X d) (Y d) (W d)) && atB C X Y W i (d + 1)
theorem h_isAtL {N o n : Nat} {t : St} {X Y W : Nat → Int} {q0 : Nat} (hF : FH o t X Y W n) (hV : FXs X Y W n) (hq : ∀ d, d < n → inR (t.1 q0 d)) (K : St → Option (Int × St)) : ∀ (i d q : Nat), d + i = n → i < q →
    f_X3_isAt_L2 N o q0 64 K q d t = (if atB (t.1 q0) X Y W i d = true then K t else some (0, t)) := by
  have h64 := hV.1
  intro i
  induction i with
  | zero =>
    intro d q h1 h2
    obtain ⟨q, rfl⟩ : ∃ k, q = k + 1 := ⟨q - 1, by omega⟩
    unfold f_X3_isAt_L2 atB
    rw [lt1_k, hF.1, cmpI_ok (by omega), if_neg (by omega), if_pos rfl]
  | succ i ih =>
    intro d q h1 h2
    obtain ⟨q, rfl⟩ : ∃ k, q = k + 1 := ⟨q - 1, by omega⟩
    have h3 := hV.2.1 d (by omega)
    have h4 := cdZ_rng h3.1 h3.2.1 h3.2.2
    have h5 := hq d (by omega)
    unfold f_X3_isAt_L2
    rw [lt1_k, hF.1, cmpI_ok (by omega), if_pos (by omega), cmpI_ok (by omega), if_pos (by omega), ixI_ok (by omega), lt1_k, Int.toNat_natCast, h_codeAt hF hV (by omega), bdI_s, cmpI_ok (by omega), boI_0, show ((d : Int) + 1) = ((d + 1 : Nat) : Int) by omega, ih (d + 1) q (by omega) (by omega)]
    rw [show atB (t.1 q0) X Y W (i + 1) d = (decide (t.1 q0 d = cdZ (X d) (Y d) (W d)) && atB (t.1 q0) X Y W i (d + 1)) from rfl]
    by_cases h6 : t.1 q0 d = cdZ (X d) (Y d) (W d)
    · rw [if_pos h6, decide_eq_true h6, Bool.true_and]
    · rw [if_neg h6, decide_eq_false h6, Bool.false_and, if_neg (by decide)]
theorem h_isAt {N o n : Nat} {t : St} {X Y W : Nat → Int} {q0 : Nat} (hF : FH o t X Y W n) (hV : FXs X Y W n) (hq : ∀ d, d < n → inR (t.1 q0 d)) (hN : 65 ≤ N) : f_X3_isAt N o q0 64 t = some ((if atB (t.1 q0) X Y W n 0 = true then 1 else 0), t) := by
  have h64 := hV.1
  unfold f_X3_isAt
  have := h_isAtL (N := N) hF hV hq (fun (t8 : St) => boI 1 (some (1, t8))) n 0 N (by omega) (by omega)
  rw [show ((0 : Nat) : Int) = 0 from rfl] at this
  rw [this, boI_1]
  split <;> rfl
def atM (A B C X Y W : Nat → Int) : Nat → Nat → Bool
  | 0, _ => true
  | i + 1, d => (decide (X d = A d) && (decide (Y d = B d) && decide (W d = C d))) && atM A B C X Y W i (d + 1)
theorem s_homeL {n : Nat} {m : St} (hF : fmF m n) (hq : ∀ d, d < n → inR (m.1 44 d) ∧ inR (m.1 45 d) ∧ inR (m.1 46 d)) (K : Int → St → Option (Int × St)) : ∀ (i d q : Nat) (b : Bool), d + i = n → i < q →
    f_X12_isHome_L4 K q (if b = true then 1 else 0) d m = K (if (b && atM (m.1 44) (m.1 45) (m.1 46) (m.1 38) (m.1 39) (m.1 40) i d) = true then 1 else 0) m := by
  have h64 := hF.2.1
  intro i
  induction i with
  | zero =>
    intro d q b h1 h2
    obtain ⟨q, rfl⟩ : ∃ k, q = k + 1 := ⟨q - 1, by omega⟩
    unfold f_X12_isHome_L4 atM
    rw [lt1_k, hF.1, cmpI_ok (by omega), if_neg (by omega), Bool.and_true]
  | succ i ih =>
    intro d q b h1 h2
    obtain ⟨q, rfl⟩ : ∃ k, q = k + 1 := ⟨q - 1, by omega⟩
    have h3 := hF.2.2.1 d (by omega)
    have h5 := hq d (by omega)
    unfold f_X12_isHome_L4
    simp only [lt1_k, jn1_k, Int.toNat_natCast]
    rw [hF.1, cmpI_ok (by omega), if_pos (by omega), cmpI_ok (by cases b <;> decide), ixI_ok (by omega), ixI_ok (by omega), cmpI_ok (by omega), ixI_ok (by omega), ixI_ok (by omega), cmpI_ok (by omega), ixI_ok (by omega), ixI_ok (by omega), cmpI_ok (by omega), show ((d : Int) + 1) = ((d + 1 : Nat) : Int) by omega]
    rw [show atM (m.1 44) (m.1 45) (m.1 46) (m.1 38) (m.1 39) (m.1 40) (i + 1) d = ((decide (m.1 38 d = m.1 44 d) && (decide (m.1 39 d = m.1 45 d) && decide (m.1 40 d = m.1 46 d))) && atM (m.1 44) (m.1 45) (m.1 46) (m.1 38) (m.1 39) (m.1 40) i (d + 1)) from rfl]
    have i0 := ih (d + 1) q false (by omega) (by omega)
    have i1 := ih (d + 1) q true (by omega) (by omega)
    simp only [Bool.false_and, Bool.true_and, if_true, show ¬ (false = true) by decide, if_false] at i0 i1
    cases b with
    | false =>
      rw [if_neg (by decide : ¬ (false = true)), if_pos rfl, Bool.false_and, if_neg (by decide : ¬ (false = true))]
      exact i0
    | true =>
      rw [if_pos rfl, if_neg (by decide), Bool.true_and]
      by_cases g1 : m.1 38 d = m.1 44 d
      · rw [if_pos g1, decide_eq_true g1]
        by_cases g2 : m.1 39 d = m.1 45 d
        · rw [if_pos g2, decide_eq_true g2]
          by_cases g3 : m.1 40 d = m.1 46 d
          · rw [if_pos g3, decide_eq_true g3]; simp only [Bool.true_and]; exact i1
          · rw [if_neg g3, decide_eq_false g3]; simp only [Bool.true_and, Bool.false_and, show ¬ (false = true) by decide, if_false]; exact i0
        · rw [if_neg g2, decide_eq_false g2]; simp only [Bool.true_and, Bool.false_and, show ¬ (false = true) by decide, if_false]; exact i0
      · rw [if_neg g1, decide_eq_false g1]; simp only [Bool.false_and, show ¬ (false = true) by decide, if_false]; exact i0
theorem s_isHome {N n : Nat} {m : St} (hF : fmF m n) (hq : ∀ d, d < n → inR (m.1 44 d) ∧ inR (m.1 45 d) ∧ inR (m.1 46 d)) (hN : 65 ≤ N) : f_X12_isHome N m = some ((if atM (m.1 44) (m.1 45) (m.1 46) (m.1 38) (m.1 39) (m.1 40) n 0 = true then 1 else 0), m) := by
  have h64 := hF.2.1
  unfold f_X12_isHome
  have := s_homeL hF hq (fun (k17 : Int) (t18 : St) => boI k17 (some (k17, t18))) n 0 N true (by omega) (by omega)
  rw [if_pos rfl, Bool.true_and, show ((0 : Nat) : Int) = 0 from rfl] at this
  rw [this]
  split
  · rw [boI_1]
  · rw [boI_0]
/-- codes and places say the same -/
theorem at_eq {C A B D X Y W : Nat → Int} {n : Nat} (hV : FXs X Y W n) (hc : ∀ d, d < n → ok4 (A d) ∧ ok4 (B d) ∧ (0 ≤ D d ∧ D d ≤ 3) ∧ C d = cdZ (A d) (B d) (D d)) : ∀ i d, d + i = n → atB C X Y W i d = atM A B D X Y W i d := by
  intro i
  induction i with
  | zero => intro d _; rfl
  | succ i ih =>
    intro d hd
    have h1 := hV.2.1 d (by omega)
    have h2 := hc d (by omega)
    unfold atB atM
    rw [ih (d + 1) (by omega), h2.2.2.2]
    congr 1
    have := cdZ_inj h2.1 h2.2.1 h2.2.2.1 h1.1 h1.2.1 h1.2.2
    apply Bool.eq_iff_iff.mpr
    rw [decide_eq_true_iff, Bool.and_eq_true, Bool.and_eq_true, decide_eq_true_iff, decide_eq_true_iff, decide_eq_true_iff, this]
    constructor
    · intro h; exact ⟨h.1.symm, h.2.1.symm, h.2.2.symm⟩
    · intro h; exact ⟨h.1.symm, h.2.1.symm, h.2.2.symm⟩
