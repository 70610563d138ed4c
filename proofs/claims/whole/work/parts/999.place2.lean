/-! the hall's order; a floor is laid out -/
theorem lt_sp {X Y W : Nat → Int} {n d e : Nat} (hV : FXs X Y W n) (hd : d < n) (he : e < n) : ((spt (X d) (Y d) : Int) < (spt (X e) (Y e) : Int)) ↔ lt9 X Y d (e : Int) = true := by
  have a := hV.2.1 d hd
  have b := hV.2.1 e he
  unfold lt9 spt
  rw [Int.toNat_natCast, Bool.or_eq_true, Bool.and_eq_true, decide_eq_true_iff, decide_eq_true_iff, decide_eq_true_iff]
  omega
theorem h_codeA {N o d n : Nat} {t : St} {X Y W A : Nat → Int} (hF : ∀ d, d < n → t.1 (390 + 10 * o) d = X d ∧ t.1 (391 + 10 * o) d = Y d ∧ t.1 (392 + 10 * o) d = W d) (hV : FXs X Y W n) (hd : d < n) : f_X3_codeAt N o d (pA t (395 + 10 * o) A) = some (cdZ (X d) (Y d) (W d), pA t (395 + 10 * o) A) := by
  have h64 := hV.1
  have h1 := hV.2.1 d hd
  have h2 := hF d hd
  unfold f_X3_codeAt
  simp only [lt1_k, Int.toNat_natCast, pA_ne (show 390 + 10 * o ≠ 395 + 10 * o by omega), pA_ne (show 391 + 10 * o ≠ 395 + 10 * o by omega), pA_ne (show 392 + 10 * o ≠ 395 + 10 * o by omega)]
  rw [ixI_ok (by omega), ixI_ok (by omega), ixI_ok (by omega), h2.1, h2.2.1, h2.2.2, h_codeOf h1.1 h1.2.1 h1.2.2, bdI_s]
theorem h_insL {N o d n : Nat} {t : St} {X Y W : Nat → Int} (hF : ∀ d, d < n → t.1 (390 + 10 * o) d = X d ∧ t.1 (391 + 10 * o) d = Y d ∧ t.1 (392 + 10 * o) d = W d) (hV : FXs X Y W n) (hd : d < n) (K : Int → St → Option St) (K2 : St → Option St)
    (hK : ∀ (k : Nat) (t : St), k ≤ d → K k t = K2 (pI t (395 + 10 * o) k d)) : ∀ (i q : Nat) (A : Nat → Int), i ≤ d → i < q → (∀ j, j < i → ∃ e : Nat, e < n ∧ A j = e) →
    f_X3_sort_L20 N o K (spt (X d) (Y d)) q i (pA t (395 + 10 * o) A) = K2 (pA t (395 + 10 * o) (ins9 (lt9 X Y) d i A)) := by
  have h64 := hV.1
  have hdd := hV.2.1 d hd
  have hds := cd_sp hdd.1 hdd.2.1 hdd.2.2
  intro i
  induction i with
  | zero =>
    intro q A h1 h2 h3
    obtain ⟨q, rfl⟩ : ∃ k, q = k + 1 := ⟨q - 1, by omega⟩
    unfold f_X3_sort_L20 ins9
    rw [cmpI_ok (by omega), if_neg (by omega), hK 0 _ (by omega), pA_I]
  | succ i ih =>
    intro q A h1 h2 h3
    obtain ⟨q, rfl⟩ : ∃ k, q = k + 1 := ⟨q - 1, by omega⟩
    obtain ⟨e, h4, h5⟩ := h3 i (by omega)
    have hee := hV.2.1 e h4
    have hes := cd_sp hee.1 hee.2.1 hee.2.2
    have her := cdZ_rng hee.1 hee.2.1 hee.2.2
    unfold f_X3_sort_L20
    rw [show ins9 (lt9 X Y) d (i + 1) A = (if lt9 X Y d (A i) = true then ins9 (lt9 X Y) d i (fup A (i + 1) (A i)) else fup A (i + 1) d) from rfl]
    have e1 : (((i + 1 : Nat) : Int) - 1) = (i : Int) := by omega
    have e2 : (((i + 1 : Nat) : Int) + (-1)) = (i : Int) := by omega
    simp only [lt1_k, e1, e2, Int.toNat_natCast, pA_at]
    rw [cmpI_ok (by omega), if_pos (by omega), ixI_ok (by omega), h5, h_codeA hF hV h4, bdI_s, rnI_ok (by omega), hes.1, cmpI_ok (by omega)]
    by_cases h6 : lt9 X Y d (e : Int) = true
    · rw [if_pos ((lt_sp hV hd h4).mpr h6), if_pos h6, ixI_ok (by omega), pA_at, h5, ixI_ok (by omega), pA_I]
      refine ih q _ (by omega) (by omega) (fun j hj => ?_)
      rw [fup_ne (by omega)]
      exact h3 j (by omega)
    · rw [if_neg (fun h => h6 ((lt_sp hV hd h4).mp h)), if_neg h6, hK (i + 1) _ h1, pA_I]
theorem h_sortL {N o n : Nat} {t : St} {X Y W : Nat → Int} (hsz : t.1 (305 + o) 8 = n) (ho : o < 2) (hF : ∀ d, d < n → t.1 (390 + 10 * o) d = X d ∧ t.1 (391 + 10 * o) d = Y d ∧ t.1 (392 + 10 * o) d = W d) (hV : FXs X Y W n) (hN : 65 ≤ N) (A : Nat → Int) (K : St → Option St) : ∀ (k d q : Nat), d + k = n → k < q →
    f_X3_sort_L2 N o K q d (pA t (395 + 10 * o) (srt9 (lt9 X Y) A d)) = K (pA t (395 + 10 * o) (srt9 (lt9 X Y) A n)) := by
  have h64 := hV.1
  intro k
  induction k with
  | zero =>
    intro d q h1 h2
    obtain ⟨q, rfl⟩ : ∃ k, q = k + 1 := ⟨q - 1, by omega⟩
    have hd : d = n := by omega
    subst hd
    unfold f_X3_sort_L2
    rw [lt1_k, pA_ne (by omega), hsz, cmpI_ok (by omega), if_neg (by omega)]
  | succ k ih =>
    intro d q h1 h2
    obtain ⟨q, rfl⟩ : ∃ k, q = k + 1 := ⟨q - 1, by omega⟩
    have hdd := hV.2.1 d (by omega)
    have hds := cd_sp hdd.1 hdd.2.1 hdd.2.2
    have hdr := cdZ_rng hdd.1 hdd.2.1 hdd.2.2
    unfold f_X3_sort_L2
    rw [lt1_k, pA_ne (by omega), hsz, cmpI_ok (by omega), if_pos (by omega), h_codeA hF hV (by omega), bdI_s, rnI_ok (by omega), hds.1]
    have e : ((d : Int) + 1) = ((d + 1 : Nat) : Int) := by omega
    rw [h_insL (K2 := fun t => f_X3_sort_L2 N o K q ((d + 1 : Nat) : Int) t) hF hV (by omega) _ ?_ d N _ (Nat.le_refl _) (by omega) (fun j hj => ?_)]
    · exact ih (d + 1) q (by omega) (by omega)
    · intro k t hk
      simp only [lt1_k, e, Int.toNat_natCast]
      rw [ixI_ok (by omega)]
    · obtain ⟨e, h3, h4⟩ := srt9_val (L := lt9 X Y) (A := A) d j hj
      exact ⟨e, by omega, h4⟩
theorem h_sort {N o n : Nat} {t : St} {X Y W : Nat → Int} (hsz : t.1 (305 + o) 8 = n) (ho : o < 2) (hF : ∀ d, d < n → t.1 (390 + 10 * o) d = X d ∧ t.1 (391 + 10 * o) d = Y d ∧ t.1 (392 + 10 * o) d = W d) (hV : FXs X Y W n) (hN : 65 ≤ N) : ∃ A : Nat → Int, f_X3_sort N o t = some (pA t (395 + 10 * o) A) ∧ ∀ i, i < n → A i = ord9 X Y n i := by
  refine ⟨srt9 (lt9 X Y) (t.1 (395 + 10 * o)) n, ?_, fun i hi => srt9_cong n i hi⟩
  have := hV.1
  unfold f_X3_sort
  have := h_sortL (N := N) hsz ho hF hV hN (t.1 (395 + 10 * o)) (fun t20 => some t20) n 0 N (by omega) (by omega)
  rw [show srt9 (lt9 X Y) (t.1 (395 + 10 * o)) 0 = t.1 (395 + 10 * o) from rfl, pA_self] at this
  exact this
theorem h_fillL {q0 n0 : Nat} {v : Int64} (hn : n0 ≤ 100000) (K : St → Option St) : ∀ (i d q : Nat) (t : St), d + i = n0 → i < q → ∃ u : St, f_J7_fill_d0a16_L6 q0 n0 K v (n0 : Int) q d t = K u ∧ u.1 = t.1 ∧ (∀ a, a ≠ q0 → u.2 a = t.2 a) ∧ (∀ x, d ≤ x → x < n0 → u.2 q0 x = v) ∧ ∀ x, x < d → u.2 q0 x = t.2 q0 x := by
  intro i
  induction i with
  | zero =>
    intro d q t h1 h2
    obtain ⟨q, rfl⟩ : ∃ k, q = k + 1 := ⟨q - 1, by omega⟩
    refine ⟨t, ?_, rfl, fun _ _ => rfl, fun x h3 h4 => by omega, fun _ _ => rfl⟩
    unfold f_J7_fill_d0a16_L6
    rw [cmpI_ok (by omega), if_neg (by omega)]
  | succ i ih =>
    intro d q t h1 h2
    obtain ⟨q, rfl⟩ : ∃ k, q = k + 1 := ⟨q - 1, by omega⟩
    obtain ⟨u, a1, a2, a3, a4, a5⟩ := ih (d + 1) q (pL t q0 d v) (by omega) (by omega)
    refine ⟨u, ?_, a2, fun a ha => by rw [a3 a ha, pL_ne ha], fun x h3 h4 => ?_, fun x hx => by rw [a5 x (by omega), pL_nf (by omega)]⟩
    · unfold f_J7_fill_d0a16_L6
      rw [cmpI_ok (by omega), if_pos (by omega), ixI_ok (by omega), lt1_k, Int.toNat_natCast, show ((d : Int) + 1) = ((d + 1 : Nat) : Int) by omega]
      exact a1
    · by_cases hx : x = d
      · rw [hx, a5 d (by omega), pL_at]
      · exact a4 x (by omega) h4
theorem h_fill64 {N q0 n0 : Nat} {v : Int64} {t : St} (hn : n0 ≤ 100000) (hN : n0 < N) : ∃ u : St, f_J7_fill_d0a16 N q0 n0 v t = some u ∧ u.1 = t.1 ∧ (∀ a, a ≠ q0 → u.2 a = t.2 a) ∧ ∀ x, x < n0 → u.2 q0 x = v := by
  unfold f_J7_fill_d0a16
  obtain ⟨u, a1, a2, a3, a4, a5⟩ := h_fillL (q0 := q0) (n0 := n0) (v := v) hn (fun (t7 : St) => some t7) n0 0 N t (by omega) hN
  exact ⟨u, a1, a2, a3, fun x hx => a4 x (by omega) hx⟩
/-- what putting changes -/
def hpl (o : Nat) (t u : St) : Prop := (∀ a, a ≠ 305 + o → a ≠ 390 + 10 * o → a ≠ 391 + 10 * o → a ≠ 392 + 10 * o → a ≠ 395 + 10 * o → a ≠ 397 + 10 * o → u.1 a = t.1 a) ∧ (∀ b, b ≠ 8 → b ≠ 9 → u.1 (305 + o) b = t.1 (305 + o) b) ∧ ∀ a, a ≠ 396 + 10 * o → u.2 a = t.2 a
theorem h_place {N o n n1 q0 : Nat} {t : St} {X Y W X1 Y1 W1 : Nat → Int} (ho : o < 2) (hV1 : FXs X1 Y1 W1 n1) (hF1 : FH o t X1 Y1 W1 n1) (hV : FXs X Y W n) (hq : q0 < 305 ∨ (306 < q0 ∧ q0 < 390) ∨ 409 < q0 ∨ q0 = 394 + 10 * o) (hc : ∀ d, d < n → inR (t.1 q0 d) ∧ t.1 q0 d / 4 % 4096 = (spt (X d) (Y d) : Int) ∧ t.1 q0 d % 4 = W d) (hN : 100 ≤ N) :
    ∃ u : St, f_X3_place N o q0 64 n t = some u ∧ FH o u X Y W n ∧ (∀ i, i < n → u.1 (395 + 10 * o) i = ord9 X Y n i) ∧ (∀ f e : Nat, f < 4 → e < 64 → bq (u.2 (396 + 10 * o) f) e = decide (e < n ∧ W e = f)) ∧ u.1 (305 + o) 9 = t.1 (305 + o) 9 + 1 ∧ hpl o t u := by
  have h64 := hV.1
  have h641 := hV1.1
  have hst := FH_st hV1 hF1
  unfold f_X3_place
  obtain ⟨S, s1, s2⟩ := pl_clear (N := N) hV1 hF1 (fun (t9 : St) => cmpI ((64 : Nat) : Int) 64 (cmpI (n : Int) (min ((64 : Nat) : Int) 64) (lt1 (pI t9 (305 + o) 8 (min (n : Int) (min ((64 : Nat) : Int) 64))) fun t10 => bdV (f_J7_fill_d0a16 N (396 + 10 * o) 4 (0 : Int64) t10) fun t11 => f_X3_place_L54 o q0 64 (fun (t25 : St) => bdV (f_X3_sort N o t25) fun t26 => lt1 (t26.1 (305 + o) 9) fun v27 => lt1 (pI t26 (305 + o) 9 (v27 + 1)) fun t28 => some t28) N 0 t11))) n1 0 N (t.1 (397 + 10 * o)) (by omega) (by omega) (fun s hs ⟨e, he, _⟩ => by omega) (fun s hs h9 => by rw [hst s hs]; exact stF_no h9)
  rw [pA_self, show ((0 : Nat) : Int) = 0 from rfl] at s1
  refine s1 ▸ ?_
  rw [cmpI_ok (by omega), cmpI_ok (by omega), show min (n : Int) (min ((64 : Nat) : Int) 64) = (n : Int) by omega, lt1_k]
  obtain ⟨t2, f1, f2, f3, f4⟩ := h_fill64 (N := N) (q0 := 396 + 10 * o) (n0 := 4) (v := 0) (t := pI (pA t (397 + 10 * o) S) (305 + o) 8 (n : Int)) (by decide) (by omega)
  rw [f1, bdV_s]
  have g8 : t2.1 (305 + o) 8 = n := by rw [f2, pI_at]
  have gne : ∀ a, a ≠ 305 + o → a ≠ 397 + 10 * o → t2.1 a = t.1 a := fun a h1 h2 => by rw [f2, pI_ne h1, pA_ne h2]
  have g97 : t2.1 (397 + 10 * o) = S := by rw [f2, pI_ne (by omega), pA_at]
  have hq0 : t2.1 q0 = t.1 q0 := gne q0 (by omega) (by omega)
  obtain ⟨A2, B2, C2, S2, L2, p1, p2, p3, p4, p5⟩ := pl_put (q0 := q0) (t := t2) ho hV g8 (by omega) (fun d hd => by rw [hq0]; exact hc d hd) (fun (t25 : St) => bdV (f_X3_sort N o t25) fun t26 => lt1 (t26.1 (305 + o) 9) fun v27 => lt1 (pI t26 (305 + o) 9 (v27 + 1)) fun t28 => some t28) n 0 N (t2.1 (390 + 10 * o)) (t2.1 (391 + 10 * o)) (t2.1 (392 + 10 * o)) (t2.1 (397 + 10 * o)) (t2.2 (396 + 10 * o)) (by omega) (by omega) (fun e he => by omega) (fun s hs _ => by rw [g97]; exact s2 s hs) (fun e he => by omega) (fun f e hf he => by rw [f4 f hf, bq_0]; simp)
  rw [pF_self, show ((0 : Nat) : Int) = 0 from rfl] at p1
  rw [p1]
  obtain ⟨A, o1, o2⟩ := h_sort (N := N) (o := o) (n := n) (t := pF o t2 A2 B2 C2 S2 L2) (X := X) (Y := Y) (W := W) (by rw [pF_ne (by omega) (by omega) (by omega) (by omega)]; exact g8) ho (fun d hd => by rw [pF_0, pF_1, pF_2]; exact p2 d hd) hV (by omega)
  rw [o1, bdV_s]
  simp only [lt1_k]
  have v9 : (pA (pF o t2 A2 B2 C2 S2 L2) (395 + 10 * o) A).1 (305 + o) 9 = t.1 (305 + o) 9 := by
    rw [pA_ne (by omega), pF_ne (by omega) (by omega) (by omega) (by omega), f2, pI_nf (by decide), pA_ne (by omega)]
  rw [v9]
  refine ⟨_, rfl, FH_of hV ?_ (fun d hd => ?_) (fun s hs => ?_), fun i hi => ?_, fun f e hf he => ?_, pI_at, ?_, ?_, ?_⟩
  · rw [pI_nf (by decide), pA_ne (by omega), pF_ne (by omega) (by omega) (by omega) (by omega)]; exact g8
  · rw [pI_ne (by omega), pI_ne (by omega), pI_ne (by omega), pA_ne (by omega), pA_ne (by omega), pA_ne (by omega), pF_0, pF_1, pF_2]; exact p2 d hd
  · rw [pI_ne (by omega), pA_ne (by omega), pF_7]
    by_cases h9 : ∃ e, e < n ∧ spt (X e) (Y e) = s
    · obtain ⟨e, he, hes⟩ := h9
      rw [← hes, p4 e he, stF_at hV he]
    · rw [p3 s hs (fun e he h => h9 ⟨e, he, h⟩), stF_no (fun e he h => h9 ⟨e, he, h⟩)]
  · rw [pI_ne (by omega), pA_at]; exact o2 i hi
  · show bq ((pF o t2 A2 B2 C2 S2 L2).2 (396 + 10 * o) f) e = _
    rw [pF_6]; exact p5 f e hf he
  · intro a h1 h2 h3 h4 h5 h6
    rw [pI_ne h1, pA_ne h5, pF_ne h2 h3 h4 h6]; exact gne a h1 h6
  · intro b h1 h2
    rw [pI_nf h2, pA_ne (by omega), pF_ne (by omega) (by omega) (by omega) (by omega), f2, pI_nf h1, pA_ne (by omega)]
  · intro a h1
    show (pF o t2 A2 B2 C2 S2 L2).2 a = _
    rw [pF_nL h1, f3 a h1]
    rfl
