/-! dancers are put on a floor of the hall -/
/-- where a dancer's seat is -/
def spt (x y : Int) : Nat := (64 * (y / 4) + x / 4).toNat
theorem cd_sp {x y w : Int} (hx : ok4 x) (hy : ok4 y) (hw : 0 ≤ w ∧ w ≤ 3) : cdZ x y w / 4 = (spt x y : Int) ∧ cdZ x y w % 4 = w ∧ spt x y < 4096 ∧ ((spt x y : Int) % 64) * 4 = x ∧ ((spt x y : Int) / 64) * 4 = y := by
  unfold cdZ spt; omega
theorem spt_inj {x y x2 y2 : Int} (hx : ok4 x) (hy : ok4 y) (hx2 : ok4 x2) (hy2 : ok4 y2) : spt x y = spt x2 y2 ↔ x = x2 ∧ y = y2 := by
  unfold spt
  constructor
  · intro h; omega
  · intro h; rw [h.1, h.2]
/-- the seats of a floor -/
def stF (X Y : Nat → Int) (n s : Nat) : Int := fmw (fun d => decide (spt (X d) (Y d) = s)) n 0 + 1
theorem who_st {X Y W : Nat → Int} {n px py : Nat} (hV : FXs X Y W n) (hx : px < 64) (hy : py < 64) : who9 X Y n (4 * px) (4 * py) + 1 = stF X Y n (64 * py + px) := by
  unfold who9 stF
  rw [fmw_cong (Q := fun d => decide (spt (X d) (Y d) = 64 * py + px)) n 0 (fun d _ hd => ?_)]
  have h := hV.2.1 d (by omega)
  apply Bool.eq_iff_iff.mpr
  rw [Bool.and_eq_true, decide_eq_true_iff, decide_eq_true_iff, decide_eq_true_iff]
  unfold spt
  omega
/-- a floor's seats are right -/
def StR (o : Nat) (t : St) (X Y : Nat → Int) (n : Nat) : Prop := ∀ s, s < 4096 → t.1 (397 + 10 * o) s = stF X Y n s
theorem FH_of {o : Nat} {t : St} {X Y W : Nat → Int} {n : Nat} (hV : FXs X Y W n) (h1 : t.1 (305 + o) 8 = n) (h2 : ∀ d, d < n → t.1 (390 + 10 * o) d = X d ∧ t.1 (391 + 10 * o) d = Y d ∧ t.1 (392 + 10 * o) d = W d) (h3 : StR o t X Y n) : FH o t X Y W n :=
  ⟨h1, h2, fun px py hx hy => by rw [who_st hV hx hy]; exact h3 (64 * py + px) (by omega)⟩
theorem FH_st {o : Nat} {t : St} {X Y W : Nat → Int} {n : Nat} (hV : FXs X Y W n) (h : FH o t X Y W n) : StR o t X Y n := by
  intro s hs
  have := h.2.2 (s % 64) (s / 64) (by omega) (by omega)
  rw [who_st hV (by omega) (by omega), show 64 * (s / 64) + s % 64 = s by omega] at this
  exact this
theorem stF_no {X Y : Nat → Int} {n s : Nat} (h : ∀ d, d < n → spt (X d) (Y d) ≠ s) : stF X Y n s = 0 := by
  unfold stF
  by_cases h9 : fmw (fun d => decide (spt (X d) (Y d) = s)) n 0 = -1
  · rw [h9]; rfl
  · obtain ⟨k, h1, h2, h3, h4⟩ := fmw_some _ _ h9
    rw [decide_eq_true_iff] at h4
    exact absurd h4 (h k (by omega))
theorem stF_at {X Y W : Nat → Int} {n d : Nat} (hV : FXs X Y W n) (hd : d < n) : stF X Y n (spt (X d) (Y d)) = (d : Int) + 1 := by
  unfold stF
  by_cases h9 : fmw (fun e => decide (spt (X e) (Y e) = spt (X d) (Y d))) n 0 = -1
  · have := fmw_neg _ _ h9 d (by omega) (by omega)
    rw [decide_eq_true rfl] at this; cases this
  · obtain ⟨k, h1, h2, h3, h4⟩ := fmw_some _ _ h9
    rw [decide_eq_true_iff] at h4
    have a := hV.2.1 d hd
    have b := hV.2.1 k (by omega)
    have := (spt_inj b.1 b.2.1 a.1 a.2.1).mp h4
    rw [h3, hV.2.2 k d (by omega) hd this.1 this.2]
theorem pl_clear {N o n : Nat} {t : St} {X Y W : Nat → Int} (hV : FXs X Y W n) (hF : FH o t X Y W n) (K : St → Option St) : ∀ (i d q : Nat) (S : Nat → Int), d + i = n → i < q → (∀ s, s < 4096 → (∃ e, e < d ∧ spt (X e) (Y e) = s) → S s = 0) → (∀ s, s < 4096 → (∀ e, e < n → spt (X e) (Y e) ≠ s) → S s = 0) →
    ∃ S2 : Nat → Int, f_X3_place_L2 N o K q d (pA t (397 + 10 * o) S) = K (pA t (397 + 10 * o) S2) ∧ ∀ s, s < 4096 → S2 s = 0 := by
  have h64 := hV.1
  intro i
  induction i with
  | zero =>
    intro d q S h1 h2 h3 h4
    obtain ⟨q, rfl⟩ : ∃ k, q = k + 1 := ⟨q - 1, by omega⟩
    have : d = n := by omega
    subst this
    refine ⟨S, ?_, fun s hs => ?_⟩
    · unfold f_X3_place_L2
      rw [lt1_k, pA_ne (by omega), hF.1, cmpI_ok (by omega), if_neg (by omega)]
    · by_cases h9 : ∃ e, e < d ∧ spt (X e) (Y e) = s
      · exact h3 s hs h9
      · exact h4 s hs (fun e he h => h9 ⟨e, he, h⟩)
  | succ i ih =>
    intro d q S h1 h2 h3 h4
    obtain ⟨q, rfl⟩ : ∃ k, q = k + 1 := ⟨q - 1, by omega⟩
    have hd := hV.2.1 d (by omega)
    have hc := cd_sp hd.1 hd.2.1 hd.2.2
    have hr := cdZ_rng hd.1 hd.2.1 hd.2.2
    have hca : f_X3_codeAt N o d (pA t (397 + 10 * o) S) = some (cdZ (X d) (Y d) (W d), pA t (397 + 10 * o) S) := by
      have h2 := hF.2.1 d (by omega)
      unfold f_X3_codeAt
      simp only [lt1_k, Int.toNat_natCast, pA_ne (show 390 + 10 * o ≠ 397 + 10 * o by omega), pA_ne (show 391 + 10 * o ≠ 397 + 10 * o by omega), pA_ne (show 392 + 10 * o ≠ 397 + 10 * o by omega)]
      rw [ixI_ok (by omega), ixI_ok (by omega), ixI_ok (by omega), h2.1, h2.2.1, h2.2.2, h_codeOf hd.1 hd.2.1 hd.2.2, bdI_s]
    unfold f_X3_place_L2
    rw [lt1_k, pA_ne (by omega), hF.1, cmpI_ok (by omega), if_pos (by omega), hca, bdI_s, rnI_ok (by omega), hc.1, ixI_ok (by omega), lt1_k, Int.toNat_natCast, pA_I, show b8 0 = 0 from rfl, show ((d : Int) + 1) = ((d + 1 : Nat) : Int) by omega]
    refine ih (d + 1) q _ (by omega) (by omega) (fun s hs ⟨e, he1, he2⟩ => ?_) (fun s hs h9 => ?_)
    · by_cases hse : s = spt (X d) (Y d)
      · rw [hse, fup_at]
      · rw [fup_ne hse]
        refine h3 s hs ⟨e, ?_, he2⟩
        have : e ≠ d := fun h => hse (by rw [← he2, h])
        omega
    · rw [fup_ne (fun h => h9 d (by omega) h.symm)]
      exact h4 s hs h9
/-- the state while dancers are put: places, facings, seats, who faces each way -/
def pF (o : Nat) (t : St) (A B C S : Nat → Int) (L : Nat → Int64) : St := (fun a => bif Nat.beq a (390 + 10 * o) then A else bif Nat.beq a (391 + 10 * o) then B else bif Nat.beq a (392 + 10 * o) then C else bif Nat.beq a (397 + 10 * o) then S else t.1 a, fun a => bif Nat.beq a (396 + 10 * o) then L else t.2 a)
theorem pF_0 {o : Nat} {t : St} {A B C S : Nat → Int} {L : Nat → Int64} : (pF o t A B C S L).1 (390 + 10 * o) = A := by
  unfold pF; dsimp only; rw [Nat.beq_refl]; rfl
theorem nbq {a b : Nat} (h : a ≠ b) : Nat.beq a b = false := Bool.eq_false_iff.mpr (fun q => h (Nat.eq_of_beq_eq_true q))
theorem pF_1 {o : Nat} {t : St} {A B C S : Nat → Int} {L : Nat → Int64} : (pF o t A B C S L).1 (391 + 10 * o) = B := by
  unfold pF; dsimp only; rw [nbq (by omega), Nat.beq_refl]; rfl
theorem pF_2 {o : Nat} {t : St} {A B C S : Nat → Int} {L : Nat → Int64} : (pF o t A B C S L).1 (392 + 10 * o) = C := by
  unfold pF; dsimp only; rw [nbq (by omega), nbq (by omega), Nat.beq_refl]; rfl
theorem pF_7 {o : Nat} {t : St} {A B C S : Nat → Int} {L : Nat → Int64} : (pF o t A B C S L).1 (397 + 10 * o) = S := by
  unfold pF; dsimp only; rw [nbq (by omega), nbq (by omega), nbq (by omega), Nat.beq_refl]; rfl
theorem pF_6 {o : Nat} {t : St} {A B C S : Nat → Int} {L : Nat → Int64} : (pF o t A B C S L).2 (396 + 10 * o) = L := by
  unfold pF; dsimp only; rw [Nat.beq_refl]; rfl
theorem pF_ne {o a : Nat} {t : St} {A B C S : Nat → Int} {L : Nat → Int64} (h0 : a ≠ 390 + 10 * o) (h1 : a ≠ 391 + 10 * o) (h2 : a ≠ 392 + 10 * o) (h3 : a ≠ 397 + 10 * o) : (pF o t A B C S L).1 a = t.1 a := by
  unfold pF; dsimp only; rw [nbq h0, nbq h1, nbq h2, nbq h3]; rfl
theorem pF_nL {o a : Nat} {t : St} {A B C S : Nat → Int} {L : Nat → Int64} (h0 : a ≠ 396 + 10 * o) : (pF o t A B C S L).2 a = t.2 a := by
  unfold pF; dsimp only; rw [nbq h0]; rfl
def gup (F : Nat → Int64) (i : Nat) (v : Int64) : Nat → Int64 := fun j => if j = i then v else F j
theorem pF_I0 {o i : Nat} {t : St} {A B C S : Nat → Int} {L : Nat → Int64} {v : Int} : pI (pF o t A B C S L) (390 + 10 * o) i v = pF o t (fup A i v) B C S L := by
  rw [pI_A, pF_0]
  unfold pF pA
  refine Prod.ext ?_ rfl
  funext x
  dsimp only
  cases h : Nat.beq x (390 + 10 * o) <;> rfl
theorem pF_I1 {o i : Nat} {t : St} {A B C S : Nat → Int} {L : Nat → Int64} {v : Int} : pI (pF o t A B C S L) (391 + 10 * o) i v = pF o t A (fup B i v) C S L := by
  rw [pI_A, pF_1]
  unfold pF pA
  refine Prod.ext ?_ rfl
  funext x
  dsimp only
  cases h : Nat.beq x (391 + 10 * o) with
  | false => rfl
  | true => rw [Nat.eq_of_beq_eq_true h, nbq (by omega)]; rfl
theorem pF_I2 {o i : Nat} {t : St} {A B C S : Nat → Int} {L : Nat → Int64} {v : Int} : pI (pF o t A B C S L) (392 + 10 * o) i v = pF o t A B (fup C i v) S L := by
  rw [pI_A, pF_2]
  unfold pF pA
  refine Prod.ext ?_ rfl
  funext x
  dsimp only
  cases h : Nat.beq x (392 + 10 * o) with
  | false => rfl
  | true => rw [Nat.eq_of_beq_eq_true h, nbq (by omega), nbq (by omega)]; rfl
theorem pF_I7 {o i : Nat} {t : St} {A B C S : Nat → Int} {L : Nat → Int64} {v : Int} : pI (pF o t A B C S L) (397 + 10 * o) i v = pF o t A B C (fup S i v) L := by
  rw [pI_A, pF_7]
  unfold pF pA
  refine Prod.ext ?_ rfl
  funext x
  dsimp only
  cases h : Nat.beq x (397 + 10 * o) with
  | false => rfl
  | true => rw [Nat.eq_of_beq_eq_true h, nbq (by omega), nbq (by omega), nbq (by omega)]; rfl
theorem pF_L {o i : Nat} {t : St} {A B C S : Nat → Int} {L : Nat → Int64} {v : Int64} : pL (pF o t A B C S L) (396 + 10 * o) i v = pF o t A B C S (gup L i v) := by
  unfold pF pL gup
  refine Prod.ext rfl ?_
  funext x y
  dsimp only
  cases h : Nat.beq x (396 + 10 * o) with
  | false => rfl
  | true =>
    show (bif Nat.beq y i then v else L y) = if y = i then v else L y
    by_cases h2 : y = i
    · rw [if_pos h2, h2, Nat.beq_refl]; rfl
    · rw [if_neg h2, nbq h2]; rfl
theorem pF_self {o : Nat} {t : St} : pF o t (t.1 (390 + 10 * o)) (t.1 (391 + 10 * o)) (t.1 (392 + 10 * o)) (t.1 (397 + 10 * o)) (t.2 (396 + 10 * o)) = t := by
  unfold pF
  refine Prod.ext ?_ ?_
  · funext x
    dsimp only
    cases h0 : Nat.beq x (390 + 10 * o) with
    | true => rw [Nat.eq_of_beq_eq_true h0]; rfl
    | false =>
      cases h1 : Nat.beq x (391 + 10 * o) with
      | true => rw [Nat.eq_of_beq_eq_true h1]; rfl
      | false =>
        cases h2 : Nat.beq x (392 + 10 * o) with
        | true => rw [Nat.eq_of_beq_eq_true h2]; rfl
        | false =>
          cases h3 : Nat.beq x (397 + 10 * o) with
          | true => rw [Nat.eq_of_beq_eq_true h3]; rfl
          | false => rfl
  · funext x
    dsimp only
    cases h0 : Nat.beq x (396 + 10 * o) with
    | true => rw [Nat.eq_of_beq_eq_true h0]; rfl
    | false => rfl
/-- the seats when the first d have been put -/
theorem pl_put {o n q0 : Nat} {t : St} {X Y W : Nat → Int} (ho : o < 2) (hV : FXs X Y W n) (hsz : t.1 (305 + o) 8 = n) (hq : q0 < 390 ∨ 409 < q0 ∨ q0 = 394 + 10 * o) (hc : ∀ d, d < n → inR (t.1 q0 d) ∧ t.1 q0 d / 4 % 4096 = (spt (X d) (Y d) : Int) ∧ t.1 q0 d % 4 = W d) (K : St → Option St) : ∀ (i d q : Nat) (A B C S : Nat → Int) (L : Nat → Int64), d + i = n → i < q → (∀ e, e < d → A e = X e ∧ B e = Y e ∧ C e = W e) → (∀ s, s < 4096 → (∀ e, e < d → spt (X e) (Y e) ≠ s) → S s = 0) → (∀ e, e < d → S (spt (X e) (Y e)) = (e : Int) + 1) → (∀ f e : Nat, f < 4 → e < 64 → bq (L f) e = decide (e < d ∧ W e = f)) →
    ∃ (A2 B2 C2 S2 : Nat → Int) (L2 : Nat → Int64), f_X3_place_L54 o q0 64 K q d (pF o t A B C S L) = K (pF o t A2 B2 C2 S2 L2) ∧ (∀ e, e < n → A2 e = X e ∧ B2 e = Y e ∧ C2 e = W e) ∧ (∀ s, s < 4096 → (∀ e, e < n → spt (X e) (Y e) ≠ s) → S2 s = 0) ∧ (∀ e, e < n → S2 (spt (X e) (Y e)) = (e : Int) + 1) ∧ ∀ f e : Nat, f < 4 → e < 64 → bq (L2 f) e = decide (e < n ∧ W e = f) := by
  have h64 := hV.1
  intro i
  induction i with
  | zero =>
    intro d q A B C S L h1 h2 h3 h4 h5 h6
    obtain ⟨q, rfl⟩ : ∃ k, q = k + 1 := ⟨q - 1, by omega⟩
    have : d = n := by omega
    subst this
    refine ⟨A, B, C, S, L, ?_, h3, h4, h5, h6⟩
    unfold f_X3_place_L54
    rw [lt1_k, pF_ne (by omega) (by omega) (by omega) (by omega), hsz, cmpI_ok (by omega), if_neg (by omega)]
  | succ i ih =>
    intro d q A B C S L h1 h2 h3 h4 h5 h6
    obtain ⟨q, rfl⟩ : ∃ k, q = k + 1 := ⟨q - 1, by omega⟩
    have hd := hV.2.1 d (by omega)
    have hs := cd_sp hd.1 hd.2.1 hd.2.2
    obtain ⟨c1, c2, c3⟩ := hc d (by omega)
    unfold f_X3_place_L54
    have hq0 : ∀ (A B C S : Nat → Int) (L : Nat → Int64), (pF o t A B C S L).1 q0 d = t.1 q0 d := fun A B C S L => by rw [pF_ne (by omega) (by omega) (by omega) (by omega)]
    simp only [lt1_k, Int.toNat_natCast, hq0, pF_I0, pF_I1, pF_I2, pF_2, pF_6, pF_L, pF_I7, fup_at]
    rw [pF_ne (by omega) (by omega) (by omega) (by omega), hsz, cmpI_ok (by omega), if_pos (by omega), ixI_ok (by omega), rnI_ok c1, c2, c3, hs.2.2.2.1, hs.2.2.2.2, ixI_ok (by omega), rnI_ok (by omega), ixI_ok (by omega), ixI_ok (by omega), ixI_ok (by omega), ixI_ok (by omega), ixI_ok (by omega), ixI_ok (by omega), ixI_ok (by omega), Int.toNat_natCast, show ((d : Int) + 1) = ((d + 1 : Nat) : Int) by omega, show b8 (b8 ((d + 1 : Nat) : Int)) = (d : Int) + 1 by unfold b8; omega]
    refine ih (d + 1) q _ _ _ _ _ (by omega) (by omega) (fun e he => ?_) (fun s hss h9 => ?_) (fun e he => ?_) (fun f e hf he => ?_)
    · by_cases hed : e = d
      · subst hed; rw [fup_at, fup_at, fup_at]; exact ⟨rfl, rfl, rfl⟩
      · rw [fup_ne hed, fup_ne hed, fup_ne hed]; exact h3 e (by omega)
    · rw [fup_ne (fun h => h9 d (by omega) h.symm)]
      exact h4 s hss (fun e he => h9 e (by omega))
    · by_cases hed : e = d
      · subst hed; rw [fup_at]
      · have a := hV.2.1 e (by omega)
        rw [fup_ne (fun h => hed ?_)]
        · exact h5 e (by omega)
        · have := (spt_inj a.1 a.2.1 hd.1 hd.2.1).mp h
          exact hV.2.2 e d (by omega) (by omega) this.1 this.2
    · unfold gup
      by_cases hfw : f = (W d).toNat
      · rw [if_pos hfw, bq_or, bq_1 (by omega) he, ← hfw, h6 f e hf he]
        apply Bool.eq_iff_iff.mpr
        rw [Bool.or_eq_true, decide_eq_true_iff, decide_eq_true_iff, decide_eq_true_iff]
        constructor
        · intro h
          rcases h with h | h
          · exact ⟨by omega, h.2⟩
          · subst h; exact ⟨by omega, by omega⟩
        · intro h
          by_cases hed : e = d
          · exact Or.inr hed
          · exact Or.inl ⟨by omega, h.2⟩
      · rw [if_neg hfw, h6 f e hf he]
        apply Bool.eq_iff_iff.mpr
        rw [decide_eq_true_iff, decide_eq_true_iff]
        constructor
        · intro h; exact ⟨by omega, h.2⟩
        · intro h
          refine ⟨?_, h.2⟩
          have : e ≠ d := fun h9 => hfw (by rw [h9] at h; omega)
          omega
