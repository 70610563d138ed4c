/-! whom words mean: both sides -/
def isK (kd v : Int) (W : Nat → Int) (e : Nat) : Bool := if kd = 15 then decide (e % 2 = 0) else if kd = 16 then decide (e % 2 = 1) else if kd = 17 then decide (e / 2 % 2 = 0) else if kd = 18 then decide (e / 2 % 2 = 1) else if kd = 19 then decide (((e / 2 : Nat) : Int) = v) else if kd = 20 then decide ((e : Int) = v) else decide (W e = v)
def rs9 (P : Nat → Bool) (s : Int64) : Nat → Int64
  | 0 => 0
  | e + 1 => if (P e && bq s e) = true then rs9 P s e ||| shlL 1 (e : Int) else rs9 P s e
theorem rs9_s {P : Nat → Bool} {s : Int64} {e : Nat} : rs9 P s (e + 1) = if (P e && bq s e) = true then rs9 P s e ||| shlL 1 (e : Int) else rs9 P s e := rfl
theorem bq_rs {P : Nat → Bool} {s : Int64} : ∀ n e : Nat, n ≤ 64 → e < 64 → bq (rs9 P s n) e = (decide (e < n) && (P e && bq s e)) := by
  intro n
  induction n with
  | zero => intro e _ _; unfold rs9; rw [bq_0]; simp
  | succ n ih =>
    intro e hn he
    rw [rs9_s]
    by_cases hc : (P n && bq s n) = true
    · rw [if_pos hc, bq_or, ih e (by omega) he, bq_1 (by omega) he]
      by_cases h : e = n
      · subst h; rw [hc]; simp
      · have : decide (e < n + 1) = decide (e < n) := by
          apply Bool.eq_iff_iff.mpr; rw [decide_eq_true_iff, decide_eq_true_iff]; omega
        rw [this, decide_eq_false h, Bool.or_false]
    · rw [if_neg hc, ih e (by omega) he]
      by_cases h : e = n
      · subst h
        rw [Bool.eq_false_iff.mpr hc]; simp
      · have : decide (e < n + 1) = decide (e < n) := by
          apply Bool.eq_iff_iff.mpr; rw [decide_eq_true_iff, decide_eq_true_iff]; omega
        rw [this]
theorem jn1_g {X Z : Type} {v : X} {K : X → Option Z} {R : Option Z} (h : ∀ J, J = v → K J = R) : jn1 v K = R := h v rfl
theorem s_oneL {N n : Nat} {m : St} {s : Int64} {kd v : Int} (hF : fmF m n) (hk : 15 ≤ kd ∧ kd ≤ 21) (hv : inR v) (K : Int64 → St → Option (Int64 × St)) : ∀ (i e q : Nat), e + i = n → i < q →
    o_X12_readOne_L253 N K s kd v q (rs9 (isK kd v (m.1 40)) s e) e m = K (rs9 (isK kd v (m.1 40)) s n) m := by
  have h64 := hF.2.1
  intro i
  induction i with
  | zero =>
    intro e q h1 h2
    obtain ⟨q, rfl⟩ : ∃ k, q = k + 1 := ⟨q - 1, by omega⟩
    have : e = n := by omega
    subst this
    unfold o_X12_readOne_L253
    rw [lt1_k, hF.1, cmpI_ok (by omega), if_neg (by omega)]
  | succ i ih =>
    intro e q h1 h2
    obtain ⟨q, rfl⟩ : ∃ k, q = k + 1 := ⟨q - 1, by omega⟩
    have hW := (hF.2.2.1 e (by omega)).2.2
    have e2 : ((e : Int) + 1) = ((e + 1 : Nat) : Int) := by omega
    have ih2 := ih (e + 1) q (by omega) (by omega)
    rw [rs9_s] at ih2
    have hJ : ∀ j : Int, j = (if isK kd v (m.1 40) e = true then 1 else 0) →
        cmpI j 0 (if j = 0 then o_X12_readOne_L253 N K s kd v q (rs9 (isK kd v (m.1 40)) s e) ((e + 1 : Nat) : Int) m else bdI (f_X12_has N s e m) fun v49 t48 => cmpI v49 0 (if v49 = 0 then o_X12_readOne_L253 N K s kd v q (rs9 (isK kd v (m.1 40)) s e) ((e + 1 : Nat) : Int) t48 else bdL (f_X12_one N e t48) fun v51 t50 => o_X12_readOne_L253 N K s kd v q (rs9 (isK kd v (m.1 40)) s e ||| v51) ((e + 1 : Nat) : Int) t50)) = K (rs9 (isK kd v (m.1 40)) s n) m := by
      intro j hj
      cases hP : isK kd v (m.1 40) e with
      | false =>
        rw [hP] at hj ih2
        rw [if_neg (by decide : ¬ (false = true))] at hj
        subst hj
        rw [cmpI_ok (by omega), if_pos rfl]
        exact ih2
      | true =>
        rw [hP] at hj ih2
        rw [if_pos rfl] at hj
        subst hj
        rw [cmpI_ok (by omega), if_neg (by decide), s_has (by omega), bdI_s]
        cases hb : bq s e with
        | false =>
          rw [hb] at ih2
          rw [if_neg (by decide : ¬ (false = true)), cmpI_ok (by omega), if_pos rfl]
          exact ih2
        | true =>
          rw [hb] at ih2
          rw [if_pos rfl, cmpI_ok (by omega), if_neg (by decide)]
          exact ih2
    have hd1 : ((e : Int) % 2) = ((e % 2 : Nat) : Int) := by omega
    have hd2 : ((e : Int) / 2) = ((e / 2 : Nat) : Int) := by omega
    have hd3 : (((e / 2 : Nat) : Int) % 2) = ((e / 2 % 2 : Nat) : Int) := by omega
    unfold o_X12_readOne_L253
    rw [lt1_k, hF.1, cmpI_ok (by omega), if_pos (by omega)]
    refine jn1_g (fun J44 hJ44 => ?_)
    have hj : ∀ j : Int, j = (if isK kd v (m.1 40) e = true then 1 else 0) → J44 j m = K (rs9 (isK kd v (m.1 40)) s n) m := by
      intro j h9
      rw [hJ44]
      simp only [jn1_k, e2]
      exact hJ j h9
    have hT : isK kd v (m.1 40) e = true → J44 1 m = K (rs9 (isK kd v (m.1 40)) s n) m := fun h => hj 1 (by rw [if_pos h])
    have hFa : isK kd v (m.1 40) e = false → J44 0 m = K (rs9 (isK kd v (m.1 40)) s n) m := fun h => hj 0 (by rw [h]; rfl)
    clear hJ hj hJ44 ih2 ih
    have kc : ∀ x : Int, inR x → ∀ X : Option (Int64 × St), cmpI kd x X = X := fun x hx X => cmpI_ok ⟨by omega, hx⟩
    rw [kc 15 (by omega)]
    by_cases c15 : kd = 15
    · have hi : isK kd v (m.1 40) e = decide (e % 2 = 0) := by unfold isK; rw [if_pos c15]
      rw [if_pos c15, dvI_ok (by omega), cmpI_ok (by omega)]
      by_cases g : e % 2 = 0
      · rw [if_pos (by omega)]; exact hT (by rw [hi, decide_eq_true g])
      · rw [if_neg (by omega)]; exact hFa (by rw [hi, decide_eq_false g])
    rw [if_neg c15, kc 16 (by omega)]
    by_cases c16 : kd = 16
    · have hi : isK kd v (m.1 40) e = decide (e % 2 = 1) := by unfold isK; rw [if_neg c15, if_pos c16]
      rw [if_pos c16, dvI_ok (by omega), cmpI_ok (by omega)]
      by_cases g : e % 2 = 1
      · rw [if_pos (by omega)]; exact hT (by rw [hi, decide_eq_true g])
      · rw [if_neg (by omega)]; exact hFa (by rw [hi, decide_eq_false g])
    rw [if_neg c16, kc 17 (by omega)]
    by_cases c17 : kd = 17
    · have hi : isK kd v (m.1 40) e = decide (e / 2 % 2 = 0) := by unfold isK; rw [if_neg c15, if_neg c16, if_pos c17]
      rw [if_pos c17, dvI_ok (by omega), dvI_ok (by omega), cmpI_ok (by omega)]
      by_cases g : e / 2 % 2 = 0
      · rw [if_pos (by omega)]; exact hT (by rw [hi, decide_eq_true g])
      · rw [if_neg (by omega)]; exact hFa (by rw [hi, decide_eq_false g])
    rw [if_neg c17, kc 18 (by omega)]
    by_cases c18 : kd = 18
    · have hi : isK kd v (m.1 40) e = decide (e / 2 % 2 = 1) := by unfold isK; rw [if_neg c15, if_neg c16, if_neg c17, if_pos c18]
      rw [if_pos c18, dvI_ok (by omega), dvI_ok (by omega), cmpI_ok (by omega)]
      by_cases g : e / 2 % 2 = 1
      · rw [if_pos (by omega)]; exact hT (by rw [hi, decide_eq_true g])
      · rw [if_neg (by omega)]; exact hFa (by rw [hi, decide_eq_false g])
    rw [if_neg c18, kc 19 (by omega)]
    by_cases c19 : kd = 19
    · have hi : isK kd v (m.1 40) e = decide (((e / 2 : Nat) : Int) = v) := by unfold isK; rw [if_neg c15, if_neg c16, if_neg c17, if_neg c18, if_pos c19]
      rw [if_pos c19, dvI_ok (by omega), cmpI_ok (by omega)]
      by_cases g : ((e / 2 : Nat) : Int) = v
      · rw [if_pos (by omega)]; exact hT (by rw [hi, decide_eq_true g])
      · rw [if_neg (by omega)]; exact hFa (by rw [hi, decide_eq_false g])
    rw [if_neg c19, kc 20 (by omega)]
    by_cases c20 : kd = 20
    · have hi : isK kd v (m.1 40) e = decide ((e : Int) = v) := by unfold isK; rw [if_neg c15, if_neg c16, if_neg c17, if_neg c18, if_neg c19, if_pos c20]
      rw [if_pos c20, cmpI_ok (by omega)]
      by_cases g : (e : Int) = v
      · rw [if_pos g]; exact hT (by rw [hi, decide_eq_true g])
      · rw [if_neg g]; exact hFa (by rw [hi, decide_eq_false g])
    have hi : isK kd v (m.1 40) e = decide (m.1 40 e = v) := by unfold isK; rw [if_neg c15, if_neg c16, if_neg c17, if_neg c18, if_neg c19, if_neg c20]
    rw [if_neg c20, ixI_ok (by omega), lt1_k, Int.toNat_natCast, cmpI_ok (by omega)]
    by_cases g : m.1 40 e = v
    · rw [if_pos g]; exact hT (by rw [hi, decide_eq_true g])
    · rw [if_neg g]; exact hFa (by rw [hi, decide_eq_false g])
section
variable {N D c n : Nat} {m : St} {s : Int64}
theorem rdS (hF : fmF m n) {kd v : Int} (hk : 15 ≤ kd ∧ kd ≤ 21) (hv : inR v) (hN : 65 ≤ N) : o_X12_readOne_L253 N (fun (k53 : Int64) (t54 : St) => some (k53, t54)) s kd v N 0 0 m = some (rs9 (isK kd v (m.1 40)) s n, m) := by
  have h64 := hF.2.1
  exact s_oneL hF hk hv _ n 0 N (by omega) (by omega)
theorem fmF.rd (hF : fmF m n) {x : Int} : fmF (pI m 200 114 x) n := by
  unfold fmF
  rw [pI_nf (by decide), pI_ne (by decide), pI_ne (by decide), pI_ne (by decide)]
  exact hF
theorem rd_all (h1 : m.1 200 114 = c) (hc : c < 10100) (h2 : m.1 31 c = 14) : (rec_readWho N (D + 1)).2.2 s m = some (s, pI m 200 114 ((c + 1 : Nat) : Int)) := by
  show o_X12_readOne N (rec_readWho N D).2.2 (rec_readWho N D).1 s m = _
  unfold o_X12_readOne
  simp only [lt1_k, jn1_k, h1, Int.toNat_natCast, h2]
  rw [ixI_ok (by omega), cmpI_ok (by omega), if_neg (by decide), cmpI_ok (by omega), if_neg (by decide), cmpI_ok (by omega), if_pos trivial]
  rfl
theorem rd_pl (hF : fmF m n) (h1 : m.1 200 114 = c) (hc : c < 10100) {kd : Int} (hk : 15 ≤ kd ∧ kd ≤ 18) (h2 : m.1 31 c = kd) (hN : 65 ≤ N) : (rec_readWho N (D + 1)).2.2 s m = some (rs9 (isK kd (-1) (m.1 40)) s n, pI m 200 114 ((c + 1 : Nat) : Int)) := by
  show o_X12_readOne N (rec_readWho N D).2.2 (rec_readWho N D).1 s m = _
  unfold o_X12_readOne
  simp only [lt1_k, jn1_k, h1, Int.toNat_natCast, h2]
  rw [ixI_ok (by omega), cmpI_ok (by omega), if_neg (by omega), cmpI_ok (by omega), if_neg (by omega), cmpI_ok (by omega), if_neg (by omega), cmpI_ok (by omega), if_neg (by omega), cmpI_ok (by omega), if_neg (by omega), cmpI_ok (by omega), if_neg (by omega), cmpI_ok (by omega), if_neg (by omega), cmpI_ok (by omega), if_neg (by omega)]
  rw [pI_at, pI_pI, show ((c : Int) + 1 + 0) = ((c + 1 : Nat) : Int) by omega, rdS (hF.rd) (by omega) (by omega) hN, pI_ne (by decide)]
  rw [cmpI_ok (by omega), if_neg (by omega), cmpI_ok (by omega), if_neg (by omega), cmpI_ok (by omega), if_neg (by omega), pI_pI, rdS (hF.rd) (by omega) (by omega) hN, pI_ne (by decide)]
theorem rd_nu (hF : fmF m n) (h1 : m.1 200 114 = c) (hc : c + 1 < 10100) {kd v : Int} (hk : kd = 19 ∨ kd = 20) (h2 : m.1 31 c = kd) (h3 : m.1 31 (c + 1) = 1000 + v) (hv : 0 ≤ v ∧ v < 1000) (hN : 65 ≤ N) : (rec_readWho N (D + 1)).2.2 s m = some (rs9 (isK kd v (m.1 40)) s n, pI m 200 114 ((c + 2 : Nat) : Int)) := by
  show o_X12_readOne N (rec_readWho N D).2.2 (rec_readWho N D).1 s m = _
  have e1 : ((c : Int) + 1).toNat = c + 1 := by omega
  have e3 : (pI m 200 114 ((c : Int) + 1)).1 31 (c + 1) = 1000 + v := by rw [pI_ne (by decide), h3]
  have hfin : ∀ X : Option (Int64 × St), X = o_X12_readOne_L253 N (fun (k53 : Int64) (t54 : St) => some (k53, t54)) s kd v N 0 0 (pI m 200 114 ((c : Int) + 1 + 1)) → X = some (rs9 (isK kd v (m.1 40)) s n, pI m 200 114 ((c + 2 : Nat) : Int)) := by
    intro X hX
    rw [hX, show ((c : Int) + 1 + 1) = ((c + 2 : Nat) : Int) by omega, rdS (hF.rd) (by omega) (by omega) hN, pI_ne (by decide)]
  apply hfin
  unfold o_X12_readOne
  simp only [lt1_k, jn1_k, h1, Int.toNat_natCast, h2, pI_at, e1, e3]
  rw [ixI_ok (by omega), cmpI_ok (by omega), if_neg (by omega), cmpI_ok (by omega), if_neg (by omega), cmpI_ok (by omega), if_neg (by omega), cmpI_ok (by omega), if_neg (by omega), cmpI_ok (by omega), if_neg (by omega), ixI_ok (by omega), cmpI_ok (by omega), cmpI_ok (by omega), if_neg (show ¬ kd = 21 by omega), show (1000 + v - 1000) = v by omega, cmpI_ok (by omega), pI_pI]
  rcases hk with rfl | rfl
  · rw [if_pos rfl, if_pos rfl]
  · rw [if_neg (by decide), if_pos rfl, if_neg (by decide), if_pos rfl, cmpI_ok (by omega), cmpI_ok (by omega)]
theorem rd_fa (hF : fmF m n) (h1 : m.1 200 114 = c) (hc : c + 1 < 10100) {v : Int} (h2 : m.1 31 c = 21) (h3 : m.1 31 (c + 1) = 31 + v) (hv : 0 ≤ v ∧ v < 4) (hN : 65 ≤ N) : (rec_readWho N (D + 1)).2.2 s m = some (rs9 (isK 21 v (m.1 40)) s n, pI m 200 114 ((c + 2 : Nat) : Int)) := by
  show o_X12_readOne N (rec_readWho N D).2.2 (rec_readWho N D).1 s m = _
  have e1 : ((c : Int) + 1).toNat = c + 1 := by omega
  have e3 : (pI m 200 114 ((c : Int) + 1)).1 31 (c + 1) = 31 + v := by rw [pI_ne (by decide), h3]
  unfold o_X12_readOne
  simp only [lt1_k, jn1_k, h1, Int.toNat_natCast, h2, pI_at, e1, e3]
  rw [ixI_ok (by omega), cmpI_ok (by omega), if_neg (by decide), cmpI_ok (by omega), if_neg (by decide), cmpI_ok (by omega), if_neg (by decide), cmpI_ok (by omega), if_neg (by decide), cmpI_ok (by omega), if_neg (by decide), cmpI_ok (by omega), if_neg (by decide), cmpI_ok (by omega), if_neg (by decide), cmpI_ok (by omega), if_pos trivial, ixI_ok (by omega), show (31 + v - 31) = v by omega, if_pos trivial, pI_pI, show ((c : Int) + 1 + 1) = ((c + 2 : Nat) : Int) by omega, rdS (hF.rd) (by omega) (by omega) hN, pI_ne (by decide)]
  rw [cmpI_ok (by omega), if_neg (by decide), cmpI_ok (by omega), if_neg (by decide), cmpI_ok (by omega)]
theorem rd_in (h1 : m.1 200 114 = c) (hc : c + 1 < 10100) {f : Nat} (h2 : m.1 31 c = 22) (h3 : m.1 31 (c + 1) = 2000 + (f : Int)) : (rec_readWho N (D + 1)).2.2 s m = f_X12_greedy N s f (-1) (pI m 200 114 ((c + 2 : Nat) : Int)) := by
  show o_X12_readOne N (rec_readWho N D).2.2 (rec_readWho N D).1 s m = _
  have e1 : ((c : Int) + 1).toNat = c + 1 := by omega
  have e3 : (pI m 200 114 ((c : Int) + 1)).1 31 (c + 1) = 2000 + (f : Int) := by rw [pI_ne (by decide), h3]
  unfold o_X12_readOne
  simp only [lt1_k, jn1_k, h1, Int.toNat_natCast, h2, pI_at, e1, e3]
  rw [ixI_ok (by omega), cmpI_ok (by omega), if_neg (by decide), cmpI_ok (by omega), if_neg (by decide), cmpI_ok (by omega), if_neg (by decide), cmpI_ok (by omega), if_pos trivial, ixI_ok (by omega), cmpI_ok (by omega), if_neg (by decide), if_neg (by decide), show (2000 + (f : Int) - 2000) = (f : Int) by omega, pI_pI, pI_pI, show ((c : Int) + 1 + 1 + 0) = ((c + 2 : Nat) : Int) by omega]
  cases f_X12_greedy N s f (-1) (pI m 200 114 ((c + 2 : Nat) : Int)) <;> rfl
theorem rd_at (h1 : m.1 200 114 = c) (hc : c + 2 < 10100) {f : Nat} {v : Int} (h2 : m.1 31 c = 23) (h3 : m.1 31 (c + 1) = 2000 + (f : Int)) (h4 : m.1 31 (c + 2) = 1000 + v) : (rec_readWho N (D + 1)).2.2 s m = f_X12_greedy N s f v (pI m 200 114 ((c + 3 : Nat) : Int)) := by
  show o_X12_readOne N (rec_readWho N D).2.2 (rec_readWho N D).1 s m = _
  have e1 : ((c : Int) + 1).toNat = c + 1 := by omega
  have e2 : ((c : Int) + 1 + 1).toNat = c + 2 := by omega
  have e3 : (pI m 200 114 ((c : Int) + 1)).1 31 (c + 1) = 2000 + (f : Int) := by rw [pI_ne (by decide), h3]
  have e4 : (pI m 200 114 ((c : Int) + 1 + 1)).1 31 (c + 2) = 1000 + v := by rw [pI_ne (by decide), h4]
  unfold o_X12_readOne
  simp only [lt1_k, jn1_k, h1, Int.toNat_natCast, h2, pI_at, pI_pI, e1, e2, e3, e4]
  rw [ixI_ok (by omega), cmpI_ok (by omega), if_neg (by decide), cmpI_ok (by omega), if_neg (by decide), cmpI_ok (by omega), if_neg (by decide), cmpI_ok (by omega), if_neg (by decide), cmpI_ok (by omega), if_pos trivial, ixI_ok (by omega), if_pos trivial, ixI_ok (by omega), if_pos trivial, show (2000 + (f : Int) - 2000) = (f : Int) by omega, show (1000 + v - 1000) = v by omega, show ((c : Int) + 1 + 1 + 1) = ((c + 3 : Nat) : Int) by omega]
  cases f_X12_greedy N s f v (pI m 200 114 ((c + 3 : Nat) : Int)) <;> rfl
theorem rd_not (h1 : m.1 200 114 = c) (hc : c < 10100) (h2 : m.1 31 c = 26) {v : Int64} {w : St} (hi : (rec_readWho N D).2.2 s (pI m 200 114 ((c + 1 : Nat) : Int)) = some (v, w)) : (rec_readWho N (D + 1)).2.2 s m = some (s &&& (v ^^^ (-1)), w) := by
  show o_X12_readOne N (rec_readWho N D).2.2 (rec_readWho N D).1 s m = _
  unfold o_X12_readOne
  simp only [lt1_k, jn1_k, h1, Int.toNat_natCast, h2]
  rw [ixI_ok (by omega), cmpI_ok (by omega), if_pos trivial, show ((c : Int) + 1) = ((c + 1 : Nat) : Int) by omega, hi, bdL_s]
theorem rd_gr (h1 : m.1 200 114 = c) (hc : c < 10100) (h2 : m.1 31 c = 5040) {v : Int64} {w : St} {d : Nat} (hi : (rec_readWho N D).1 s (pI m 200 114 ((c + 1 : Nat) : Int)) = some (v, w)) (hd : w.1 200 114 = d) : (rec_readWho N (D + 1)).2.2 s m = some (v, pI w 200 114 ((d + 1 : Nat) : Int)) := by
  show o_X12_readOne N (rec_readWho N D).2.2 (rec_readWho N D).1 s m = _
  unfold o_X12_readOne
  simp only [lt1_k, jn1_k, h1, Int.toNat_natCast, h2]
  rw [ixI_ok (by omega), cmpI_ok (by omega), if_neg (by decide), cmpI_ok (by omega), if_pos trivial, show ((c : Int) + 1) = ((c + 1 : Nat) : Int) by omega, hi, bdL_s, hd]
  rfl
end
