/-! both sides go behind a token -/
/-- the hall's frame of going behind a token -/
def sC (t u : St) : Prop := (∀ a b : Nat, (a ≠ 303 ∨ 5 ≤ b) → (a ≠ 302 ∨ b ≠ 19) → u.1 a b = t.1 a b) ∧ u.2 = t.2
/-- the model's -/
def sM (m u : St) (p : Nat) : Prop := (∀ a b : Nat, (a ≠ 31 ∨ b ≠ p) → (a ≠ 200 ∨ b < 2 ∨ (6 < b ∧ b ≠ 33 ∧ b ≠ 34)) → u.1 a b = m.1 a b) ∧ u.2 = m.2 ∧ m.1 200 33 ≤ u.1 200 33 ∧ (6000 ≤ p → u.1 200 33 = m.1 200 33)
theorem sC.eqP {t u : St} (h : sC t u) : eqP t u := by
  obtain ⟨h1, h2⟩ := h
  refine ⟨fun a b q1 q2 q3 q4 => h1 a b (Or.inl q1) (by omega), ?_, fun a b q1 q2 q3 => h1 a b (by omega) (by omega), fun a _ => by rw [h2], fun o b _ _ => by rw [h2]⟩
  rw [h1 312 2 (by omega) (by omega), h1 313 2 (by omega) (by omega), h1 314 2 (by omega) (by omega), h1 302 16 (by omega) (by omega), h1 302 18 (by omega) (by omega)]
  omega
theorem sM.eqQ {m u : St} {p : Nat} (h : sM m u p) (hp : m.1 200 33 ≤ p) : eqQ m u := by
  obtain ⟨h1, h2, h3, _⟩ := h
  refine ⟨fun a b q1 q2 => ?_, ?_, fun a b q1 q2 => ?_, h2⟩
  · refine h1 a b (Or.inl (fun h9 => q1 (by unfold rdA; omega))) ?_
    rcases q2 with q | q
    · exact Or.inl q
    · unfold rdF at q; omega
  · rw [h1 200 13 (by omega) (by omega), h1 200 14 (by omega) (by omega), h1 200 15 (by omega) (by omega), h1 200 16 (by omega) (by omega), h1 200 17 (by omega) (by omega)]
    omega
  · refine h1 a b ?_ (by unfold rdA at q1; omega)
    by_cases h31 : a = 31
    · subst h31
      have : thM m 31 = m.1 200 33 := rfl
      right; omega
    · exact Or.inl h31
theorem s_wrong {N : Nat} {f : Int} {m : St} : f_X12_wrong N f m = some (0, pI m 200 8 f) := by
  unfold f_X12_wrong; rw [lt1_k, boI_0]
theorem c_wrong {N : Nat} {f : Int} {t : St} : f_X7_wrong N f t = some (0, pI t 303 5 f) := by
  unfold f_X7_wrong; rw [lt1_k, boI_0]
theorem s_takes {N : Nat} {m : St} {B : Nat → Int} {e i : Nat} {kp as : Int} (hM : MTk m B e i) (hk : m.1 200 36 = kp) (hkp : kp = 0 ∨ kp = 1 ∨ kp = 2) (h33 : 0 ≤ m.1 200 33 ∧ m.1 200 33 ≤ 6000) (h34 : 0 ≤ m.1 200 34 ∧ m.1 200 34 ≤ 4096) (hN : 5000 ≤ N) :
    (kp = 1 ∧ m.1 200 33 = 6000 → f_X12_takes N as m = some (0, pI m 200 8 5)) ∧
    (¬ (kp = 1 ∧ m.1 200 33 = 6000) → ∃ u : St, f_X12_takes N as m = some (1, u) ∧ sM m u (tpm m kp) ∧ MTk u B e (i + 1) ∧ u.1 200 33 = m.1 200 33 + (if kp = 1 then 1 else 0) ∧ u.1 200 34 = m.1 200 34 + (if kp = 2 then 1 else 0) ∧ (kp ≠ 0 → u.1 31 (tpm m kp) = as)) := by
  have k11 : ∀ X : Option (Int × St), cmpI 1 1 X = X := fun X => cmpI_ok (by omega)
  have k01 : ∀ X : Option (Int × St), cmpI 0 1 X = X := fun X => cmpI_ok (by omega)
  have k21 : ∀ X : Option (Int × St), cmpI 2 1 X = X := fun X => cmpI_ok (by omega)
  have k02 : ∀ X : Option (Int × St), cmpI 0 2 X = X := fun X => cmpI_ok (by omega)
  have k22 : ∀ X : Option (Int × St), cmpI 2 2 X = X := fun X => cmpI_ok (by omega)
  have k6 : ∀ X : Option (Int × St), cmpI (m.1 200 33) 6000 X = X := fun X => cmpI_ok (by omega)
  have n01 : ((0 : Int) = 1) = False := eq_false (by decide)
  have n21 : ((2 : Int) = 1) = False := eq_false (by decide)
  have n02 : ((0 : Int) = 2) = False := eq_false (by decide)
  rcases hkp with rfl | rfl | rfl
  · refine ⟨fun q => absurd q.1 (by decide), fun _ => ?_⟩
    obtain ⟨u, a1, a2, a3⟩ := s_nextT hM hN
    refine ⟨u, ?_, ⟨fun a b q1 q2 => a2.1 a b (by omega), a2.2, by rw [a2.1 200 33 (by omega)]; omega, fun _ => a2.1 200 33 (by omega)⟩, a3, by rw [a2.1 200 33 (by omega), if_neg (by decide)]; omega, by rw [a2.1 200 34 (by omega), if_neg (by decide)]; omega, fun q => absurd rfl q⟩
    unfold f_X12_takes
    simp only [lt1_k, jn1_k, hk, k01, k02, n01, n02, if_false, a1, bdV_s, boI_1]
  · refine ⟨fun q => ?_, fun q => ?_⟩
    · unfold f_X12_takes
      have q2 : (m.1 200 33 = 6000) = True := eq_true q.2
      simp only [lt1_k, jn1_k, hk, k11, k6, if_true, q2, s_wrong, bdI_s, boI_0]
    · have hp : tpm m 1 = (m.1 200 33).toNat := rfl
      have hM2 : MTk (pI (pI m 31 (m.1 200 33).toNat as) 200 33 (m.1 200 33 + 1)) B e i := hM.of (fun b q1 q2 => by rw [pI_nf (by omega), pI_ne (by decide)]) (by rw [pI_ne (by decide), pI_ne (by decide)])
      obtain ⟨u, a1, a2, a3⟩ := s_nextT hM2 hN
      have hu : ∀ a b : Nat, (a ≠ 31 ∨ b ≠ (m.1 200 33).toNat) → (a ≠ 200 ∨ b < 2 ∨ (6 < b ∧ b ≠ 33 ∧ b ≠ 34)) → u.1 a b = m.1 a b := by
        intro a b q1 q2
        rw [a2.1 a b (by omega)]
        have e1 : ∀ x : St, ∀ v : Int, (pI x 200 33 v).1 a b = x.1 a b := by
          intro x v
          rcases q2 with q3 | q3
          · rw [pI_ne q3]
          · rw [pI_nf (by omega)]
        rw [e1]
        rcases q1 with q3 | q3
        · rw [pI_ne q3]
        · rw [pI_nf q3]
      have h33u : u.1 200 33 = m.1 200 33 + 1 := by rw [a2.1 200 33 (by omega), pI_at]
      refine ⟨u, ?_, ⟨by rw [hp]; exact hu, a2.2, by omega, fun q9 => absurd (show m.1 200 33 = 6000 by rw [hp] at q9; omega) (fun h9 => q ⟨rfl, h9⟩)⟩, a3, by rw [h33u, if_pos rfl], by rw [a2.1 200 34 (by omega), pI_nf (by decide), pI_ne (by decide), if_neg (by decide)]; omega, fun _ => by rw [hp, a2.1 31 _ (by omega), pI_ne (by decide), pI_at]⟩
      have q2 : (m.1 200 33 = 6000) = False := eq_false (fun h9 => q ⟨rfl, h9⟩)
      have kix : ∀ X : Option (Int × St), ixI (m.1 200 33) 10100 X = X := fun X => ixI_ok (by omega)
      have e33 : (pI m 31 (m.1 200 33).toNat as).1 200 33 = m.1 200 33 := by rw [pI_ne (by decide)]
      unfold f_X12_takes
      simp only [lt1_k, jn1_k, hk, k11, k6, if_true, if_false, q2, kix, e33, a1, bdV_s, boI_1]
  · refine ⟨fun q => absurd q.1 (by decide), fun _ => ?_⟩
    have hp : tpm m 2 = 6000 + (m.1 200 34).toNat := rfl
    have hM2 : MTk (pI (pI m 31 (6000 + (m.1 200 34).toNat) as) 200 34 (m.1 200 34 + 1)) B e i := hM.of (fun b q1 q2 => by rw [pI_nf (by omega), pI_ne (by decide)]) (by rw [pI_ne (by decide), pI_ne (by decide)])
    obtain ⟨u, a1, a2, a3⟩ := s_nextT hM2 hN
    have hu : ∀ a b : Nat, (a ≠ 31 ∨ b ≠ 6000 + (m.1 200 34).toNat) → (a ≠ 200 ∨ b < 2 ∨ (6 < b ∧ b ≠ 33 ∧ b ≠ 34)) → u.1 a b = m.1 a b := by
      intro a b q1 q2
      rw [a2.1 a b (by omega)]
      have e1 : ∀ x : St, ∀ v : Int, (pI x 200 34 v).1 a b = x.1 a b := by
        intro x v
        rcases q2 with q3 | q3
        · rw [pI_ne q3]
        · rw [pI_nf (by omega)]
      rw [e1]
      rcases q1 with q3 | q3
      · rw [pI_ne q3]
      · rw [pI_nf q3]
    have h33u : u.1 200 33 = m.1 200 33 := by rw [a2.1 200 33 (by omega), pI_nf (by decide), pI_ne (by decide)]
    refine ⟨u, ?_, ⟨by rw [hp]; exact hu, a2.2, by omega, fun _ => h33u⟩, a3, by rw [h33u, if_neg (by decide)]; omega, by rw [a2.1 200 34 (by omega), pI_at, if_pos rfl], fun _ => by rw [hp, a2.1 31 _ (by omega), pI_ne (by decide), pI_at]⟩
    have kix : ∀ X : Option (Int × St), ixI (6000 + m.1 200 34) 10100 X = X := fun X => ixI_ok (by omega)
    have en : (6000 + m.1 200 34).toNat = 6000 + (m.1 200 34).toNat := by omega
    have e34 : (pI m 31 (6000 + (m.1 200 34).toNat) as).1 200 34 = m.1 200 34 := by rw [pI_ne (by decide)]
    unfold f_X12_takes
    simp only [lt1_k, jn1_k, hk, k21, k22, n21, if_true, if_false, kix, en, e34, a1, bdV_s, boI_1]
/-- both behind a token: one too many, or the next one -/
theorem PTK {N : Nat} {t m : St} {B : Nat → Int} {e mm i : Nat} {kp as : Int} (h : PR t m B e mm kp i) (hkp : kp = 0 ∨ kp = 1 ∨ kp = 2) (hi : i < mm) (hN : 5000 ≤ N) :
    (f_X7_pass N t = some (0, pI t 303 5 5) ∧ f_X12_takes N as m = some (0, pI m 200 8 5)) ∨
    (∃ u v : St, f_X7_pass N t = some (1, u) ∧ f_X12_takes N as m = some (1, v) ∧ PR u v B e mm kp (i + 1) ∧ sC t u ∧ sM m v (tpm m kp) ∧ (kp ≠ 0 → v.1 31 (tpm m kp) = as ∧ tpm v kp = tpm m kp + 1)) := by
  obtain ⟨p1, p2, p3, p4, p5, p6, p7, p8, p9, p10⟩ := h
  have hm := p1.2.2.2.2.2
  have h01 : (if kp = 1 then (1 : Int) else 0) = 0 ∨ (if kp = 1 then (1 : Int) else 0) = 1 := by
    by_cases h1 : kp = 1
    · rw [if_pos h1]; exact Or.inr rfl
    · rw [if_neg h1]; exact Or.inl rfl
  have hC := s_pass (N := N) (k9 := if kp = 1 then 1 else 0) p1 hi p4 p8.2 h01 (by omega)
  have hT := s_takes (N := N) (as := as) p3 p8.1 hkp p9.2 (by omega) hN
  by_cases hb : kp = 1 ∧ m.1 200 33 = 6000
  · left
    rw [hC, if_pos ⟨by rw [if_pos hb.1], by omega⟩]
    exact ⟨rfl, hT.1 hb⟩
  · right
    obtain ⟨v, a1, a2, a3, a4, a5, a6⟩ := hT.2 hb
    have hnb : ¬ ((if kp = 1 then (1 : Int) else 0) = 1 ∧ t.1 302 19 = 6000) := by
      intro q
      by_cases h1 : kp = 1
      · exact hb ⟨h1, by omega⟩
      · rw [if_neg h1] at q; omega
    rw [if_neg hnb] at hC
    have hs : sC t (pI (pI (pI (pI t 302 19 (t.1 302 19 + (if kp = 1 then 1 else 0))) 303 2 ((i + 1 : Nat) : Int)) 303 3 (cKd B e (ch B e (i + 1)))) 303 4 (cVl B e (ch B e (i + 1)))) := by
      refine ⟨fun a b q1 q2 => ?_, rfl⟩
      have e1 : ∀ (x : St) (f : Nat) (y : Int), f ≤ 4 → (pI x 303 f y).1 a b = x.1 a b := by
        intro x f y hf
        rcases q1 with q3 | q3
        · rw [pI_ne q3]
        · rw [pI_nf (by omega)]
      rw [e1 _ _ _ (by decide), e1 _ _ _ (by decide), e1 _ _ _ (by decide)]
      rcases q2 with q3 | q3
      · rw [pI_ne q3]
      · rw [pI_nf q3]
    refine ⟨_, v, hC, a1, ?_, hs, a2, fun hk => ⟨a6 hk, ?_⟩⟩
    · refine ⟨p1.eqP hs.eqP, by omega, a3, ?_, ?_, ?_, ?_, ?_, ?_, ?_⟩
      · rw [pI_nf (by decide), pI_nf (by decide), pI_at]
      · rw [pI_nf (by decide), pI_at]
      · rw [pI_at]
      · rw [hs.1 303 6 (by omega) (by omega), a2.1 200 35 (by omega) (by omega), hs.1 303 5 (by omega) (by omega), a2.1 200 8 (by omega) (by omega)]; exact p7
      · rw [hs.1 303 7 (by omega) (by omega), a2.1 200 36 (by omega) (by omega)]; exact p8
      · rw [pI_ne (by decide), pI_ne (by decide), pI_ne (by decide), pI_at, a4]
        refine ⟨by omega, ?_⟩
        by_cases h1 : kp = 1
        · rw [if_pos h1]; have : ¬ m.1 200 33 = 6000 := fun h9 => hb ⟨h1, h9⟩
          omega
        · rw [if_neg h1]; omega
      · rw [a5]
        split <;> omega
    · unfold tpm
      by_cases h1 : kp = 1
      · rw [if_pos h1, if_pos h1, a4, if_pos h1]; omega
      · have hk2 : kp = 2 := hkp.elim (fun q => absurd q hk) (fun q => q.elim (fun q => absurd q h1) id)
        clear hT
        rw [if_neg h1, if_neg h1, a5, if_pos hk2]; omega
