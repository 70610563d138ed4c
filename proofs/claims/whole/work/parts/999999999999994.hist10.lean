/-! call, both sides: the text -/
section
variable {N : Nat} {t m : St} {B : Nat → Int} {e mm a c : Nat}
theorem BKh.px2 (h : BKh B e mm 0 a c t m) (h34 : m.1 200 34 = 0) : PXw m B e mm 2 0 a 6000 t (pI m 200 36 2) := by
  obtain ⟨h1, h2, h3, h4, h5, h6, h7, h8, h9⟩ := h
  have hp := h1.2.2.2.2.2.2.2.2.1
  have hmm := h1.1.2.2.2.2.2
  have f2 : FRm m (pI m 200 36 2) 0 := FRm.p (by unfold PFd; omega)
  have e7 : t.1 303 7 = 0 := h1.2.2.2.2.2.2.2.1.2
  refine ⟨h1.mv (k2 := 2) h1.1 (fun b hb => rfl) rfl (fun b _ _ _ _ _ hb => by rw [pI_nf hb]) (by rw [pI_ne (by decide)]) (by rw [pI_at]) (by rw [e7]; rfl), h2.fr (FRh.rf (a := 0)) f2, h3, ?_, Or.inr rfl, h6.fr (FRh.rf (a := 0)) f2, by omega⟩
  unfold tpm
  rw [if_neg (by decide), pI_nf (by decide), h34]
  rfl
/-- what the model does when the text was read -/
def callB (N : Nat) (v : St) : Option (Int × St) := ixI (6000 + v.1 200 34) 10100 (bdV (f_X12_writes N (pI v 31 (6000 + v.1 200 34).toNat 5000)) fun t11 => bdL (f_X12_everybody N t11) fun v13 t12 => bdI (f_X12_dances N 6000 v13 t12) fun v15 t14 => cmpI v15 0 (if v15 = 0 then (bdV (f_X12_keeps N t14) fun t16 => some (v15, t16)) else (some (v15, t14))))
theorem call_read (hN : 5000 ≤ N) (hB : BK0 t m) (hT : TXt t m) (hkw : kwOK t) : ∃ (B : Nat → Int) (e mm a : Nat) (t1 u0 v0 t2 v2 : St), f_X10_read N t = some t1 ∧ t1.1 302 18 = t.1 302 18 ∧ f_X7_readCall N t1 = some t2 ∧ (RDh t u0 ∧ FRh u0 t2 a ∧ t.1 302 18 = a) ∧ (RDm m v0 ∧ FRm v0 v2 6000) ∧ BK0 u0 v0 ∧
    ((FR t2 v2 B e mm ∧ f_X12_call N m = some ((-2) - v2.1 200 4, pI v2 200 36 0)) ∨ (∃ i2 b d : Nat, PXw v0 B e mm 2 i2 b d t2 v2 ∧ STp v0 (t2.1 363) (v2.1 31) a b 6000 d ∧ d = 6000 + i2 ∧ f_X12_call N m = callB N (pI v2 200 36 0))) := by
  obtain ⟨B, e, mm, t1, u0, v0, a1, a2, a3, hP, h6, hB0, hR, hS, h18⟩ := rd_start hN hB hT hkw
  obtain ⟨a, c, hK⟩ := hB0.kh hP h6
  have h34 : v0.1 200 34 = 0 := by have := hP.2.2.2.2.2.2.2.2.2; omega
  have hX := hK.px2 h34
  have hc6 := hP.2.2.2.2.2.2.2.2.1
  have hmm := hP.1.2.2.2.2.2
  obtain ⟨_, _, k3, k4, k5, k6, _, _, _⟩ := id hK
  have f0 : FRm v0 (pI v0 200 36 2) 6000 := FRm.p (by unfold PFd; omega)
  have ha : t.1 302 18 = a := by rw [← hR.1 302 18 (by omega) (by omega) (by omega) (by omega) (by omega)]; exact k3
  have eH : f_X7_readCall N t1 = bdI (f_X7_readStep N u0) fun v3 t2 => cmpI v3 0 (if v3 = 0 then (some t2) else (cmpI (t2.1 303 3) 48 (if t2.1 303 3 = 48 then (some t2) else (bdI (f_X7_wrong N 1 t2) fun v6 t5 => some t5)))) := by
    unfold f_X7_readCall
    simp only [lt1_k]
    rw [a2, bdV_s]
  have fin0 : ∀ v2 : St, f_X12_stepText N (pI v0 200 36 2) = some (0, v2) → f_X12_call N m = some ((-2) - v2.1 200 4, pI v2 200 36 0) := fun v2 hv => by
    unfold f_X12_call
    simp only [lt1_k, jn1_k]
    rw [a3, bdV_s, hv, bdI_s, cmpI_ok (by omega), if_pos rfl, cmpI_ok (by omega), if_pos trivial, pI_nf (by decide)]
  have ha5 : a ≤ 5999 := by
    obtain ⟨a9, c9, n1, n2, n3, n4, n5⟩ := hB0.2.1.1
    omega
  have hst := step_both (H := 30) (M := v0) hN (by omega) (by have := k6.2.2.1; omega) hX (by rw [h6]; rfl) (by omega)
  rcases hst with ⟨u, v, s1, s2, s3, s4, s5⟩ | ⟨u, v, s1, s2, i2, b, d, r1, r2, r3, r4, r5, r6, r7, r8, r9, r10, r11⟩
  · refine ⟨B, e, mm, a, t1, u0, v0, u, v, a1, h18, ?_, ⟨hR, s4, ha⟩, ⟨hS, f0.tr s5 (Nat.le_refl _)⟩, hB0, Or.inl ⟨s3, fin0 v s2⟩⟩
    rw [eH, s1, bdI_s, cmpI_ok (by omega), if_pos rfl]
  · have hq := tq_of r2.1
    have he := hq.e0
    have hrg := hq.rng
    have h3 : u.1 303 3 = cKd B e (ch B e i2) := hq.1
    by_cases c48 : cKd B e (ch B e i2) = 48
    · have v3 : v.1 200 3 = 0 := he.1.mpr c48
      refine ⟨B, e, mm, a, t1, u0, v0, u, v, a1, h18, ?_, ⟨hR, r3, ha⟩, ⟨hS, f0.tr r4 (Nat.le_refl _)⟩, hB0, Or.inr ⟨i2, b, d, r2, r8, by omega, ?_⟩⟩
      · rw [eH, s1, bdI_s, cmpI_ok (by omega), if_neg (by decide), h3, c48, cmpI_ok (by omega), if_pos rfl]
      · unfold f_X12_call callB
        simp only [lt1_k, jn1_k]
        rw [a3, bdV_s, s2, bdI_s, cmpI_ok (by omega), if_neg (by decide), v3, cmpI_ok (by omega), if_pos rfl, cmpI_ok (by omega), if_neg (by decide)]
    · have v3 : v.1 200 3 ≠ 0 := fun hh => c48 (he.1.mp hh)
      obtain ⟨u9, v9, w1, w2, w3, w4, w5⟩ := flt_w (a := b) (c := d) (f := 1) N r2.1 (by omega)
      have hab : a ≤ b ∧ 6000 ≤ d := by
        obtain ⟨H2, p, q1, q2, e2, q3, q4, q5⟩ := r8
        have := STq.lt q4; omega
      refine ⟨B, e, mm, a, t1, u0, v0, u9, v9, a1, h18, ?_, ⟨hR, r3.tr w4 hab.1, ha⟩, ⟨hS, (f0.tr r4 (Nat.le_refl _)).tr w5 hab.2⟩, hB0, Or.inl ⟨w3, ?_⟩⟩
      · rw [eH, s1, bdI_s, cmpI_ok (by omega), if_neg (by decide), h3, cmpI_ok (by omega), if_neg c48, w1, bdI_s]
      · unfold f_X12_call
        simp only [lt1_k, jn1_k]
        rw [a3, bdV_s, s2, bdI_s, cmpI_ok (by omega), if_neg (by decide), cmpI_ok ⟨he.2, by omega⟩, if_neg v3, w2, bdI_s, cmpI_ok (by omega), if_pos rfl, cmpI_ok (by omega), if_pos trivial, pI_nf (by decide)]
end
