/-! reading in lock step: signs and new names when nobody keeps tokens -/
section
variable {N : Nat} {B : Nat → Int} {e mm i : Nat} {t m : St}
theorem pass0 {as : Int} (h : PR t m B e mm 0 i) (hlt : i < mm) (hN : 5000 ≤ N) : ∃ u v : St, f_X7_pass N t = some (1, u) ∧ f_X12_takes N as m = some (1, v) ∧ PR u v B e mm 0 (i + 1) ∧ sC t u ∧ eqF m v := by
  obtain ⟨u, v, q1, q2, q3, q4, q5⟩ := nx0 (N := N) h hlt hN
  have h36 : m.1 200 36 = 0 := h.2.2.2.2.2.2.2.1.1
  refine ⟨u, v, q1, ?_, q3, q4, q5⟩
  have k01 : ∀ X : Option (Int × St), cmpI 0 1 X = X := fun X => cmpI_ok (by omega)
  have k02 : ∀ X : Option (Int × St), cmpI 0 2 X = X := fun X => cmpI_ok (by omega)
  have n01 : ((0 : Int) = 1) = False := eq_false (by decide)
  have n02 : ((0 : Int) = 2) = False := eq_false (by decide)
  unfold f_X12_takes
  simp only [lt1_k, jn1_k, h36, k01, k02, n01, n02, if_false, q2, bdV_s, boI_1]
/-- a sign -/
theorem sign0 {k : Int} (h : PR t m B e mm 0 i) (hk : isSg k) (hN : 5000 ≤ N) : (f_X7_take N (40 + sgi k) t = some (0, pI t 303 5 1) ∧ f_X12_sign N k m = some (0, pI m 200 8 1)) ∨ ∃ u v : St, f_X7_take N (40 + sgi k) t = some (1, u) ∧ f_X12_sign N k m = some (1, v) ∧ PR u v B e mm 0 (i + 1) ∧ sC t u ∧ eqF m v := by
  have hq := tq_of h
  generalize hhk : cKd B e (ch B e i) = hk9 at hq
  have hsr := sgi_rng k
  have hr := hq.rng
  unfold f_X7_take f_X12_sign
  rw [lt1_k, hq.1, cmpI_ok (by omega), k_isSign hq hk, bdI_s]
  by_cases h9 : hk9 = 40 + sgi k
  · right
    obtain ⟨u, v, q1, q2, q3⟩ := pass0 (N := N) (as := 5000 + k) h (tq_lt h (by omega)) hN
    rw [if_pos h9, if_pos h9, cmpI_ok (by omega), if_neg (by decide)]
    exact ⟨u, v, by rw [q1, bdI_s, boI_1], by rw [q2, bdI_s, boI_1], q3⟩
  · left
    rw [if_neg h9, if_neg h9, cmpI_ok (by omega), if_pos rfl, c_wrong, s_wrong, bdI_s, bdI_s, boI_0, boI_0]
    exact ⟨rfl, rfl⟩
/-- a key word -/
theorem key0 {k : Int} (h : PR t m B e mm 0 i) (hk : 0 ≤ k ∧ k ≤ 37) (hN : 5000 ≤ N) : (f_X7_take N k t = some (0, pI t 303 5 1) ∧ f_X12_key N k m = some (0, pI m 200 8 1)) ∨ ∃ u v : St, f_X7_take N k t = some (1, u) ∧ f_X12_key N k m = some (1, v) ∧ PR u v B e mm 0 (i + 1) ∧ sC t u ∧ eqF m v := by
  have hq := tq_of h
  generalize hhk : cKd B e (ch B e i) = hk9 at hq
  have hr := hq.rng
  unfold f_X7_take f_X12_key
  rw [lt1_k, hq.1, cmpI_ok (by omega), k_isKey hq hk, bdI_s]
  by_cases h9 : hk9 = k
  · right
    obtain ⟨u, v, q1, q2, q3⟩ := pass0 (N := N) (as := k) h (tq_lt h (by omega)) hN
    rw [if_pos h9, if_pos h9, cmpI_ok (by omega), if_neg (by decide)]
    exact ⟨u, v, by rw [q1, bdI_s, boI_1], by rw [q2, bdI_s, boI_1], q3⟩
  · left
    rw [if_neg h9, if_neg h9, cmpI_ok (by omega), if_pos rfl, c_wrong, s_wrong, bdI_s, bdI_s, boI_0, boI_0]
    exact ⟨rfl, rfl⟩
end
