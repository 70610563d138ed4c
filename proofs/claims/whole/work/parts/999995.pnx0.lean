/-! reading in lock step: tokens that nobody keeps -/
section
variable {N : Nat} {B : Nat → Int} {e mm i a c : Nat} {t m : St}
theorem nx0 (h : PR t m B e mm 0 i) (hlt : i < mm) (hN : 5000 ≤ N) : ∃ u v : St, f_X7_pass N t = some (1, u) ∧ f_X12_next N m = some v ∧ PR u v B e mm 0 (i + 1) ∧ sC t u ∧ eqF m v := by
  obtain ⟨v, a1, a2, a3⟩ := s_nextT (N := N) h.2.2.1 hN
  have h36 : m.1 200 36 = 0 := h.2.2.2.2.2.2.2.1.1
  have ht : f_X12_takes N 0 m = some (1, v) := by
    have k01 : ∀ X : Option (Int × St), cmpI 0 1 X = X := fun X => cmpI_ok (by omega)
    have k02 : ∀ X : Option (Int × St), cmpI 0 2 X = X := fun X => cmpI_ok (by omega)
    have n01 : ((0 : Int) = 1) = False := eq_false (by decide)
    have n02 : ((0 : Int) = 2) = False := eq_false (by decide)
    unfold f_X12_takes
    simp only [lt1_k, jn1_k, h36, k01, k02, n01, n02, if_false, a1, bdV_s, boI_1]
  rcases PTK (N := N) (as := 0) h (Or.inl rfl) hlt hN with ⟨q1, q2⟩ | ⟨u, v2, q1, q2, q3, q4, q5, q6⟩
  · rw [ht] at q2
    have q3 : (1 : Int) = 0 := congrArg Prod.fst (Option.some.inj q2)
    exact absurd q3 (by decide)
  · rw [ht] at q2
    have e2 : v = v2 := congrArg Prod.snd (Option.some.inj q2)
    subst e2
    exact ⟨u, v, q1, a1, q3, q4, a2⟩
/-- a number, as the hall looks at it -/
theorem nf_at {lo hi : Int} {hk : Int} (hq : TQk t m hk) (hlo : inR lo) (hhi : inR hi) : f_X7_numberFault N lo hi t = if hk = 39 then (if m.1 200 5 < lo ∨ hi < m.1 200 5 then some (4, pI t 303 8 (m.1 200 5)) else some (0, pI t 303 8 (m.1 200 5))) else some (1, t) := by
  have hr := hq.rng
  unfold f_X7_numberFault
  simp only [lt1_k]
  rw [hq.1, cmpI_ok (by omega)]
  by_cases h39 : hk = 39
  · rw [if_pos h39, if_pos h39]
    have hn : t.1 303 4 = m.1 200 5 ∧ -99999 ≤ m.1 200 5 ∧ m.1 200 5 ≤ 99999 := by
      have hs := sgi_rng (m.1 200 5)
      have hs2 := (sgi_neg (c := m.1 200 5))
      rcases hq.2 with h8 | h8 | h8 | h8 | h8 | h8
      · omega
      · omega
      · exact h8.2.2
      · have := h8.2.2; have := h8.2.1; omega
      · omega
      · omega
    rw [hn.1, pI_at, cmpI_ok (by omega)]
    by_cases h1 : m.1 200 5 < lo
    · rw [if_pos h1, if_pos (Or.inl h1)]
    · rw [if_neg h1, cmpI_ok (by omega)]
      by_cases h2 : hi < m.1 200 5
      · rw [if_pos h2, if_pos (Or.inr h2)]
      · rw [if_neg h2, if_neg (by omega)]
  · rw [if_neg h39, if_neg h39]
/-- the model's kind 3 is the hall's 39 -/
theorem TQk.n3 {hk : Int} (hq : TQk t m hk) : (m.1 200 3 = 3 ↔ hk = 39) ∧ inR (m.1 200 3) ∧ (hk = 39 → t.1 303 4 = m.1 200 5 ∧ -99999 ≤ m.1 200 5 ∧ m.1 200 5 ≤ 99999) := by
  have hs := sgi_rng (m.1 200 5)
  have hs2 := (sgi_neg (c := m.1 200 5))
  rcases hq.2 with h8 | h8 | h8 | h8 | h8 | h8
  · exact ⟨by omega, by omega, by omega⟩
  · exact ⟨by omega, by omega, by omega⟩
  · exact ⟨by omega, by omega, fun _ => h8.2.2⟩
  · have := h8.2.2; have := h8.2.1
    exact ⟨by omega, by omega, by omega⟩
  · exact ⟨by omega, by omega, by omega⟩
  · exact ⟨by omega, by omega, by omega⟩
/-- slots of a form that is being read, n of them -/
def SLr (f n : Nat) (t m : St) : Prop := ∀ x, x < n → t.1 351 ((f * 8 + x) * 4) = m.1 19 (8 * f + x) ∧ t.1 352 ((f * 8 + x) * 4) = m.1 20 (8 * f + x) ∧ inR (m.1 19 (8 * f + x)) ∧ inR (m.1 20 (8 * f + x))
/-- two at one place: both sides look alike -/
theorem slot_dup {f n : Nat} {X Y : Int} (hf : f < 40) (hn : n ≤ 7) (h : SLr f n t m) (h350 : t.1 350 f = n) (hX : inR X) (hY : inR Y) (h19 : m.1 19 (8 * f + n) = X) (h5 : m.1 200 5 = Y) (K17 K18 : St → Option (Int × St)) : ∀ (d x q r : Nat), x + d = n → d < q → d < r →
    (f_X0_hasSlot_L3 (fun (t12 : St) => boI 0 (some (0, t12))) f X Y q x t = some (0, t) ∧ f_X12_slot_L112 K17 K18 ((8 * f + n : Nat) : Int) r ((8 * f + x : Nat) : Int) m = K18 m ∧ ∀ y, x ≤ y → y < n → ¬ (m.1 19 (8 * f + y) = X ∧ m.1 20 (8 * f + y) = Y)) ∨ (f_X0_hasSlot_L3 (fun (t12 : St) => boI 0 (some (0, t12))) f X Y q x t = some (1, t) ∧ f_X12_slot_L112 K17 K18 ((8 * f + n : Nat) : Int) r ((8 * f + x : Nat) : Int) m = K17 m) := by
  intro d
  induction d with
  | zero =>
    intro x q r h1 h2 h3
    obtain ⟨q, rfl⟩ : ∃ k, q = k + 1 := ⟨q - 1, by omega⟩
    obtain ⟨r, rfl⟩ : ∃ k, r = k + 1 := ⟨r - 1, by omega⟩
    left
    refine ⟨?_, ?_, fun y z1 z2 => by omega⟩
    · conv => lhs; unfold f_X0_hasSlot_L3
      rw [ixI_ok (by omega), Int.toNat_natCast, lt1_k, h350, cmpI_ok (by omega), if_neg (by omega), boI_0]
    · conv => lhs; unfold f_X12_slot_L112
      rw [cmpI_ok (by omega), if_neg (by omega)]
  | succ d ih =>
    intro x q r h1 h2 h3
    obtain ⟨q, rfl⟩ : ∃ k, q = k + 1 := ⟨q - 1, by omega⟩
    obtain ⟨r, rfl⟩ : ∃ k, r = k + 1 := ⟨r - 1, by omega⟩
    obtain ⟨b1, b2, b3, b4⟩ := h x (by omega)
    have hH : f_X0_hasSlot_L3 (fun (t12 : St) => boI 0 (some (0, t12))) f X Y (q + 1) x t = if m.1 19 (8 * f + x) = X ∧ m.1 20 (8 * f + x) = Y then some (1, t) else f_X0_hasSlot_L3 (fun (t12 : St) => boI 0 (some (0, t12))) f X Y q ((x + 1 : Nat) : Int) t := by
      conv => lhs; unfold f_X0_hasSlot_L3
      simp only [lt1_k, jn1_k]
      rw [ixI_ok (by omega), Int.toNat_natCast, h350, cmpI_ok (by omega), if_pos (by omega), ixI_ok (by omega), show (((f : Int) * 8 + (x : Int)) * 4).toNat = (f * 8 + x) * 4 by omega, b1, cmpI_ok ⟨b3, hX⟩, ixI_ok (by omega), b2, cmpI_ok ⟨b4, hY⟩, boI_1, show (x : Int) + 1 = ((x + 1 : Nat) : Int) by omega]
      by_cases z1 : m.1 19 (8 * f + x) = X
      · rw [if_pos z1]
        by_cases z2 : m.1 20 (8 * f + x) = Y
        · rw [if_pos z2, if_pos ⟨z1, z2⟩]
        · rw [if_neg z2, if_neg (fun q => z2 q.2)]
      · rw [if_neg z1, if_neg (fun q => z1 q.1)]
    have hM : f_X12_slot_L112 K17 K18 ((8 * f + n : Nat) : Int) (r + 1) ((8 * f + x : Nat) : Int) m = if m.1 19 (8 * f + x) = X ∧ m.1 20 (8 * f + x) = Y then K17 m else f_X12_slot_L112 K17 K18 ((8 * f + n : Nat) : Int) r ((8 * f + (x + 1) : Nat) : Int) m := by
      conv => lhs; unfold f_X12_slot_L112
      simp only [lt1_k, jn1_k]
      rw [cmpI_ok (by omega), if_pos (by omega), ixI_ok (by omega), ixI_ok (by omega), Int.toNat_natCast, Int.toNat_natCast, h19, cmpI_ok ⟨b3, hX⟩, ixI_ok (by omega), h5, cmpI_ok ⟨b4, hY⟩, show ((8 * f + x : Nat) : Int) + 1 = ((8 * f + (x + 1) : Nat) : Int) by omega]
      by_cases z1 : m.1 19 (8 * f + x) = X
      · rw [if_pos z1]
        by_cases z2 : m.1 20 (8 * f + x) = Y
        · rw [if_pos z2, if_pos ⟨z1, z2⟩]
        · rw [if_neg z2, if_neg (fun q => z2 q.2)]
      · rw [if_neg z1, if_neg (fun q => z1 q.1)]
    rw [hH, hM]
    by_cases z : m.1 19 (8 * f + x) = X ∧ m.1 20 (8 * f + x) = Y
    · rw [if_pos z, if_pos z]; exact Or.inr ⟨rfl, rfl⟩
    · rw [if_neg z, if_neg z]
      rcases ih (x + 1) q r (by omega) (by omega) (by omega) with ⟨o1, o2, o3⟩ | o
      · refine Or.inl ⟨o1, o2, fun y z1 z2 => ?_⟩
        by_cases hy : y = x
        · rw [hy]; exact z
        · exact o3 y (by omega) z2
      · exact Or.inr o
end
