/-! reading in lock step: single words -/
section
variable {N : Nat} {M : St} {B : Nat → Int} {e mm i a c H : Nat} {kp : Int} {t m : St}
theorem wt_one {tk : Nat → Int} {c : Nat} (h : WTk (tk c)) : ∀ x, c ≤ x → x < c + 1 → WTk (tk x) := fun x h1 h2 => by
  have : x = c := by omega
  subst this; exact h
theorem PXw.kd (h : PXw M B e mm kp i a c t m) : TQk t m (cKd B e (ch B e i)) := tq_of h.1
/-- the words of one token: all, larks, robins, heads, sides -/
theorem one_pl {fN fG : Int → St → Option (Int × St)} {fT fO : St → Option (Int × St)} (h : PXw M B e mm kp i a c t m) {w : Int} (hw : 14 ≤ w ∧ w ≤ 18) (hk : cKd B e (ch B e i) = w) (hN : 5000 ≤ N) :
    SIM B e mm t m a c (RWw (WO M H) M B e mm kp i a c t m) (o_X7_readOne N fN fG t) (o_X12_whoOne N fT fO m) := by
  have hq := h.kd
  rw [hk] at hq
  have hlt := tq_lt h.1 (by omega)
  have hmk : m.1 200 3 = 1 ∧ m.1 200 5 = w := by
    have h0 := hq.2
    have hs := sgi_rng (m.1 200 5)
    have hs2 := (sgi_neg (c := m.1 200 5))
    rcases h0 with h8 | h8 | h8 | h8 | h8 | h8
    · exact ⟨h8.1, h8.2.1⟩
    · omega
    · omega
    · have := h8.2.2; have := h8.2.1; omega
    · omega
    · omega
  have hV := h.2.2.2.2.2.2
  have hmo : o_X12_whoOne N fT fO m = bdI (f_X12_takes N w m) fun x y => boI x (some (x, y)) := by
    unfold o_X12_whoOne
    rw [k_isSign hq (by unfold isSg; omega), bdI_s, if_neg (by rw [show sgi 40 = 2 from rfl]; omega), cmpI_ok (by omega), if_pos rfl]
    simp only [lt1_k]
    rw [hmk.1, cmpI_ok (by omega), if_pos rfl, hmk.2, rnI_ok (by omega)]
    have : w = 14 ∨ w = 15 ∨ w = 16 ∨ w = 17 ∨ w = 18 := by omega
    rcases this with rfl | rfl | rfl | rfl | rfl <;> rfl
  have hha : o_X7_readOne N fN fG t = bdI (f_X7_pass N t) fun v7 t6 => cmpI v7 0 (if v7 = 0 then boI 0 (some (0, t6)) else bdI (f_X0_put N (w - 14) 0 t6) fun _ t16 => boI 1 (some (1, t16))) := by
    unfold o_X7_readOne
    simp only [lt1_k, jn1_k]
    rw [hq.1, cmpI_ok (by omega), if_neg (by omega), cmpI_ok (by omega), if_neg (by omega), cmpI_ok (by omega), if_neg (by omega), cmpI_ok (by omega), if_neg (by omega)]
    congr 1
    funext v7 t6
    rw [cmpI_ok (show inR w ∧ inR 19 by omega), if_neg (show ¬ w = 19 by omega), cmpI_ok (show inR w ∧ inR 20 by omega), if_neg (show ¬ w = 20 by omega), cmpI_ok (show inR w ∧ inR 21 by omega), if_neg (show ¬ w = 21 by omega), cmpI_ok (show inR w ∧ inR 22 by omega), if_neg (show ¬ w = 22 by omega), cmpI_ok (show inR w ∧ inR 23 by omega), if_neg (show ¬ w = 23 by omega)]
    rw [show (0 + w - 14) = w - 14 by omega, cmpI_ok (show inR 1 ∧ inR 0 by omega), if_neg (show ¬ (1 : Int) = 0 by decide), cmpI_ok (show inR w ∧ inR 23 by omega), if_neg (show ¬ w = 23 by omega)]
  rw [hha, hmo]
  rcases sim_pass (N := N) (a := a) (c := c) (as := w) h.1 (by have := h.2.2.2.2.1; omega) hlt (by rw [h.2.2.2.1]; exact Nat.le_refl _) hN with ⟨u, v, f1, f2, f3⟩ | ⟨u, v, f1, f2, f3⟩
  · left
    exact ⟨u, v, by rw [f1, bdI_s, cmpI_ok (by omega), if_pos rfl, boI_0], by rw [f2, bdI_s, boI_0], f3⟩
  · right
    obtain ⟨g1, g2, g3, g4, g5, g6, g7, g8, g9⟩ := h.nx f3.at1
    refine ⟨PU u a (0 * 64 + (w - 14)), v, ?_, by rw [f2, bdI_s, boI_1], i + 1, a + 1, c + 1, by omega, g1.U (by omega), g2.tr (FRh.U g1.2.2.1 (by omega) (Nat.le_refl a)) (Nat.le_refl a), g3, by omega, by omega, by rw [PU_ne (by decide) (by decide)]; exact g5, by rw [PU_ne (by decide) (by decide)]; exact g7, ?_, ?_, wt_one (by rw [g4]; left; omega), ?_⟩
    · rw [f1, bdI_s, cmpI_ok (by omega), if_neg (by decide), h_putK g1.2.2.1 (by omega) (by omega) (by omega), bdI_s, boI_1]
    · by_cases h14 : w = 14
      · exact wo_all (by rw [PU_at, h14]; rfl) (by rw [g4, h14])
      · exact wo_pl (kd := w - 14) (by omega) (by rw [PU_at]; omega) (by rw [g4]; omega)
    · exact ⟨w - 14, 0, by omega, by omega, by omega, by omega, PU_at⟩
    · rw [PU_ne (by decide) (by decide), g6, show c + 1 - c = 0 + 1 by omega, cnL_s, Nat.add_zero, g4, if_neg (by omega)]
      show _ = t.1 303 10 + (0 + 0); omega
/-- the rest of a word with what is behind it -/
theorem one_2 {fN fG : Int → St → Option (Int × St)} {fT fO : St → Option (Int × St)} (h : PXw M B e mm kp i a c t m) {w hi : Int} (hw : (w = 19 ∧ hi = 31) ∨ (w = 20 ∧ hi = 63)) (hk : cKd B e (ch B e i) = w) (hN : 5000 ≤ N) :
    SIM B e mm t m a c (RWw (WO M H) M B e mm kp i a c t m) (o_X7_readOne N fN fG t) (o_X12_whoOne N fT fO m) := by
  have hq := h.kd
  rw [hk] at hq
  have hlt := tq_lt h.1 (by omega)
  have hmk : m.1 200 3 = 1 ∧ m.1 200 5 = w := by
    have h0 := hq.2
    have hs := sgi_rng (m.1 200 5)
    have hs2 := (sgi_neg (c := m.1 200 5))
    rcases h0 with h8 | h8 | h8 | h8 | h8 | h8
    · exact ⟨h8.1, h8.2.1⟩
    · omega
    · omega
    · have := h8.2.2; have := h8.2.1; omega
    · omega
    · omega
  have hV := h.2.2.2.2.2.2
  have hmo : o_X12_whoOne N fT fO m = bdI (f_X12_takes N w m) fun x y => cmpI x 0 (if x = 0 then boI 0 (some (0, y)) else bdI (f_X12_number N 0 hi y) fun x2 y2 => cmpI x2 0 (if x2 = 0 then boI 0 (some (0, y2)) else boI 1 (some (1, y2)))) := by
    unfold o_X12_whoOne
    rw [k_isSign hq (by unfold isSg; omega), bdI_s, if_neg (by rw [show sgi 40 = 2 from rfl]; omega), cmpI_ok (by omega), if_pos rfl]
    simp only [lt1_k]
    rw [hmk.1, cmpI_ok (by omega), if_pos rfl, hmk.2, rnI_ok (by omega)]
    rcases hw with ⟨rfl, rfl⟩ | ⟨rfl, rfl⟩ <;> rfl
  have hha : o_X7_readOne N fN fG t = bdI (f_X7_pass N t) fun v7 t6 => cmpI v7 0 (if v7 = 0 then boI 0 (some (0, t6)) else bdI (f_X7_takeNumber N 0 hi t6) fun j u => cmpI j 0 (if j = 0 then bdI (f_X0_put N (w - 14) (u.1 303 8) u) fun _ u2 => boI j (some (j, u2)) else bdI (f_X0_put N (w - 14) (u.1 303 8) u) fun _ u2 => boI j (some (j, u2)))) := by
    unfold o_X7_readOne
    simp only [lt1_k, jn1_k]
    rw [hq.1, cmpI_ok (by omega), if_neg (by omega), cmpI_ok (by omega), if_neg (by omega), cmpI_ok (by omega), if_neg (by omega), cmpI_ok (by omega), if_neg (by omega)]
    congr 1
    funext v7 t6
    rw [show (0 + w - 14) = w - 14 by omega]
    rcases hw with ⟨rfl, rfl⟩ | ⟨rfl, rfl⟩
    · have k1 : ∀ X : Option (Int × St), cmpI 19 19 X = X := fun X => cmpI_ok (by omega)
      have k2 : ∀ X : Option (Int × St), cmpI 19 23 X = X := fun X => cmpI_ok (by omega)
      simp only [k1, k2, if_true, show ¬ ((19 : Int) = 23) by decide, if_false]
    · have k1 : ∀ X : Option (Int × St), cmpI 20 19 X = X := fun X => cmpI_ok (by omega)
      have k2 : ∀ X : Option (Int × St), cmpI 20 23 X = X := fun X => cmpI_ok (by omega)
      have k3 : ∀ X : Option (Int × St), cmpI 20 20 X = X := fun X => cmpI_ok (by omega)
      simp only [k1, k2, k3, if_true, show ¬ ((20 : Int) = 23) by decide, show ¬ ((20 : Int) = 19) by decide, if_false]
  rw [hha, hmo]
  have hkp : kp = 0 ∨ kp = 1 ∨ kp = 2 := by have := h.2.2.2.2.1; omega
  refine SIM.bind (sim_pass (N := N) (a := a) (c := c) (as := w) h.1 hkp hlt (by rw [h.2.2.2.1]; exact Nat.le_refl _) hN) (fun u v f3 => ?_)
  obtain ⟨g1, g2, g3, g4, g5, g6, g7, g8, g9⟩ := h.nx f3.at1
  have hnum := sim_num (N := N) (a := a) (c := c + 1) (lo := 0) (hi := hi) g1.1 hkp (by omega) (by omega) (by rw [g1.2.2.2.1]; exact Nat.le_refl _) hN
  have hnum := SIM.weak hnum g2 g3 (Nat.le_refl a) (by omega)
  have h18 := h.2.2.1
  rcases hnum with hf | ⟨u2, v2, q1, q2, x, q3, q4, q5, q6⟩
  · left
    have hp := FLT.put (N := N) (kd := w - 14) (vl := fun u => u.1 303 8) hf (by omega) (by omega)
    obtain ⟨u2, v2, q1, q2, q3⟩ := hf
    rw [q1, q2] at hp ⊢
    rw [bdI_s, cmpI_ok (by omega), if_pos rfl, bdI_s, cmpI_ok (by omega), if_pos rfl, boI_0]
    exact hp
  · right
    obtain ⟨k1, k2, k3, k4, k5, k6, k7, k8, k9⟩ := g1.nx q6
    have hx31 : v2.1 31 c = w := by rw [k9 c (by omega)]; exact g4
    refine ⟨PU u2 a (x * 64 + (w - 14)), v2, ?_, ?_, i + 2, a + 1, c + 2, by omega, k1.U (by omega), (g2.tr k2 (Nat.le_refl a)).tr (FRh.U k1.2.2.1 (by omega) (Nat.le_refl a)) (Nat.le_refl a), g3.tr k3 (by omega), by omega, by omega, by rw [PU_ne (by decide) (by decide), k5, g5], by rw [PU_ne (by decide) (by decide), k7, g7], ?_, ?_, ?_, ?_⟩
    · rw [q1, bdI_s, cmpI_ok (by omega), if_neg (by decide), q4, h_putK k1.2.2.1 (by omega) (by omega) (by omega), bdI_s, boI_1]
    · rw [q2, bdI_s, cmpI_ok (by omega), if_neg (by decide), boI_1]
    · exact wo_nu (kd := w - 14) (v := x) (by omega) (by omega) (by omega) PU_at (by rw [hx31]; omega) k4
    · exact ⟨w - 14, x, by omega, by omega, by omega, by omega, PU_at⟩
    · intro y hy1 hy2
      by_cases hyc : y = c
      · rw [hyc, hx31]; left; omega
      · rw [show y = c + 1 by omega, k4]; left; omega
    · rw [PU_ne (by decide) (by decide), k6, g6, show c + 2 - c = 0 + 1 + 1 by omega, cnL_s, cnL_s, Nat.add_zero, hx31, if_neg (by omega), show c + (0 + 1) = c + 1 by omega, k4, if_neg (by omega)]
      show _ = t.1 303 10 + (0 + 0 + 0); omega
end
