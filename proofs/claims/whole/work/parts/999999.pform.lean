/-! reading in lock step: the slots of a form -/
/-- n slots as they may be -/
def SLk (m : St) (f n : Nat) : Prop := (∀ j, j < n → (-32 ≤ m.1 19 (8 * f + j) ∧ m.1 19 (8 * f + j) ≤ 32) ∧ (-32 ≤ m.1 20 (8 * f + j) ∧ m.1 20 (8 * f + j) ≤ 32) ∧ (0 ≤ m.1 21 (8 * f + j) ∧ m.1 21 (8 * f + j) ≤ 4) ∧ (0 ≤ m.1 22 (8 * f + j) ∧ m.1 22 (8 * f + j) ≤ 2)) ∧ ∀ i j, i < n → j < n → m.1 19 (8 * f + i) = m.1 19 (8 * f + j) → m.1 20 (8 * f + i) = m.1 20 (8 * f + j) → i = j
theorem SLk.cg {m v : St} {f n : Nat} (h : SLk m f n) (g : ∀ x y : Nat, 19 ≤ x → x ≤ 22 → y < 8 * f + n → v.1 x y = m.1 x y) : SLk v f n := by
  refine ⟨fun j hj => ?_, fun i j hi hj => ?_⟩
  · rw [g 19 (8 * f + j) (by omega) (by omega) (by omega), g 20 (8 * f + j) (by omega) (by omega) (by omega), g 21 (8 * f + j) (by omega) (by omega) (by omega), g 22 (8 * f + j) (by omega) (by omega) (by omega)]; exact h.1 j hj
  · rw [g 19 (8 * f + i) (by omega) (by omega) (by omega), g 20 (8 * f + i) (by omega) (by omega) (by omega), g 19 (8 * f + j) (by omega) (by omega) (by omega), g 20 (8 * f + j) (by omega) (by omega) (by omega)]; exact h.2 i j hi hj
section
variable {N : Nat} {B : Nat → Int} {e mm f : Nat} {t0 m0 : St}
theorem form_lp (hN : 5000 ≤ N) (hf : f < 40) (K15 : Int → St → Option (Int × St)) (K17 : St → Option (Int × St)) : ∀ (k n q r i : Nat) (t m : St), k + n = 8 → k < q → k + 1 < r → PR t m B e mm 0 i → m.1 200 14 = f → fhO t m f n → SLk m f n → FSh f t0 t → FSm f m0 m →
    (∃ u v : St, f_X7_readForm_L92 N (fun (t23 : St) => bdI (f_X7_take N 45 t23) fun v25 t24 => boI v25 (some (v25, t24))) K17 f q n t = some (0, u) ∧ f_X12_form_L54 N (fun (t25 : St) => bdI (f_X12_wrong N 1 t25) fun v27 t26 => boI v27 (some (v27, t26))) K15 r n 1 m = some (0, v) ∧ FR u v B e mm ∧ FSh f t0 u ∧ FSm f m0 v) ∨
    ∃ (u v : St) (n2 i2 : Nat), f_X7_readForm_L92 N (fun (t23 : St) => bdI (f_X7_take N 45 t23) fun v25 t24 => boI v25 (some (v25, t24))) K17 f q n t = some (1, u) ∧ f_X12_form_L54 N (fun (t25 : St) => bdI (f_X12_wrong N 1 t25) fun v27 t26 => boI v27 (some (v27, t26))) K15 r n 1 m = K15 n2 v ∧ i < i2 ∧ PR u v B e mm 0 i2 ∧ fhO u v f n2 ∧ 1 ≤ n2 ∧ n2 ≤ 8 ∧ SLk v f n2 ∧ FSh f t0 u ∧ FSm f m0 v := by
  intro k
  induction k with
  | zero =>
    intro n q r i t m z1 z2 z3 h h14 hO hR g1 g2
    obtain ⟨q, rfl⟩ : ∃ k, q = k + 1 := ⟨q - 1, by omega⟩
    obtain ⟨r, rfl⟩ : ∃ k, r = k + 1 := ⟨r - 1, by omega⟩
    left
    rcases slot_both hN h hf (by omega) h14 hO (fun x hx => ⟨(hR.1 x hx).1, (hR.1 x hx).2.1⟩) with ⟨u, v, p1, p2, p3, p4, p5⟩ | ⟨u, v, p1, p2, i2, q1, q2, q3, q4, _⟩
    · refine ⟨u, v, ?_, ?_, p3, g1.tr p4, g2.tr p5⟩
      · conv => lhs; unfold f_X7_readForm_L92
        rw [cmpI_ok (by omega), if_neg (by omega), p1, bdI_s, cmpI_ok (by omega), if_pos rfl, boI_0]
      · conv => lhs; unfold f_X12_form_L54
        rw [cmpI_ok (by omega), if_neg (by decide), p2, bdI_s, cmpI_ok (by omega), if_pos rfl, boI_0]
    · omega
  | succ k ih =>
    intro n q r i t m z1 z2 z3 h h14 hO hR g1 g2
    obtain ⟨q, rfl⟩ : ∃ k, q = k + 1 := ⟨q - 1, by omega⟩
    obtain ⟨r, rfl⟩ : ∃ k, r = k + 1 := ⟨r - 1, by omega⟩
    rcases slot_both hN h hf (by omega) h14 hO (fun x hx => ⟨(hR.1 x hx).1, (hR.1 x hx).2.1⟩) with ⟨u, v, p1, p2, p3, p4, p5⟩ | ⟨u, v, p1, p2, i2, q1, q2, q3, q4, q5, q6, q7, q8, q9, q10, q11, q12⟩
    · left
      refine ⟨u, v, ?_, ?_, p3, g1.tr p4, g2.tr p5⟩
      · conv => lhs; unfold f_X7_readForm_L92
        rw [cmpI_ok (by omega), if_neg (by omega), p1, bdI_s, cmpI_ok (by omega), if_pos rfl, boI_0]
      · conv => lhs; unfold f_X12_form_L54
        rw [cmpI_ok (by omega), if_neg (by decide), p2, bdI_s, cmpI_ok (by omega), if_pos rfl, boI_0]
    · have hq := tq_of q2
      generalize hk9 : cKd B e (ch B e i2) = w at hq
      have hr := hq.rng
      have hRv : SLk v f n := hR.cg (fun x y z1 z2 z3 => q9 x y (by omega) (by omega))
      have hR2 : SLk v f (n + 1) := by
        refine ⟨fun x hx => ?_, fun x y hx hy z1 z2 => ?_⟩
        · by_cases hxn : x = n
          · subst hxn; exact ⟨q7, q8, q10, q11⟩
          · exact hRv.1 x (by omega)
        · by_cases hxn : x = n
          · by_cases hyn : y = n
            · omega
            · exfalso; rw [hxn] at z1 z2; exact q12 y (by omega) ⟨z1.symm, z2.symm⟩
          · by_cases hyn : y = n
            · exfalso; rw [hyn] at z1 z2; exact q12 x (by omega) ⟨z1, z2⟩
            · exact hRv.2 x y (by omega) (by omega) z1 z2
      have v14 : v.1 200 14 = f := by rw [q6.1 200 14 (by omega) (by omega)]; exact h14
      have hH : f_X7_readForm_L92 N (fun (t23 : St) => bdI (f_X7_take N 45 t23) fun v25 t24 => boI v25 (some (v25, t24))) K17 f (q + 1) n t = (if w = 44 then (bdI (f_X7_pass N u) fun _ t21 => f_X7_readForm_L92 N (fun (t23 : St) => bdI (f_X7_take N 45 t23) fun v25 t24 => boI v25 (some (v25, t24))) K17 f q ((n + 1 : Nat) : Int) t21) else bdI (f_X7_take N 45 u) fun v25 t24 => boI v25 (some (v25, t24))) := by
        conv => lhs; unfold f_X7_readForm_L92
        simp only [lt1_k]
        rw [cmpI_ok (by omega), if_neg (by omega), p1, bdI_s, cmpI_ok (by omega), if_neg (by decide), hq.1, cmpI_ok (by omega)]
        rfl
      have hM : f_X12_form_L54 N (fun (t25 : St) => bdI (f_X12_wrong N 1 t25) fun v27 t26 => boI v27 (some (v27, t26))) K15 (r + 1) n 1 m = (if w = 44 then (bdV (f_X12_next N v) fun t22 => f_X12_form_L54 N (fun (t25 : St) => bdI (f_X12_wrong N 1 t25) fun v27 t26 => boI v27 (some (v27, t26))) K15 r ((n + 1 : Nat) : Int) 1 t22) else if w = 45 then (bdV (f_X12_next N v) fun t22 => f_X12_form_L54 N (fun (t25 : St) => bdI (f_X12_wrong N 1 t25) fun v27 t26 => boI v27 (some (v27, t26))) K15 r ((n + 1 : Nat) : Int) 0 t22) else bdI (f_X12_wrong N 1 v) fun v27 t26 => boI v27 (some (v27, t26))) := by
        conv => lhs; unfold f_X12_form_L54
        simp only [jn1_k]
        rw [cmpI_ok (by omega), if_neg (by decide), p2, bdI_s, cmpI_ok (by omega), if_neg (by decide), k_isSign hq (by unfold isSg; omega), bdI_s, show (40 : Int) + sgi 44 = 44 from rfl]
        by_cases w44 : w = 44
        · rw [if_pos w44, if_pos w44, cmpI_ok (by omega), if_neg (by decide)]
          rfl
        · rw [if_neg w44, if_neg w44, cmpI_ok (by omega), if_pos rfl, k_isSign hq (by unfold isSg; omega), bdI_s, show (40 : Int) + sgi 59 = 45 from rfl]
          by_cases w45 : w = 45
          · rw [if_pos w45, if_pos w45, cmpI_ok (by omega), if_neg (by decide)]
            rfl
          · rw [if_neg w45, if_neg w45, cmpI_ok (by omega), if_pos rfl]
      rw [hH, hM]
      by_cases w44 : w = 44
      · obtain ⟨u2, v2, s1, s2, s3, s4, s5⟩ := nx0 (N := N) q2 (tq_lt q2 (by omega)) hN
        rw [if_pos w44, if_pos w44, s1, bdI_s, s2, bdV_s]
        have hO2 : fhO u2 v2 f (n + 1) := by
          refine ⟨by rw [s4.1 350 f (by omega) (by omega)]; exact q3.1, fun j hj => ?_⟩
          have ho := q3.2 j hj
          rw [s5.1 19 _ (by omega), s5.1 20 _ (by omega), s5.1 21 _ (by omega), s5.1 22 _ (by omega), s4.1 353 _ (by omega) (by omega)]
          exact ⟨fun y hy => by rw [s4.1 351 _ (by omega) (by omega), s4.1 352 _ (by omega) (by omega)]; exact ho.1 y hy, ho.2⟩
        rcases ih (n + 1) q r (i2 + 1) u2 v2 (by omega) (by omega) (by omega) s3 (by rw [s5.1 200 14 (by omega)]; exact v14) hO2 (hR2.cg (fun x y z1 z2 z3 => s5.1 x y (by omega))) ((g1.tr q5).tr (FSh.c s4)) ((g2.tr q6).tr (FSm.c s5)) with hl | ⟨u3, v3, n3, i3, o1, o2, o3, o4⟩
        · exact Or.inl hl
        · exact Or.inr ⟨u3, v3, n3, i3, o1, o2, by omega, o4⟩
      · rw [if_neg w44, if_neg w44]
        by_cases w45 : w = 45
        · obtain ⟨u2, v2, s1, s2, s3, s4, s5⟩ := nx0 (N := N) q2 (tq_lt q2 (by omega)) hN
          obtain ⟨r, rfl⟩ : ∃ k, r = k + 1 := ⟨r - 1, by omega⟩
          have ht : f_X7_take N 45 u = some (1, u2) := by
            unfold f_X7_take
            rw [lt1_k, hq.1, cmpI_ok (by omega), if_pos w45, s1, bdI_s, boI_1]
          rw [if_pos w45, ht, bdI_s, boI_1, s2, bdV_s]
          right
          refine ⟨u2, v2, n + 1, i2 + 1, rfl, ?_, by omega, s3, ?_, by omega, by omega, hR2.cg (fun x y z1 z2 z3 => s5.1 x y (by omega)), (g1.tr q5).tr (FSh.c s4), (g2.tr q6).tr (FSm.c s5)⟩
          · conv => lhs; unfold f_X12_form_L54
            rw [cmpI_ok (by omega), if_pos rfl]
          · refine ⟨by rw [s4.1 350 f (by omega) (by omega)]; exact q3.1, fun j hj => ?_⟩
            have ho := q3.2 j hj
            rw [s5.1 19 _ (by omega), s5.1 20 _ (by omega), s5.1 21 _ (by omega), s5.1 22 _ (by omega), s4.1 353 _ (by omega) (by omega)]
            exact ⟨fun y hy => by rw [s4.1 351 _ (by omega) (by omega), s4.1 352 _ (by omega) (by omega)]; exact ho.1 y hy, ho.2⟩
        · have ht : f_X7_take N 45 u = bdI (f_X7_wrong N 1 u) fun v3 t2 => boI v3 (some (v3, t2)) := by
            unfold f_X7_take
            rw [lt1_k, hq.1, cmpI_ok (by omega), if_neg w45]
          rw [if_neg w45, ht, c_wrong, s_wrong, bdI_s, boI_0, bdI_s, boI_0, bdI_s, boI_0]
          exact Or.inl ⟨_, _, rfl, rfl, FR_of q2 (by omega), (g1.tr q5).tr FSh.p, (g2.tr q6).tr FSm.p8⟩
end
