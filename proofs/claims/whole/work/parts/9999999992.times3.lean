/-! times against times -/
section
variable {N : Nat} {t0 m0 : St} {n : Nat} {S V : Int}
theorem TMr.e {x : Nat} {t m : St} (hT : TMr n S V x t0 m0 t m) (hx : x ≤ 2000) : TMe S V t0 m0 t m := by
  obtain ⟨⟨hE, hB, hn⟩, ⟨hL, h8, h54⟩, h10, ⟨hI, hI1, hI2⟩, hF1, hF2⟩ := hT
  exact ⟨⟨n, hE⟩, ⟨hI, by omega, by omega, by omega, by omega⟩, hF1, hF2⟩
theorem tm_lp {p : Nat} (hN : 100000 ≤ N) (hS : 0 ≤ S ∧ S + 64 * 2001 ≤ 1900000000) (hV : V + 2001 < 2000000000) (hp : (p : Int) < m0.1 200 16) : ∀ (i x7 q r x : Nat) (t m : St), i + x7 = 101 → 1 ≤ x7 → i < q → i < r → x ≤ 2000 → TMr n S V x t0 m0 t m →
    ∃ (ans : Int) (u v : St), inR ans ∧ f_X11_times_L47 N (fun (k26 : Int) (t27 : St) => cmpI k26 4 (if k26 = 4 then (some ((-2), t27)) else (some ((-1), t27)))) (fun (t28 : St) => some ((-1), t28)) p q x7 t = some (ans, u) ∧ f_X12_dancesOn_L4 N (fun (k29 : Int) (t30 : St) => cmpI k29 4 (if k29 = 4 then (some ((-2), t30)) else (some ((-1), t30)))) (fun (t31 : St) => some ((-1), t31)) p r x x7 m = some (ans, v) ∧ TMe S V t0 m0 u v := by
  intro i
  induction i with
  | zero =>
    intro x7 q r x t m z1 z0 z2 z3 z4 hT
    obtain ⟨q, rfl⟩ : ∃ q', q = q' + 1 := ⟨q - 1, by omega⟩
    obtain ⟨r, rfl⟩ : ∃ r', r = r' + 1 := ⟨r - 1, by omega⟩
    refine ⟨-1, t, m, by omega, ?_, ?_, hT.e z4⟩
    · conv => lhs; unfold f_X11_times_L47
      rw [cmpI_ok (by omega), if_pos (by omega)]
    · conv => lhs; unfold f_X12_dancesOn_L4
      rw [cmpI_ok (by omega), if_pos (by omega)]
  | succ i ih =>
    intro x7 q r x t m z1 z0 z2 z3 z4 hT
    obtain ⟨q, rfl⟩ : ∃ q', q = q' + 1 := ⟨q - 1, by omega⟩
    obtain ⟨r, rfl⟩ : ∃ r', r = r' + 1 := ⟨r - 1, by omega⟩
    have hT0 := hT
    obtain ⟨⟨hE, hB, hn⟩, ⟨hL, h8, h54⟩, h10, ⟨hI, hI1, hI2⟩, hF1, hF2⟩ := hT
    obtain ⟨u, v, a, s1, s2, s3, ⟨s4, s4'⟩, ⟨s5, s5', s5''⟩, s6, s7, s8⟩ := start_both (N := N) (o := 1) (p := p) (by decide) hB hE (by rw [hF2.2.1 16 (by decide) (by decide) (by decide) (by decide) (by decide) (by decide) (by decide) (by decide)]; exact hp)
    have gCu : CIk u := hE.2.2.2.2.2.1.rn (fun y h1 h2 => s5 y (by omega)) (by rw [s5'' 311 (by decide)])
    have hEu : EVr 1 u v n := hE.r5 (p := 1) (by decide) (fun y h1 _ _ => s5 y h1) (fun y _ _ _ h4 _ => s5'' y h4) gCu (fun y hy => s6 y (by omega) (by omega) (by omega) (by omega)) (s7 37 (by decide) (by decide)) (s7 14 (by decide) (by decide)) (s7 54 (by decide) (by decide))
    have tf : TFh t u := ⟨fun y _ _ h3 _ _ _ => s5 y h3, ⟨fun b _ => by rw [s5 304 (by decide)], fun b _ _ _ => by rw [s5 311 (by decide)], fun b _ _ => by rw [s5 306 (by decide)]⟩, fun y _ _ _ _ h5 _ _ => s5'' y h5⟩
    have df : DMs m v := ⟨fun y _ h2 _ _ _ h6 => s6 y (by omega) (by omega) (by omega) h6, fun b _ _ h3 _ _ _ _ _ => s7 b (by omega) (by omega), fun y h1 _ => s8 y h1⟩
    have hBu : BK0 u v := hB.d tf df
    have hTu : TMr n S V x t0 m0 u v := by
      refine ⟨⟨hEu, hBu, hn⟩, ⟨?_, ?_, ?_⟩, ?_, ⟨hI.f (by rw [s5 304 (by decide)]) (s5 378 (by decide)), by rw [s5 304 (by decide)]; exact hI1, by rw [s5 306 (by decide)]; exact hI2⟩, hF1.tr tf, hF2.tr df⟩
      · rw [show u.1 308 9 = t.1 308 9 from s5' 9 (by decide) (by decide) (by decide), s7 53 (by decide) (by decide)]; exact hL
      · rw [show u.1 308 8 = t.1 308 8 from s5' 8 (by decide) (by decide) (by decide)]; exact h8
      · rw [s7 54 (by decide) (by decide)]; exact h54
      · rw [show u.1 308 10 = t.1 308 10 from s5' 10 (by decide) (by decide) (by decide)]; exact h10
    obtain ⟨u2, v2, h9⟩ := tm_go (n := n) (t0 := t0) (m0 := m0) hN hS hV (fun (k22 : Int) (t23 : St) => cmpI k22 0 (if k22 = 0 then (bdI (f_X3_isAt N 1 (394 + 10 * 1) 64 t23) fun v25 t24 => cmpI v25 0 (if v25 = 0 then (f_X11_times_L47 N (fun (k26 : Int) (t27 : St) => cmpI k26 4 (if k26 = 4 then (some ((-2), t27)) else (some ((-1), t27)))) (fun (t28 : St) => some ((-1), t28)) p q ((x7 : Int) + 1) t24) else (some ((x7 : Int), t24)))) else (cmpI k22 4 (if k22 = 4 then (some ((-2), t23)) else (some ((-1), t23))))))
      (fun (k24 : Int) (k25 : Int) (t26 : St) => cmpI k25 0 (if k25 = 0 then (bdI (f_X12_isHome N t26) fun v28 t27 => cmpI v28 0 (if v28 = 0 then (f_X12_dancesOn_L4 N (fun (k29 : Int) (t30 : St) => cmpI k29 4 (if k29 = 4 then (some ((-2), t30)) else (some ((-1), t30)))) (fun (t31 : St) => some ((-1), t31)) p r k24 ((x7 : Int) + 1) t27) else (some ((x7 : Int), t27)))) else (cmpI k25 4 (if k25 = 4 then (some ((-2), t26)) else (some ((-1), t26))))))
      (fun w z hw => by
        show cmpI w 0 _ = _
        rw [cmpI_ok (by omega), if_neg (by omega), cmpI_ok (by omega)]
        split <;> rfl)
      (fun y w z hw => by
        show cmpI w 0 _ = _
        rw [cmpI_ok (by omega), if_neg (by omega), cmpI_ok (by omega)]
        split <;> rfl)
      (2000 - x) x N N 0 u v 0 0 a (by omega) (by omega) (by omega) (by omega) (by omega) hTu s4' s3
    have hHH : f_X11_times_L47 N (fun (k26 : Int) (t27 : St) => cmpI k26 4 (if k26 = 4 then (some ((-2), t27)) else (some ((-1), t27)))) (fun (t28 : St) => some ((-1), t28)) p (q + 1) x7 t = f_X11_times_L75 N (fun (k22 : Int) (t23 : St) => cmpI k22 0 (if k22 = 0 then (bdI (f_X3_isAt N 1 (394 + 10 * 1) 64 t23) fun v25 t24 => cmpI v25 0 (if v25 = 0 then (f_X11_times_L47 N (fun (k26 : Int) (t27 : St) => cmpI k26 4 (if k26 = 4 then (some ((-2), t27)) else (some ((-1), t27)))) (fun (t28 : St) => some ((-1), t28)) p q ((x7 : Int) + 1) t24) else (some ((x7 : Int), t24)))) else (cmpI k22 4 (if k22 = 4 then (some ((-2), t23)) else (some ((-1), t23)))))) N 1 0 u := by
      conv => lhs; unfold f_X11_times_L47
      rw [cmpI_ok (by omega), if_neg (by omega), (hE.ev (N := N)).1, bdL_s, s1, bdV_s]
    have hMM : f_X12_dancesOn_L4 N (fun (k29 : Int) (t30 : St) => cmpI k29 4 (if k29 = 4 then (some ((-2), t30)) else (some ((-1), t30)))) (fun (t31 : St) => some ((-1), t31)) p (r + 1) x x7 m = (bdI (f_X12_goesToStep N v) fun v9 t8 => f_X12_dancesOn_L21 N (fun (k24 : Int) (k25 : Int) (t26 : St) => cmpI k25 0 (if k25 = 0 then (bdI (f_X12_isHome N t26) fun v28 t27 => cmpI v28 0 (if v28 = 0 then (f_X12_dancesOn_L4 N (fun (k29 : Int) (t30 : St) => cmpI k29 4 (if k29 = 4 then (some ((-2), t30)) else (some ((-1), t30)))) (fun (t31 : St) => some ((-1), t31)) p r k24 ((x7 : Int) + 1) t27) else (some ((x7 : Int), t27)))) else (cmpI k25 4 (if k25 = 4 then (some ((-2), t26)) else (some ((-1), t26)))))) N x v9 t8) := by
      conv => lhs; unfold f_X12_dancesOn_L4
      rw [cmpI_ok (by omega), if_neg (by omega), s2, bdV_s]
    rw [hHH, hMM]
    rcases h9 with ⟨x', y1, y2, y3, y4, y5⟩ | ⟨ans, y1, y2, y3, y4⟩
    · rw [y3, y4]
      obtain ⟨w, w1, w2, w3⟩ := home_both (N := N) y5.1.1 (Or.inr y5.2.1.2.2) (by omega)
      have w2' : f_X3_isAt N 1 (394 + 10 * 1) 64 u2 = some (w, u2) := w2
      rw [cmpI_ok (by omega), if_pos rfl, w2', bdI_s, cmpI_ok (by omega), cmpI_ok (by omega), if_pos rfl, w3, bdI_s, cmpI_ok (by omega)]
      by_cases w0 : w = 0
      · rw [if_pos w0, if_pos w0, show (x7 : Int) + 1 = ((x7 + 1 : Nat) : Int) by omega]
        exact ih (x7 + 1) q r x' u2 v2 (by omega) (by omega) (by omega) (by omega) y2 y5
      · rw [if_neg w0, if_neg w0]
        exact ⟨x7, u2, v2, by omega, rfl, rfl, y5.e y2⟩
    · exact ⟨ans, u2, v2, by omega, y2, y3, y4⟩
end
