/-! not, groups, and, or -/
section
variable {M : St} {H : Nat} {cd tk : Nat → Int} {a b c d : Nat}
theorem HVl.L {N o : Nat} {t : St} {s : Int64} {top : Int} {a b : Nat} {v x : Int64} {u : St} (h : HVl N o t s top a b v u) (ht : -1 ≤ top) (hab : a ≤ b) (h1 : ∀ (K : Int → St → Option (Int × St)) (q : Nat), f_X1_evaluate_L6 N o K s (q + 1) (top + 1) b u = f_X1_evaluate_L6 N o K s q (top + 1) ((b + 1 : Nat) : Int) (pL u 370 (top + 1).toNat x)) : HVl N o t s top a (b + 1) x (pL u 370 (top + 1).toNat x) := by
  obtain ⟨g1, g2, g3, g4, g5⟩ := h
  refine ⟨fun K q => ?_, g2.tr (hfr.L (by omega)), g3.L, pL_at, fun j hj => ?_⟩
  · rw [show q + (b + 1 - a) = (q + 1) + (b - a) by omega, g1, h1]
  · rw [pL_nf (by omega)]; exact g5 j hj
theorem wo_not (h : WO M H cd tk a b (c + 1) d) (h1 : cd b = 12) (h2 : tk c = 26) : WO M (H + 1) cd tk a (b + 1) c d := by
  obtain ⟨hab, hcd, h⟩ := h
  refine ⟨by omega, by omega, fun N o n D t m s top hX hC hT hr hD ht ht2 => ?_⟩
  obtain ⟨D, rfl⟩ : ∃ k, D = k + 1 := ⟨D - 1, by omega⟩
  have hcb := hC.1 b (by omega) (by omega)
  have htc := hT.1 c (by omega) (by omega)
  rw [h1] at hcb; rw [h2] at htc
  have hl := hC.2
  have hd := hT.2
  have hE := hX.2.1
  obtain ⟨v, u, w, g1, g2, g3, g4, g5⟩ := h N o n D t (pI m 200 114 ((c + 1 : Nat) : Int)) s top (hX.fr hfr.rf hE.2.2.2.2.2.1 mf4.rd) (hC.sub (by omega) (by omega)) ((hT.fr mf4.rd).sub (by omega) (by omega)) pI_at (by omega) ht (by omega)
  have hu302 : u.1 302 18 = t.1 302 18 := by rw [g1.2.1.1 302 (by decide) (by decide) (by decide) (by decide) (by decide)]
  have hu363 : u.1 363 b = 12 := by rw [g1.2.1.1 363 (by decide) (by decide) (by decide) (by decide) (by decide)]; exact hcb
  refine ⟨s &&& (v ^^^ (-1)), _, w, g1.L ht (by omega) (fun K q => ?_), rd_not hr (by omega) htc g2, mf4.rd.tr g3, g4, fun e he hb => ?_⟩
  · have := ev_not (N := N) (o := o) (K := K) (s := s) (q := q) (x := b) (top := top + 1) (t := u) (by omega) (by rw [hu302]; exact hX.2.2.2.1) hu363 (by omega)
    rw [this, g1.2.2.2.1]
  · rw [bq_and, Bool.and_eq_true] at hb
    exact hX.2.2.1 e he hb.1
/-- read to its end -/
theorem ww_end (h : WW M H cd tk a b c d) {N o n D : Nat} {t m : St} {s : Int64} {top : Int} (hX : CXr M N o n t m s) (hC : agC t cd a b) (hT : agT m tk c d) (hr : m.1 200 114 = c) (hi : inR (m.1 31 d)) (h25 : m.1 31 d ≠ 25) (h24 : m.1 31 d ≠ 24) (hD : 3 * H + 3 ≤ D) (ht : -1 ≤ top) (ht2 : top + 2 * H + 3 ≤ 95) :
    ∃ (v : Int64) (u w : St), HVl N o t s top a b v u ∧ (rec_readWho N D).1 s m = some (v, w) ∧ mf4 m w ∧ w.1 200 114 = d ∧ ∀ e, e < 64 → bq v e = true → e < n := by
  obtain ⟨v, u, w, j, g0, g1, g2, g3, g4, g5⟩ := h.2.2 N o n D t m s top hX hC hT hr hi h25 hD ht ht2
  refine ⟨v, u, w, g1, ?_, g3, g4, g5⟩
  have hd := hT.2
  have hN := hX.1
  rw [g2]
  obtain ⟨q, hq⟩ : ∃ q, N - j = q + 1 := ⟨N - j - 1, by omega⟩
  rw [hq]
  unfold o_X12_readWho_L6
  rw [lt1_k, g4, ixI_ok (by omega), lt1_k, Int.toNat_natCast, g3.1 31 (by decide) (by decide) (by decide) (by decide) (by decide), cmpI_ok (by omega), if_neg h24]
theorem wa_end (h : WA M H cd tk a b c d) {N o n D : Nat} {t m : St} {s : Int64} {top : Int} (hX : CXr M N o n t m s) (hC : agC t cd a b) (hT : agT m tk c d) (hr : m.1 200 114 = c) (hi : inR (m.1 31 d)) (h25 : m.1 31 d ≠ 25) (hD : 3 * H + 2 ≤ D) (ht : -1 ≤ top) (ht2 : top + 2 * H + 2 ≤ 95) :
    ∃ (v : Int64) (u w : St), HVl N o t s top a b v u ∧ (rec_readWho N D).2.1 s m = some (v, w) ∧ mf4 m w ∧ w.1 200 114 = d ∧ ∀ e, e < 64 → bq v e = true → e < n := by
  obtain ⟨v, u, w, j, g0, g1, g2, g3, g4, g5⟩ := h.2.2 N o n D t m s top hX hC hT hr hD ht ht2
  refine ⟨v, u, w, g1, ?_, g3, g4, g5⟩
  have hd := hT.2
  have hN := hX.1
  rw [g2]
  obtain ⟨q, hq⟩ : ∃ q, N - j = q + 1 := ⟨N - j - 1, by omega⟩
  rw [hq]
  unfold o_X12_readAnd_L6
  rw [lt1_k, g4, ixI_ok (by omega), lt1_k, Int.toNat_natCast, g3.1 31 (by decide) (by decide) (by decide) (by decide) (by decide), cmpI_ok (by omega), if_neg h25]
theorem wo_gr (h : WW M H cd tk a b (c + 1) d) (h1 : tk d = 5041) (h2 : tk c = 5040) : WO M (H + 1) cd tk a b c (d + 1) := by
  have hab := h.1
  have hcd := h.2.1
  refine ⟨by omega, by omega, fun N o n D t m s top hX hC hT hr hD ht ht2 => ?_⟩
  obtain ⟨D, rfl⟩ : ∃ k, D = k + 1 := ⟨D - 1, by omega⟩
  have htc := hT.1 c (by omega) (by omega)
  have htd := hT.1 d (by omega) (by omega)
  rw [h1] at htd; rw [h2] at htc
  have hd := hT.2
  have hE := hX.2.1
  have hd2 : (pI m 200 114 ((c + 1 : Nat) : Int)).1 31 d = 5041 := by rw [pI_ne (by decide)]; exact htd
  obtain ⟨v, u, w, g1, g2, g3, g4, g5⟩ := ww_end h (D := D) (t := t) (m := pI m 200 114 ((c + 1 : Nat) : Int)) (s := s) (top := top) (hX.fr hfr.rf hE.2.2.2.2.2.1 mf4.rd) hC ((hT.fr mf4.rd).sub (by omega) (by omega)) pI_at (by rw [hd2]; exact ⟨by decide, by decide⟩) (by rw [hd2]; decide) (by rw [hd2]; decide) (by omega) ht (by omega)
  exact ⟨v, u, _, g1, rd_gr hr (by omega) htc g2 g4, (mf4.rd.tr g3).tr mf4.rd, pI_at, g5⟩
theorem wa_one (h : WO M H cd tk a b c d) : WA M H cd tk a b c d := by
  refine ⟨h.1, h.2.1, fun N o n D t m s top hX hC hT hr hD ht ht2 => ?_⟩
  obtain ⟨D, rfl⟩ : ∃ k, D = k + 1 := ⟨D - 1, by omega⟩
  obtain ⟨v, u, w, g1, g2, g3, g4, g5⟩ := h.2.2 N o n D t m s top hX hC hT hr (by omega) ht (by omega)
  have := h.2.1
  refine ⟨v, u, w, 0, by omega, g1, ?_, g3, g4, g5⟩
  show o_X12_readAnd N (rec_readWho N D).2.2 s m = _
  unfold o_X12_readAnd
  rw [g2, bdL_s]
  rfl
theorem ww_one (h : WA M H cd tk a b c d) : WW M H cd tk a b c d := by
  refine ⟨h.1, h.2.1, fun N o n D t m s top hX hC hT hr hi h25 hD ht ht2 => ?_⟩
  obtain ⟨D, rfl⟩ : ∃ k, D = k + 1 := ⟨D - 1, by omega⟩
  obtain ⟨v, u, w, g1, g2, g3, g4, g5⟩ := wa_end h hX hC hT hr hi h25 (D := D) (top := top) (by omega) ht (by omega)
  have := h.2.1
  refine ⟨v, u, w, 0, by omega, g1, ?_, g3, g4, g5⟩
  show o_X12_readWho N (rec_readWho N D).2.1 s m = _
  unfold o_X12_readWho
  rw [g2, bdL_s]
  rfl
/-- two values become one -/
theorem HVl.two {N o : Nat} {t u u2 : St} {s : Int64} {top : Int} {a b b2 : Nat} {v v2 x : Int64} (h : HVl N o t s top a b v u) (h2 : HVl N o u s (top + 1) b b2 v2 u2) (ht : -1 ≤ top) (hab : a ≤ b) (hb2 : b ≤ b2)
    (h1 : ∀ (K : Int → St → Option (Int × St)) (q : Nat), f_X1_evaluate_L6 N o K s (q + 1) (top + 1 + 1) b2 u2 = f_X1_evaluate_L6 N o K s q (top + 1) ((b2 + 1 : Nat) : Int) (pL u2 370 (top + 1).toNat x)) : HVl N o t s top a (b2 + 1) x (pL u2 370 (top + 1).toNat x) := by
  obtain ⟨g1, g2, g3, g4, g5⟩ := h
  obtain ⟨k1, k2, k3, k4, k5⟩ := h2
  refine ⟨fun K q => ?_, (g2.tr k2).tr (hfr.L (by omega)), k3.L, pL_at, fun j hj => ?_⟩
  · rw [show q + (b2 + 1 - a) = (q + 1 + (b2 - b)) + (b - a) by omega, g1, k1, h1]
  · rw [pL_nf (by omega), k5 j (by omega)]; exact g5 j hj
theorem wa_and {b2 d2 : Nat} (h : WA M H cd tk a b c d) (g : WO M H cd tk b b2 (d + 1) d2) (h1 : cd b2 = 10) (h2 : tk d = 25) : WA M H cd tk a (b2 + 1) c d2 := by
  have ha1 := h.1
  have hc1 := h.2.1
  have ha2 := g.1
  have hc2 := g.2.1
  refine ⟨by omega, by omega, fun N o n D t m s top hX hC hT hr hD ht ht2 => ?_⟩
  have hcb := hC.1 b2 (by omega) (by omega)
  have htd := hT.1 d (by omega) (by omega)
  rw [h1] at hcb; rw [h2] at htd
  have hl := hC.2
  have hd := hT.2
  have hN := hX.1
  obtain ⟨v, u, w, j, k0, k1, k2, k3, k4, k5⟩ := h.2.2 N o n D t m s top hX (hC.sub (by omega) (by omega)) (hT.sub (by omega) (by omega)) hr hD ht ht2
  have hX2 := hX.fr k1.2.1 k1.2.2.1 (k3.tr (mf4.rd (x := ((d + 1 : Nat) : Int))))
  obtain ⟨v2, u2, w2, q1, q2, q3, q4, q5⟩ := g.2.2 N o n (D - 1) u (pI w 200 114 ((d + 1 : Nat) : Int)) s (top + 1) hX2 ((hC.sub (by omega) (by omega)).fr k1.2.1) ((hT.sub (by omega) (by omega)).fr (k3.tr mf4.rd)) pI_at (by omega) (by omega) (by omega)
  have hu302 : u2.1 302 18 = t.1 302 18 := by rw [q1.2.1.1 302 (by decide) (by decide) (by decide) (by decide) (by decide), k1.2.1.1 302 (by decide) (by decide) (by decide) (by decide) (by decide)]
  have hu363 : u2.1 363 b2 = 10 := by rw [q1.2.1.1 363 (by decide) (by decide) (by decide) (by decide) (by decide), k1.2.1.1 363 (by decide) (by decide) (by decide) (by decide) (by decide)]; exact hcb
  refine ⟨v &&& v2, _, w2, j + 1, by omega, k1.two q1 ht (by omega) (by omega) (fun K q => ?_), ?_, (k3.tr mf4.rd).tr q3, q4, fun e he hb => ?_⟩
  · have := ev_and (N := N) (o := o) (K := K) (s := s) (q := q) (x := b2) (top := top + 1 + 1) (t := u2) (by omega) (by rw [hu302]; exact hX.2.2.2.1) hu363 (by omega)
    rw [this, show (top + 1 + 1 - 1) = top + 1 by omega, q1.2.2.2.1]
    have hv : u2.2 370 (top + 1).toNat = v := by rw [q1.2.2.2.2 (top + 1).toNat (by omega)]; exact k1.2.2.2.1
    rw [hv]
  · rw [k2]
    obtain ⟨q, hq⟩ : ∃ q, N - j = q + 1 := ⟨N - j - 1, by omega⟩
    have hwd : w.1 31 d = 25 := by rw [k3.1 31 (by decide) (by decide) (by decide) (by decide) (by decide)]; exact htd
    rw [hq, show N - (j + 1) = q by omega]
    conv => lhs; unfold o_X12_readAnd_L6
    simp only [lt1_k, k4, Int.toNat_natCast, hwd]
    rw [ixI_ok (by omega), cmpI_ok (by omega), if_pos trivial, show ((d : Int) + 1) = ((d + 1 : Nat) : Int) by omega, q2, bdL_s]
  · rw [bq_and, Bool.and_eq_true] at hb
    exact k5 e he hb.1
theorem ww_or {b2 d2 : Nat} (h : WW M H cd tk a b c d) (g : WA M H cd tk b b2 (d + 1) d2) (h1 : cd b2 = 11) (h2 : tk d = 24) : WW M H cd tk a (b2 + 1) c d2 := by
  have ha1 := h.1
  have hc1 := h.2.1
  have ha2 := g.1
  have hc2 := g.2.1
  refine ⟨by omega, by omega, fun N o n D t m s top hX hC hT hr hi h25 hD ht ht2 => ?_⟩
  have hcb := hC.1 b2 (by omega) (by omega)
  have htd := hT.1 d (by omega) (by omega)
  rw [h1] at hcb; rw [h2] at htd
  have hl := hC.2
  have hd := hT.2
  have hN := hX.1
  obtain ⟨v, u, w, j, k0, k1, k2, k3, k4, k5⟩ := h.2.2 N o n D t m s top hX (hC.sub (by omega) (by omega)) (hT.sub (by omega) (by omega)) hr (by rw [htd]; exact ⟨by decide, by decide⟩) (by rw [htd]; decide) hD ht ht2
  have hX2 := hX.fr k1.2.1 k1.2.2.1 (k3.tr (mf4.rd (x := ((d + 1 : Nat) : Int))))
  have hd2 : (pI w 200 114 ((d + 1 : Nat) : Int)).1 31 d2 = m.1 31 d2 := by rw [pI_ne (by decide), k3.1 31 (by decide) (by decide) (by decide) (by decide) (by decide)]
  obtain ⟨v2, u2, w2, q1, q2, q3, q4, q5⟩ := wa_end g (D := D - 1) (t := u) (m := pI w 200 114 ((d + 1 : Nat) : Int)) (s := s) (top := top + 1) hX2 ((hC.sub (by omega) (by omega)).fr k1.2.1) ((hT.sub (by omega) (by omega)).fr (k3.tr mf4.rd)) pI_at (by rw [hd2]; exact hi) (by rw [hd2]; exact h25) (by omega) (by omega) (by omega)
  have hu302 : u2.1 302 18 = t.1 302 18 := by rw [q1.2.1.1 302 (by decide) (by decide) (by decide) (by decide) (by decide), k1.2.1.1 302 (by decide) (by decide) (by decide) (by decide) (by decide)]
  have hu363 : u2.1 363 b2 = 11 := by rw [q1.2.1.1 363 (by decide) (by decide) (by decide) (by decide) (by decide), k1.2.1.1 363 (by decide) (by decide) (by decide) (by decide) (by decide)]; exact hcb
  refine ⟨v ||| v2, _, w2, j + 1, by omega, k1.two q1 ht (by omega) (by omega) (fun K q => ?_), ?_, (k3.tr mf4.rd).tr q3, q4, fun e he hb => ?_⟩
  · have := ev_or (N := N) (o := o) (K := K) (s := s) (q := q) (x := b2) (top := top + 1 + 1) (t := u2) (by omega) (by rw [hu302]; exact hX.2.2.2.1) hu363 (by omega)
    rw [this, show (top + 1 + 1 - 1) = top + 1 by omega, q1.2.2.2.1]
    have hv : u2.2 370 (top + 1).toNat = v := by rw [q1.2.2.2.2 (top + 1).toNat (by omega)]; exact k1.2.2.2.1
    rw [hv]
  · rw [k2]
    obtain ⟨q, hq⟩ : ∃ q, N - j = q + 1 := ⟨N - j - 1, by omega⟩
    have hwd : w.1 31 d = 24 := by rw [k3.1 31 (by decide) (by decide) (by decide) (by decide) (by decide)]; exact htd
    rw [hq, show N - (j + 1) = q by omega]
    conv => lhs; unfold o_X12_readWho_L6
    simp only [lt1_k, k4, Int.toNat_natCast, hwd]
    rw [ixI_ok (by omega), cmpI_ok (by omega), if_pos trivial, show ((d : Int) + 1) = ((d + 1 : Nat) : Int) by omega, q2, bdL_s]
  · rw [bq_or, Bool.or_eq_true] at hb
    rcases hb with hb | hb
    · exact k5 e he hb
    · exact q5 e he hb
end
