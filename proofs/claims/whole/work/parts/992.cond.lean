/-! conditions: code and tokens together -/
/-- a condition's value in the hall -/
def tv (r : Int) : Int64 := if r = 1 then 1 else 0
/-- no and, no or may follow where fl is false -/
def flw (fl : Bool) (o : Nat) (m : St) (d : Nat) : Prop := hGd o m ∧ (fl = true ∨ (inR (m.1 31 d) ∧ m.1 31 d ≠ 25 ∧ m.1 31 d ≠ 24))
def CO (fl : Bool) (M : St) (H : Nat) (cd tk : Nat → Int) (a b c d : Nat) : Prop := a < b ∧ c < d ∧ ∀ (N o n D : Nat) (t m : St) (s : Int64) (top : Int), CXr M N o n t m s → agC t cd a b → agT m tk c d → m.1 200 114 = c → flw fl o m d → 3 * H + 1 ≤ D → -1 ≤ top → top + 2 * H + 4 ≤ 95 → H ≤ 30 →
  ∃ (r : Int) (u w : St), HVl N o t s top a b (tv r) u ∧ (rec_readCondition N D).2.2 s m = some (r, w) ∧ (r = 0 ∨ r = 1) ∧ mf4 m w ∧ w.1 200 114 = d
def CA (fl : Bool) (M : St) (H : Nat) (cd tk : Nat → Int) (a b c d : Nat) : Prop := a < b ∧ c < d ∧ ∀ (N o n D : Nat) (t m : St) (s : Int64) (top : Int), CXr M N o n t m s → agC t cd a b → agT m tk c d → m.1 200 114 = c → flw fl o m d → 3 * H + 2 ≤ D → -1 ≤ top → top + 2 * H + 5 ≤ 95 → H ≤ 30 →
  ∃ (r : Int) (u w : St) (j : Nat), j < d - c ∧ HVl N o t s top a b (tv r) u ∧ (rec_readCondition N D).2.1 s m = o_X12_readConditionAnd_L6 (rec_readCondition N (D - 1)).2.2 (fun (k18 : Int) (t19 : St) => boI k18 (some (k18, t19))) s (N - j) r w ∧ (r = 0 ∨ r = 1) ∧ mf4 m w ∧ w.1 200 114 = d
def CW (fl : Bool) (M : St) (H : Nat) (cd tk : Nat → Int) (a b c d : Nat) : Prop := a < b ∧ c < d ∧ ∀ (N o n D : Nat) (t m : St) (s : Int64) (top : Int), CXr M N o n t m s → agC t cd a b → agT m tk c d → m.1 200 114 = c → flw fl o m d → inR (m.1 31 d) → m.1 31 d ≠ 25 → 3 * H + 3 ≤ D → -1 ≤ top → top + 2 * H + 6 ≤ 95 → H ≤ 30 →
  ∃ (r : Int) (u w : St) (j : Nat), j < d - c ∧ HVl N o t s top a b (tv r) u ∧ (rec_readCondition N D).1 s m = o_X12_readCondition_L6 (rec_readCondition N (D - 1)).2.1 (fun (k18 : Int) (t19 : St) => boI k18 (some (k18, t19))) s (N - j) r w ∧ (r = 0 ∨ r = 1) ∧ mf4 m w ∧ w.1 200 114 = d
theorem flw.fr {fl : Bool} {o : Nat} {m w : St} {d : Nat} (h : flw fl o m d) (g : mf4 m w) : flw fl o w d := by
  unfold flw hGd
  rw [g.1 31 (by decide) (by decide) (by decide) (by decide) (by decide), g.2.1 54 (by decide) (by decide) (by decide) (by decide) (by decide) (by decide)]
  exact h
section
variable {M : St} {H : Nat} {cd tk : Nat → Int} {a b c d : Nat} {fl : Bool}
theorem co_home (h1 : cd a = 13) (h2 : tk c = 27) : CO true M H cd tk a (a + 1) c (c + 1) := by
  refine ⟨by omega, by omega, fun N o n D t m s top hX hC hT hr hfl hD ht ht2 _ => ?_⟩
  obtain ⟨D, rfl⟩ : ∃ k, D = k + 1 := ⟨D - 1, by omega⟩
  have hca := hC.1 a (by omega) (by omega)
  have htc := hT.1 c (by omega) (by omega)
  rw [h1] at hca; rw [h2] at htc
  have hl := hC.2
  have hd := hT.2
  have hN := hX.1
  have hE := hX.2.1
  have hho := hE.2.2.2.2.1 hfl.1
  have hF := hE.2.1.1
  have hq : ∀ d, d < n → inR (m.1 44 d) ∧ inR (m.1 45 d) ∧ inR (m.1 46 d) := fun d hd => by have := hho d hd; omega
  have hq2 : ∀ d, d < n → inR ((pI m 200 114 ((c : Int) + 1)).1 44 d) ∧ inR ((pI m 200 114 ((c : Int) + 1)).1 45 d) ∧ inR ((pI m 200 114 ((c : Int) + 1)).1 46 d) := fun d hd => by
    rw [pI_ne (by decide), pI_ne (by decide), pI_ne (by decide)]; exact hq d hd
  have e1 := s_isHome (N := N) (hF.rd (x := ((c : Int) + 1))) hq2 (by omega)
  rw [pI_ne (by decide), pI_ne (by decide), pI_ne (by decide), pI_ne (by decide), pI_ne (by decide), pI_ne (by decide)] at e1
  have e2 := h_isAt (N := N) (o := o) (t := t) (q0 := 394 + 10 * o) hE.2.1.2 hF.2 (fun d hd => by have h9 := hho d hd; rw [h9.2.2.2]; have := cdZ_rng h9.1 h9.2.1 h9.2.2.1; omega) (by omega)
  rw [at_eq hF.2 (A := m.1 44) (B := m.1 45) (D := m.1 46) (fun d hd => hho d hd) n 0 (by omega)] at e2
  generalize hr9 : (if atM (m.1 44) (m.1 45) (m.1 46) (m.1 38) (m.1 39) (m.1 40) n 0 = true then (1 : Int) else 0) = r at e1 e2
  have hr01 : r = 0 ∨ r = 1 := by
    rw [← hr9]; split
    · exact Or.inr rfl
    · exact Or.inl rfl
  refine ⟨r, pL t 370 (top + 1).toNat (tv r), _, HVl.one (fun K q => ?_) hfr.rf hE.2.2.2.2.2.1 rfl ht, ?_, hr01, mf4.rd, pI_at⟩
  · have := ev_home (N := N) (o := o) (K := K) (s := s) (q := q) (x := a) (top := top) (t := t) (r := r) (by omega) hX.2.2.2.1 hca (by omega) hr01 e2
    rw [this]
    rcases hr01 with rfl | rfl <;> rfl
  · show o_X12_readConditionOne N (rec_readCondition N D).2.2 (rec_readCondition N D).1 s m = _
    unfold o_X12_readConditionOne
    simp only [lt1_k, hr, Int.toNat_natCast, htc]
    rw [ixI_ok (by omega), cmpI_ok (by omega), if_neg (by decide), cmpI_ok (by omega), if_pos trivial, e1, bdI_s, boI_ok hr01]
    rfl
theorem co_not (h : CO fl M H cd tk a b (c + 1) d) (h1 : cd b = 16) (h2 : tk c = 26) : CO fl M (H + 1) cd tk a (b + 1) c d := by
  obtain ⟨hab, hcd, h⟩ := h
  refine ⟨by omega, by omega, fun N o n D t m s top hX hC hT hr hfl hD ht ht2 hH => ?_⟩
  obtain ⟨D, rfl⟩ : ∃ k, D = k + 1 := ⟨D - 1, by omega⟩
  have hcb := hC.1 b (by omega) (by omega)
  have htc := hT.1 c (by omega) (by omega)
  rw [h1] at hcb; rw [h2] at htc
  have hl := hC.2
  have hd := hT.2
  have hE := hX.2.1
  obtain ⟨r, u, w, g1, g2, g3, g4, g5⟩ := h N o n D t (pI m 200 114 ((c + 1 : Nat) : Int)) s top (hX.fr hfr.rf hE.2.2.2.2.2.1 mf4.rd) (hC.sub (by omega) (by omega)) ((hT.fr mf4.rd).sub (by omega) (by omega)) pI_at (hfl.fr mf4.rd) (by omega) ht (by omega) (by omega)
  have hu302 : u.1 302 18 = t.1 302 18 := by rw [g1.2.1.1 302 (by decide) (by decide) (by decide) (by decide) (by decide)]
  have hu363 : u.1 363 b = 16 := by rw [g1.2.1.1 363 (by decide) (by decide) (by decide) (by decide) (by decide)]; exact hcb
  refine ⟨1 - r, _, w, g1.L ht (by omega) (fun K q => ?_), ?_, by omega, mf4.rd.tr g4, g5⟩
  · have := ev_deny (N := N) (o := o) (K := K) (s := s) (q := q) (x := b) (top := top + 1) (t := u) (by omega) (by rw [hu302]; exact hX.2.2.2.1) hu363 (by omega)
    rw [this, g1.2.2.2.1]
    rcases g3 with rfl | rfl <;> rfl
  · show o_X12_readConditionOne N (rec_readCondition N D).2.2 (rec_readCondition N D).1 s m = _
    unfold o_X12_readConditionOne
    simp only [lt1_k, hr, Int.toNat_natCast, htc]
    rw [ixI_ok (by omega), cmpI_ok (by omega), if_pos trivial, show ((c : Int) + 1) = ((c + 1 : Nat) : Int) by omega, g2, bdI_s, cmpI_ok (by omega), boI_0, boI_1]
    rcases g3 with rfl | rfl <;> rfl
theorem cw_end (h : CW fl M H cd tk a b c d) {N o n D : Nat} {t m : St} {s : Int64} {top : Int} (hX : CXr M N o n t m s) (hC : agC t cd a b) (hT : agT m tk c d) (hr : m.1 200 114 = c) (hg : hGd o m) (hi : inR (m.1 31 d)) (h25 : m.1 31 d ≠ 25) (h24 : m.1 31 d ≠ 24) (hD : 3 * H + 3 ≤ D) (ht : -1 ≤ top) (ht2 : top + 2 * H + 6 ≤ 95) (hH : H ≤ 30) :
    ∃ (r : Int) (u w : St), HVl N o t s top a b (tv r) u ∧ (rec_readCondition N D).1 s m = some (r, w) ∧ (r = 0 ∨ r = 1) ∧ mf4 m w ∧ w.1 200 114 = d := by
  obtain ⟨r, u, w, j, g0, g1, g2, g3, g4, g5⟩ := h.2.2 N o n D t m s top hX hC hT hr ⟨hg, Or.inr ⟨hi, h25, h24⟩⟩ hi h25 hD ht ht2 hH
  refine ⟨r, u, w, g1, ?_, g3, g4, g5⟩
  have hd := hT.2
  have hN := hX.1
  rw [g2]
  obtain ⟨q, hq⟩ : ∃ q, N - j = q + 1 := ⟨N - j - 1, by omega⟩
  rw [hq]
  unfold o_X12_readCondition_L6
  rw [lt1_k, g5, ixI_ok (by omega), lt1_k, Int.toNat_natCast, g4.1 31 (by decide) (by decide) (by decide) (by decide) (by decide), cmpI_ok (by omega), if_neg h24, boI_ok g3]
theorem ca_end (h : CA fl M H cd tk a b c d) {N o n D : Nat} {t m : St} {s : Int64} {top : Int} (hX : CXr M N o n t m s) (hC : agC t cd a b) (hT : agT m tk c d) (hr : m.1 200 114 = c) (hfl : flw fl o m d) (hi : inR (m.1 31 d)) (h25 : m.1 31 d ≠ 25) (hD : 3 * H + 2 ≤ D) (ht : -1 ≤ top) (ht2 : top + 2 * H + 5 ≤ 95) (hH : H ≤ 30) :
    ∃ (r : Int) (u w : St), HVl N o t s top a b (tv r) u ∧ (rec_readCondition N D).2.1 s m = some (r, w) ∧ (r = 0 ∨ r = 1) ∧ mf4 m w ∧ w.1 200 114 = d := by
  obtain ⟨r, u, w, j, g0, g1, g2, g3, g4, g5⟩ := h.2.2 N o n D t m s top hX hC hT hr hfl hD ht ht2 hH
  refine ⟨r, u, w, g1, ?_, g3, g4, g5⟩
  have hd := hT.2
  have hN := hX.1
  rw [g2]
  obtain ⟨q, hq⟩ : ∃ q, N - j = q + 1 := ⟨N - j - 1, by omega⟩
  rw [hq]
  unfold o_X12_readConditionAnd_L6
  rw [lt1_k, g5, ixI_ok (by omega), lt1_k, Int.toNat_natCast, g4.1 31 (by decide) (by decide) (by decide) (by decide) (by decide), cmpI_ok (by omega), if_neg h25, boI_ok g3]
theorem co_gr (h : CW fl M H cd tk a b (c + 1) d) (h1 : tk d = 5041) (h2 : tk c = 5040) : CO true M (H + 1) cd tk a b c (d + 1) := by
  have hab := h.1
  have hcd := h.2.1
  refine ⟨by omega, by omega, fun N o n D t m s top hX hC hT hr hfl hD ht ht2 hH => ?_⟩
  obtain ⟨D, rfl⟩ : ∃ k, D = k + 1 := ⟨D - 1, by omega⟩
  have htc := hT.1 c (by omega) (by omega)
  have htd := hT.1 d (by omega) (by omega)
  rw [h1] at htd; rw [h2] at htc
  have hd := hT.2
  have hE := hX.2.1
  have hd2 : (pI m 200 114 ((c + 1 : Nat) : Int)).1 31 d = 5041 := by rw [pI_ne (by decide)]; exact htd
  obtain ⟨r, u, w, g1, g2, g3, g4, g5⟩ := cw_end h (D := D) (t := t) (m := pI m 200 114 ((c + 1 : Nat) : Int)) (s := s) (top := top) (hX.fr hfr.rf hE.2.2.2.2.2.1 mf4.rd) hC ((hT.fr mf4.rd).sub (by omega) (by omega)) pI_at (hfl.fr mf4.rd).1 (by rw [hd2]; exact ⟨by decide, by decide⟩) (by rw [hd2]; decide) (by rw [hd2]; decide) (by omega) ht (by omega) (by omega)
  refine ⟨r, u, pI w 200 114 ((d + 1 : Nat) : Int), g1, ?_, g3, (mf4.rd.tr g4).tr mf4.rd, pI_at⟩
  show o_X12_readConditionOne N (rec_readCondition N D).2.2 (rec_readCondition N D).1 s m = _
  unfold o_X12_readConditionOne
  simp only [lt1_k, hr, Int.toNat_natCast, htc]
  rw [ixI_ok (by omega), cmpI_ok (by omega), if_neg (by decide), cmpI_ok (by omega), if_neg (by decide), cmpI_ok (by omega), if_neg (by decide), cmpI_ok (by omega), if_neg (by decide), show ((c : Int) + 1) = ((c + 1 : Nat) : Int) by omega, g2, bdI_s, boI_ok g3, g5]
  rfl
theorem co_count {v : Int} (hv : 0 ≤ v ∧ v ≤ 64) (h : WW M H cd tk a b (c + 1) d) (h1 : cd b = v * 64 + 14) (h2 : tk c = 28) (h3 : tk d = 29) (h4 : tk (d + 1) = 1000 + v) : CO true M H cd tk a (b + 1) c (d + 2) := by
  have hab := h.1
  have hcd := h.2.1
  refine ⟨by omega, by omega, fun N o n D t m s top hX hC hT hr _ hD ht ht2 hH => ?_⟩
  obtain ⟨D, rfl⟩ : ∃ k, D = k + 1 := ⟨D - 1, by omega⟩
  have hcb := hC.1 b (by omega) (by omega)
  have htc := hT.1 c (by omega) (by omega)
  have htd := hT.1 d (by omega) (by omega)
  have htd1 := hT.1 (d + 1) (by omega) (by omega)
  rw [h1] at hcb; rw [h2] at htc; rw [h3] at htd; rw [h4] at htd1
  have hl := hC.2
  have hd := hT.2
  have hN := hX.1
  have hE := hX.2.1
  have hd2 : (pI m 200 114 ((c + 1 : Nat) : Int)).1 31 d = 29 := by rw [pI_ne (by decide)]; exact htd
  obtain ⟨v9, u, w, g1, g2, g3, g4, g5⟩ := ww_end h (D := 100) (t := t) (m := pI m 200 114 ((c + 1 : Nat) : Int)) (s := s) (top := top) (hX.fr hfr.rf hE.2.2.2.2.2.1 mf4.rd) (hC.sub (by omega) (by omega)) ((hT.fr mf4.rd).sub (by omega) (by omega)) pI_at (by rw [hd2]; exact ⟨by decide, by decide⟩) (by rw [hd2]; decide) (by rw [hd2]; decide) (by omega) ht (by omega)
  have hu302 : u.1 302 18 = t.1 302 18 := by rw [g1.2.1.1 302 (by decide) (by decide) (by decide) (by decide) (by decide)]
  have hu363 : u.1 363 b = v * 64 + 14 := by rw [g1.2.1.1 363 (by decide) (by decide) (by decide) (by decide) (by decide)]; exact hcb
  have hcn := cnb_le (s := v9) 64
  have hw31 : (pI w 200 114 ((d : Int) + 2)).1 31 (d + 1) = 1000 + v := by rw [pI_ne (by decide), g3.1 31 (by decide) (by decide) (by decide) (by decide) (by decide), pI_ne (by decide)]; exact htd1
  refine ⟨(if (cnb v9 64 : Int) = v then 1 else 0), _, pI w 200 114 ((d + 2 : Nat) : Int), g1.L ht (by omega) (fun K q => ?_), ?_, ?_, (mf4.rd.tr g3).tr mf4.rd, pI_at⟩
  · have := ev_count (N := N) (o := o) (K := K) (s := s) (q := q) (x := b) (top := top + 1) (t := u) (vl := v) (by omega) (by omega) (by rw [hu302]; exact hX.2.2.2.1) hu363 (by omega)
    rw [this, g1.2.2.2.1]
    by_cases hc9 : (cnb v9 64 : Int) = v
    · rw [if_pos hc9, if_pos hc9]; rfl
    · rw [if_neg hc9, if_neg hc9]; rfl
  · show o_X12_readConditionOne N (rec_readCondition N D).2.2 (rec_readCondition N D).1 s m = _
    unfold o_X12_readConditionOne
    have g2' : f_X12_readWho N s (pI m 200 114 ((c + 1 : Nat) : Int)) = some (v9, w) := g2
    have ed : ((d : Int) + 2 - 1).toNat = d + 1 := by omega
    simp only [lt1_k, hr, Int.toNat_natCast, htc]
    rw [ixI_ok (by omega), cmpI_ok (by omega), if_neg (by decide), cmpI_ok (by omega), if_neg (by decide), cmpI_ok (by omega), if_pos trivial, show ((c : Int) + 1) = ((c + 1 : Nat) : Int) by omega, g2', bdL_s, s_sizeOf (by omega), bdI_s, g4]
    simp only [pI_at, ed, hw31]
    rw [ixI_ok (by omega), cmpI_ok (by omega), show (1000 + v - 1000) = v by omega, boI_0, boI_1]
    by_cases hc9 : (cnb v9 64 : Int) = v
    · rw [if_pos hc9, if_pos hc9]; rfl
    · rw [if_neg hc9, if_neg hc9]; rfl
  · split
    · exact Or.inr rfl
    · exact Or.inl rfl
theorem co_forms {f : Nat} (hf : (f : Int) < M.1 200 14) (h : WW M H cd tk a b (c + 2) d) (h1 : cd b = (f : Int) * 64 + 15) (h2 : tk c = 30) (h3 : tk (c + 1) = 2000 + (f : Int)) : CO false M H cd tk a (b + 1) c d := by
  have hab := h.1
  have hcd := h.2.1
  refine ⟨by omega, by omega, fun N o n D t m s top hX hC hT hr hfl hD ht ht2 hH => ?_⟩
  obtain ⟨D, rfl⟩ : ∃ k, D = k + 1 := ⟨D - 1, by omega⟩
  have hcb := hC.1 b (by omega) (by omega)
  have htc := hT.1 c (by omega) (by omega)
  have htc1 := hT.1 (c + 1) (by omega) (by omega)
  rw [h1] at hcb; rw [h2] at htc; rw [h3] at htc1
  have hl := hC.2
  have hd := hT.2
  have hN := hX.1
  have hE := hX.2.1
  have hfl2 : inR (m.1 31 d) ∧ m.1 31 d ≠ 25 ∧ m.1 31 d ≠ 24 := hfl.2.elim (fun q => by cases q) id
  have hd2 : (pI m 200 114 ((c + 2 : Nat) : Int)).1 31 d = m.1 31 d := by rw [pI_ne (by decide)]
  obtain ⟨v9, u, w, g1, g2, g3, g4, g5⟩ := ww_end h (D := 100) (t := t) (m := pI m 200 114 ((c + 2 : Nat) : Int)) (s := s) (top := top) (hX.fr hfr.rf hE.2.2.2.2.2.1 mf4.rd) (hC.sub (by omega) (by omega)) ((hT.fr mf4.rd).sub (by omega) (by omega)) pI_at (by rw [hd2]; exact hfl2.1) (by rw [hd2]; exact hfl2.2.1) (by rw [hd2]; exact hfl2.2.2) (by omega) ht (by omega)
  have hu302 : u.1 302 18 = t.1 302 18 := by rw [g1.2.1.1 302 (by decide) (by decide) (by decide) (by decide) (by decide)]
  have hu363 : u.1 363 b = (f : Int) * 64 + 15 := by rw [g1.2.1.1 363 (by decide) (by decide) (by decide) (by decide) (by decide)]; exact hcb
  have hE2 := hE.fr g1.2.1 g1.2.2.1 (mf4.rd.tr g3)
  have hbk := hX.2.2.2.2
  have hf2 : (f : Int) < w.1 200 14 := by
    rw [(mf4.rd.tr g3).2.1 14 (by decide) (by decide) (by decide) (by decide) (by decide) (by decide)]
    exact Int.lt_of_lt_of_le hf hbk.1
  obtain ⟨k, hO, hfo, hff⟩ := hE2.fo hf2
  have hf40 := hO.1
  obtain ⟨ra, rb, u2, w2, q1, q2, q3, q4, q5⟩ := p_part (N := N) (o := o) (all := v9) hE.1 hE2.2.1 hE2.2.2.1 hO hfo g5 (by omega)
  have hra : inR ra := by
    rcases q5 with h9 | h9 | h9
    · rw [h9.1]; exact ⟨by decide, by decide⟩
    · rw [h9.1]; exact ⟨by decide, by decide⟩
    · rw [h9.1]; exact ⟨by decide, by decide⟩
  have hrb : inR rb := by
    rcases q5 with h9 | h9 | h9
    · rw [h9.2]; exact ⟨by decide, by decide⟩
    · rw [h9.2]; exact ⟨by decide, by decide⟩
    · rw [h9.2.1]; exact ⟨by decide, by decide⟩
  have hrr : ra = 0 ↔ rb = 1 := by omega
  refine ⟨(if rb = 1 then 1 else 0), pL u2 370 (top + 1).toNat (tv (if rb = 1 then 1 else 0)), w2, ?_, ?_, ?_, (mf4.rd.tr g3).tr q4.m4, ?_⟩
  · have hx : (if ra = 0 then (1 : Int64) else 0) = tv (if rb = 1 then 1 else 0) := by
      by_cases h9 : rb = 1
      · rw [if_pos (hrr.mpr h9), if_pos h9]; rfl
      · rw [if_neg (fun h => h9 (hrr.mp h)), if_neg h9]; rfl
    obtain ⟨y1, y2, y3, y4, y5⟩ := g1
    refine ⟨fun K q => ?_, (y2.tr q3.hfr).tr (hfr.L (by omega)), (y3.fp q3).L, pL_at, fun j hj => ?_⟩
    · rw [show q + (b + 1 - a) = (q + 1) + (b - a) by omega, y1]
      have := ev_forms (N := N) (o := o) (K := K) (s := s) (q := q) (x := b) (top := top + 1) (t := u) (vl := f) (u := u2) (r := ra) (by omega) (by omega) (by rw [hu302]; exact hX.2.2.2.1) hu363 (by omega) hra (by rw [y4]; exact q1)
      rw [this, hx]
    · rw [pL_nf (by omega), q3.2.2 370 (by decide)]; exact y5 j hj
  · show o_X12_readConditionOne N (rec_readCondition N D).2.2 (rec_readCondition N D).1 s m = _
    unfold o_X12_readConditionOne
    have g2' : f_X12_readWho N s (pI m 200 114 ((c + 2 : Nat) : Int)) = some (v9, w) := g2
    have ec1 : ((c : Int) + 1).toNat = c + 1 := by omega
    have e31 : (pI m 200 114 ((c : Int) + 1)).1 31 (c + 1) = 2000 + (f : Int) := by rw [pI_ne (by decide)]; exact htc1
    simp only [lt1_k, hr, Int.toNat_natCast, htc, pI_at, ec1, e31, pI_pI]
    rw [ixI_ok (by omega), cmpI_ok (by omega), if_neg (by decide), cmpI_ok (by omega), if_neg (by decide), cmpI_ok (by omega), if_neg (by decide), cmpI_ok (by omega), if_pos trivial, ixI_ok (by omega), show ((c : Int) + 1 + 1) = ((c + 2 : Nat) : Int) by omega, g2', bdL_s, show (2000 + (f : Int) - 2000) = (f : Int) by omega, q2, bdI_s, cmpI_ok ⟨hrb, by decide, by decide⟩, boI_0, boI_1]
    split <;> rfl
  · split
    · exact Or.inr rfl
    · exact Or.inl rfl
  · rw [q4.2.1 114 (by decide) (by decide) (by decide) (by decide) (by decide)]; exact g4
theorem ca_one (h : CO fl M H cd tk a b c d) : CA fl M H cd tk a b c d := by
  refine ⟨h.1, h.2.1, fun N o n D t m s top hX hC hT hr hfl hD ht ht2 hH => ?_⟩
  obtain ⟨D, rfl⟩ : ∃ k, D = k + 1 := ⟨D - 1, by omega⟩
  obtain ⟨r, u, w, g1, g2, g3, g4, g5⟩ := h.2.2 N o n D t m s top hX hC hT hr hfl (by omega) ht (by omega) hH
  have := h.2.1
  refine ⟨r, u, w, 0, by omega, g1, ?_, g3, g4, g5⟩
  show o_X12_readConditionAnd N (rec_readCondition N D).2.2 s m = _
  unfold o_X12_readConditionAnd
  rw [g2, bdI_s]
  rfl
theorem cw_one (h : CA fl M H cd tk a b c d) : CW fl M H cd tk a b c d := by
  refine ⟨h.1, h.2.1, fun N o n D t m s top hX hC hT hr hfl hi h25 hD ht ht2 hH => ?_⟩
  obtain ⟨D, rfl⟩ : ∃ k, D = k + 1 := ⟨D - 1, by omega⟩
  obtain ⟨r, u, w, g1, g2, g3, g4, g5⟩ := ca_end h hX hC hT hr hfl hi h25 (D := D) (top := top) (by omega) ht (by omega) hH
  have := h.2.1
  refine ⟨r, u, w, 0, by omega, g1, ?_, g3, g4, g5⟩
  show o_X12_readCondition N (rec_readCondition N D).2.1 s m = _
  unfold o_X12_readCondition
  rw [g2, bdI_s]
  rfl
theorem ca_and {b2 d2 : Nat} {fl2 : Bool} (h : CA true M H cd tk a b c d) (g : CO fl2 M H cd tk b b2 (d + 1) d2) (h1 : cd b2 = 10) (h2 : tk d = 25) : CA fl2 M H cd tk a (b2 + 1) c d2 := by
  have ha1 := h.1
  have hc1 := h.2.1
  have ha2 := g.1
  have hc2 := g.2.1
  refine ⟨by omega, by omega, fun N o n D t m s top hX hC hT hr hfl hD ht ht2 hH => ?_⟩
  have hcb := hC.1 b2 (by omega) (by omega)
  have htd := hT.1 d (by omega) (by omega)
  rw [h1] at hcb; rw [h2] at htd
  have hl := hC.2
  have hd := hT.2
  have hN := hX.1
  obtain ⟨r, u, w, j, k0, k1, k2, kr, k3, k4⟩ := h.2.2 N o n D t m s top hX (hC.sub (by omega) (by omega)) (hT.sub (by omega) (by omega)) hr ⟨hfl.1, Or.inl rfl⟩ hD ht ht2 hH
  have hX2 := hX.fr k1.2.1 k1.2.2.1 (k3.tr (mf4.rd (x := ((d + 1 : Nat) : Int))))
  obtain ⟨r2, u2, w2, q1, q2, qr, q3, q4⟩ := g.2.2 N o n (D - 1) u (pI w 200 114 ((d + 1 : Nat) : Int)) s (top + 1) hX2 ((hC.sub (by omega) (by omega)).fr k1.2.1) ((hT.sub (by omega) (by omega)).fr (k3.tr mf4.rd)) pI_at (hfl.fr (k3.tr mf4.rd)) (by omega) (by omega) (by omega) hH
  have hu302 : u2.1 302 18 = t.1 302 18 := by rw [q1.2.1.1 302 (by decide) (by decide) (by decide) (by decide) (by decide), k1.2.1.1 302 (by decide) (by decide) (by decide) (by decide) (by decide)]
  have hu363 : u2.1 363 b2 = 10 := by rw [q1.2.1.1 363 (by decide) (by decide) (by decide) (by decide) (by decide), k1.2.1.1 363 (by decide) (by decide) (by decide) (by decide) (by decide)]; exact hcb
  refine ⟨(if r = 0 then 0 else if r2 = 0 then 0 else 1), _, w2, j + 1, by omega, k1.two q1 ht (by omega) (by omega) (fun K q => ?_), ?_, by rcases kr with rfl | rfl <;> rcases qr with rfl | rfl <;> simp, (k3.tr mf4.rd).tr q3, q4⟩
  · have := ev_and (N := N) (o := o) (K := K) (s := s) (q := q) (x := b2) (top := top + 1 + 1) (t := u2) (by omega) (by rw [hu302]; exact hX.2.2.2.1) hu363 (by omega)
    rw [this, show (top + 1 + 1 - 1) = top + 1 by omega, q1.2.2.2.1]
    have hv : u2.2 370 (top + 1).toNat = tv r := by rw [q1.2.2.2.2 (top + 1).toNat (by omega)]; exact k1.2.2.2.1
    rw [hv]
    rcases kr with rfl | rfl <;> rcases qr with rfl | rfl <;> rfl
  · rw [k2]
    obtain ⟨q, hq⟩ : ∃ q, N - j = q + 1 := ⟨N - j - 1, by omega⟩
    have hwd : w.1 31 d = 25 := by rw [k3.1 31 (by decide) (by decide) (by decide) (by decide) (by decide)]; exact htd
    rw [hq, show N - (j + 1) = q by omega]
    conv => lhs; unfold o_X12_readConditionAnd_L6
    simp only [lt1_k, jn1_k, k4, Int.toNat_natCast, hwd]
    rw [ixI_ok (by omega), cmpI_ok (by omega), if_pos trivial, show ((d : Int) + 1) = ((d + 1 : Nat) : Int) by omega, q2, bdI_s, cmpI_ok (by omega), cmpI_ok (by omega)]
    rcases kr with rfl | rfl <;> rcases qr with rfl | rfl <;> rfl
theorem cw_or {b2 d2 : Nat} {fl2 : Bool} (h : CW true M H cd tk a b c d) (g : CA fl2 M H cd tk b b2 (d + 1) d2) (h1 : cd b2 = 11) (h2 : tk d = 24) : CW fl2 M H cd tk a (b2 + 1) c d2 := by
  have ha1 := h.1
  have hc1 := h.2.1
  have ha2 := g.1
  have hc2 := g.2.1
  refine ⟨by omega, by omega, fun N o n D t m s top hX hC hT hr hfl hi h25 hD ht ht2 hH => ?_⟩
  have hcb := hC.1 b2 (by omega) (by omega)
  have htd := hT.1 d (by omega) (by omega)
  rw [h1] at hcb; rw [h2] at htd
  have hl := hC.2
  have hd := hT.2
  have hN := hX.1
  obtain ⟨r, u, w, j, k0, k1, k2, kr, k3, k4⟩ := h.2.2 N o n D t m s top hX (hC.sub (by omega) (by omega)) (hT.sub (by omega) (by omega)) hr ⟨hfl.1, Or.inl rfl⟩ (by rw [htd]; exact ⟨by decide, by decide⟩) (by rw [htd]; decide) hD ht ht2 hH
  have hX2 := hX.fr k1.2.1 k1.2.2.1 (k3.tr (mf4.rd (x := ((d + 1 : Nat) : Int))))
  have hd2 : (pI w 200 114 ((d + 1 : Nat) : Int)).1 31 d2 = m.1 31 d2 := by rw [pI_ne (by decide), k3.1 31 (by decide) (by decide) (by decide) (by decide) (by decide)]
  obtain ⟨r2, u2, w2, q1, q2, qr, q3, q4⟩ := ca_end g (D := D - 1) (t := u) (m := pI w 200 114 ((d + 1 : Nat) : Int)) (s := s) (top := top + 1) hX2 ((hC.sub (by omega) (by omega)).fr k1.2.1) ((hT.sub (by omega) (by omega)).fr (k3.tr mf4.rd)) pI_at (hfl.fr (k3.tr mf4.rd)) (by rw [hd2]; exact hi) (by rw [hd2]; exact h25) (by omega) (by omega) (by omega) hH
  have hu302 : u2.1 302 18 = t.1 302 18 := by rw [q1.2.1.1 302 (by decide) (by decide) (by decide) (by decide) (by decide), k1.2.1.1 302 (by decide) (by decide) (by decide) (by decide) (by decide)]
  have hu363 : u2.1 363 b2 = 11 := by rw [q1.2.1.1 363 (by decide) (by decide) (by decide) (by decide) (by decide), k1.2.1.1 363 (by decide) (by decide) (by decide) (by decide) (by decide)]; exact hcb
  refine ⟨(if r = 0 then (if r2 = 0 then 0 else 1) else 1), _, w2, j + 1, by omega, k1.two q1 ht (by omega) (by omega) (fun K q => ?_), ?_, by rcases kr with rfl | rfl <;> rcases qr with rfl | rfl <;> simp, (k3.tr mf4.rd).tr q3, q4⟩
  · have := ev_or (N := N) (o := o) (K := K) (s := s) (q := q) (x := b2) (top := top + 1 + 1) (t := u2) (by omega) (by rw [hu302]; exact hX.2.2.2.1) hu363 (by omega)
    rw [this, show (top + 1 + 1 - 1) = top + 1 by omega, q1.2.2.2.1]
    have hv : u2.2 370 (top + 1).toNat = tv r := by rw [q1.2.2.2.2 (top + 1).toNat (by omega)]; exact k1.2.2.2.1
    rw [hv]
    rcases kr with rfl | rfl <;> rcases qr with rfl | rfl <;> rfl
  · rw [k2]
    obtain ⟨q, hq⟩ : ∃ q, N - j = q + 1 := ⟨N - j - 1, by omega⟩
    have hwd : w.1 31 d = 24 := by rw [k3.1 31 (by decide) (by decide) (by decide) (by decide) (by decide)]; exact htd
    rw [hq, show N - (j + 1) = q by omega]
    conv => lhs; unfold o_X12_readCondition_L6
    simp only [lt1_k, jn1_k, k4, Int.toNat_natCast, hwd]
    rw [ixI_ok (by omega), cmpI_ok (by omega), if_pos trivial, show ((d : Int) + 1) = ((d + 1 : Nat) : Int) by omega, q2, bdI_s, cmpI_ok (by omega), cmpI_ok (by omega)]
    rcases kr with rfl | rfl <;> rcases qr with rfl | rfl <;> rfl
end
