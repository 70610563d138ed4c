/-! finding out whom code means: the hall's steps -/
/-- what finding out leaves as it is: the model, but for where it reads -/
def mf4 (m u : St) : Prop := (∀ a, a ≠ 80 → a ≠ 81 → a ≠ 86 → a ≠ 87 → a ≠ 200 → u.1 a = m.1 a) ∧ (∀ b, b ≠ 82 → b ≠ 83 → b ≠ 84 → b ≠ 85 → b ≠ 88 → b ≠ 114 → u.1 200 b = m.1 200 b) ∧ u.2 = m.2
theorem mf4.rf {m : St} : mf4 m m := ⟨fun _ _ _ _ _ _ => rfl, fun _ _ _ _ _ _ _ => rfl, rfl⟩
theorem mf4.tr {m u v : St} (h : mf4 m u) (g : mf4 u v) : mf4 m v :=
  ⟨fun a h1 h2 h3 h4 h5 => (g.1 a h1 h2 h3 h4 h5).trans (h.1 a h1 h2 h3 h4 h5), fun b h1 h2 h3 h4 h5 h6 => (g.2.1 b h1 h2 h3 h4 h5 h6).trans (h.2.1 b h1 h2 h3 h4 h5 h6), g.2.2.trans h.2.2⟩
theorem mfr.m4 {m u : St} (h : mfr m u) : mf4 m u := ⟨h.1, fun b h1 h2 h3 h4 h5 _ => h.2.1 b h1 h2 h3 h4 h5, h.2.2⟩
theorem mf4.rd {m : St} {x : Int} : mf4 m (pI m 200 114 x) := ⟨fun a _ _ _ _ h5 => pI_ne h5, fun b _ _ _ _ _ h6 => pI_nf h6, rfl⟩
/-- home counts: not while a search tries things out -/
def hGd (o : Nat) (m : St) : Prop := o = 0 ∨ m.1 200 54 = 1
/-- floor, forms, home and cache: both sides, for floor o of the hall -/
def EVr (o : Nat) (t m : St) (n : Nat) : Prop :=
  o < 2 ∧ hmF o t m n ∧ hoO o t m n ∧ (∀ fc d : Nat, fc < 4 → d < 64 → bq (t.2 (396 + 10 * o) fc) d = decide (d < n ∧ m.1 40 d = fc)) ∧
  (hGd o m → ∀ d, d < n → ok4 (m.1 44 d) ∧ ok4 (m.1 45 d) ∧ (0 ≤ m.1 46 d ∧ m.1 46 d ≤ 3) ∧ t.1 (394 + 10 * o) d = cdZ (m.1 44 d) (m.1 45 d) (m.1 46 d)) ∧
  CIk t ∧ inR (t.1 (305 + o) 9) ∧ (t.1 312 2 = m.1 200 14 ∧ 0 ≤ m.1 200 14 ∧ m.1 200 14 ≤ 40) ∧ ∀ f : Nat, (f : Int) < m.1 200 14 → ∃ k, fmO m f k ∧ fhO t m f k
theorem EVr.fr {o n : Nat} {t m u v : St} (h : EVr o t m n) (g : hfr t u) (gC : CIk u) (g2 : mf4 m v) : EVr o u v n := by
  obtain ⟨ho, h1, h2, h3, h4, h5, h6, h7, h8⟩ := h
  have e : ∀ a, a ≠ 80 → a ≠ 81 → a ≠ 86 → a ≠ 87 → a ≠ 200 → v.1 a = m.1 a := g2.1
  have e37 := g2.2.1 37 (by decide) (by decide) (by decide) (by decide) (by decide) (by decide)
  have e14 := g2.2.1 14 (by decide) (by decide) (by decide) (by decide) (by decide) (by decide)
  have e38 := e 38 (by decide) (by decide) (by decide) (by decide) (by decide)
  have e39 := e 39 (by decide) (by decide) (by decide) (by decide) (by decide)
  have e40 := e 40 (by decide) (by decide) (by decide) (by decide) (by decide)
  refine ⟨ho, ?_, ?_, ?_, ?_, gC, ?_, ?_, ?_⟩
  · unfold hmF fmF
    rw [e37, e38, e39, e40]
    exact h1.fr g ho
  · unfold hoO odM
    rw [e38, e39]
    exact h2.fr g ho
  · rw [e40, g.2.2 (396 + 10 * o) (by omega) (by omega) (by omega)]; exact h3
  · unfold hGd
    rw [g2.2.1 54 (by decide) (by decide) (by decide) (by decide) (by decide) (by decide), e 44 (by decide) (by decide) (by decide) (by decide) (by decide), e 45 (by decide) (by decide) (by decide) (by decide) (by decide), e 46 (by decide) (by decide) (by decide) (by decide) (by decide), g.1 (394 + 10 * o) (by omega) (by omega) (by omega) (by omega) (by omega)]; exact h4
  · rw [g.1 (305 + o) (by omega) (by omega) (by omega) (by omega) (by omega)]; exact h6
  · rw [e14, g.1 312 (by decide) (by decide) (by decide) (by decide) (by decide)]; exact h7
  · intro f hf
    rw [e14] at hf
    obtain ⟨k, a1, a2⟩ := h8 f hf
    refine ⟨k, ?_, ?_⟩
    · unfold fmO
      rw [e 18 (by decide) (by decide) (by decide) (by decide) (by decide), e 19 (by decide) (by decide) (by decide) (by decide) (by decide), e 20 (by decide) (by decide) (by decide) (by decide) (by decide), e 21 (by decide) (by decide) (by decide) (by decide) (by decide), e 22 (by decide) (by decide) (by decide) (by decide) (by decide)]
      exact a1
    · unfold fhO
      rw [e 19 (by decide) (by decide) (by decide) (by decide) (by decide), e 20 (by decide) (by decide) (by decide) (by decide) (by decide), e 21 (by decide) (by decide) (by decide) (by decide) (by decide), e 22 (by decide) (by decide) (by decide) (by decide) (by decide)]
      exact a2.fr g
/-- a code word -/
theorem h_kind {N x : Nat} {kd vl : Int} {t : St} (hk : 0 ≤ kd ∧ kd < 64) (hv : 0 ≤ vl ∧ vl < 33554432) (hl : (x : Int) < t.1 302 18) (hl2 : t.1 302 18 ≤ 10098) (hw : t.1 363 x = vl * 64 + kd) : f_X0_kindAt N x t = some (kd, t) ∧ f_X0_valueAt N x t = some (vl, t) := by
  have e1 : (vl * 64 + kd) % 64 = kd := by omega
  have e2 : (vl * 64 + kd) / 64 = vl := by omega
  constructor
  · unfold f_X0_kindAt
    rw [cmpI_ok (by omega), if_neg (by omega), lt1_k, cmpI_ok (by omega), if_pos hl, ixI_ok (by omega), lt1_k, Int.toNat_natCast, hw, e1]
  · unfold f_X0_valueAt
    rw [cmpI_ok (by omega), if_neg (by omega), lt1_k, cmpI_ok (by omega), if_pos hl, ixI_ok (by omega), lt1_k, Int.toNat_natCast, hw, rnI_ok (by omega), e2]
section
variable {N o : Nat} {K : Int → St → Option (Int × St)} {s : Int64} {q x : Nat} {top : Int} {t : St} {vl : Int}
theorem ev_stop {kd : Int} (hk : 16 < kd ∧ kd < 64) (hv : 0 ≤ vl ∧ vl < 33554432) (hl : (x : Int) < t.1 302 18) (hl2 : t.1 302 18 ≤ 10098) (hw : t.1 363 x = vl * 64 + kd) : f_X1_evaluate_L6 N o K s (q + 1) top x t = K x t := by
  have h := h_kind (N := N) (by omega) hv hl hl2 hw
  unfold f_X1_evaluate_L6
  rw [lt1_k, cmpI_ok (by omega), if_pos hl, h.1, bdI_s, cmpI_ok (by omega), if_pos hk.1]
theorem ev_plain {kd : Int} {p : Int64} (hk : 0 ≤ kd ∧ kd ≤ 7) (hv : 0 ≤ vl ∧ vl < 33554432) (hl : (x : Int) < t.1 302 18) (hl2 : t.1 302 18 ≤ 10098) (hw : t.1 363 x = vl * 64 + kd) (ht : -1 ≤ top ∧ top < 95) (hp : f_X1_plainly N o kd vl t = some (p, t)) : f_X1_evaluate_L6 N o K s (q + 1) top x t = f_X1_evaluate_L6 N o K s q (top + 1) ((x + 1 : Nat) : Int) (pL t 370 (top + 1).toNat (s &&& p)) := by
  have h := h_kind (N := N) (by omega) hv hl hl2 hw
  conv => lhs; unfold f_X1_evaluate_L6
  simp only [lt1_k, jn1_k]
  rw [cmpI_ok (by omega), if_pos hl, h.1, bdI_s, cmpI_ok (by omega), if_neg (by omega), h.1, bdI_s, h.2, bdI_s, cmpI_ok (by omega), rnI_ok (by omega), if_neg (by omega), if_neg (by omega), if_neg (by omega), if_neg (by omega), if_neg (by omega), if_neg (by omega), if_neg (by omega), if_neg (by omega), if_neg (by omega), cmpI_ok (by omega), hp, bdL_s, show min (top + 1) 95 = top + 1 by omega, ixI_ok (by omega)]
  rfl
theorem ev_in {u : St} {p : Int64} (hv : 0 ≤ vl ∧ vl < 33554432) (hl : (x : Int) < t.1 302 18) (hl2 : t.1 302 18 ≤ 10098) (hw : t.1 363 x = vl * 64 + 8) (ht : -1 ≤ top ∧ top < 95) (hf : f_X2_findGreedy N o vl s t = some u) (hi : f_X2_inGreedy N o vl (-1) u = some (p, u)) : f_X1_evaluate_L6 N o K s (q + 1) top x t = f_X1_evaluate_L6 N o K s q (top + 1) ((x + 1 : Nat) : Int) (pL u 370 (top + 1).toNat p) := by
  have h := h_kind (N := N) (by omega) hv hl hl2 hw
  conv => lhs; unfold f_X1_evaluate_L6
  simp only [lt1_k, jn1_k]
  rw [cmpI_ok (by omega), if_pos hl, h.1, bdI_s, cmpI_ok (by omega), if_neg (by omega), h.1, bdI_s, h.2, bdI_s, cmpI_ok (by omega), rnI_ok (by omega), if_pos rfl, cmpI_ok (by omega), hf, bdV_s, hi, bdL_s, show min (top + 1) 95 = top + 1 by omega, ixI_ok (by omega)]
  rfl
theorem ev_at {u : St} {p : Int64} (hv : 0 ≤ vl ∧ vl < 33554432) (hl : (x : Int) < t.1 302 18) (hl2 : t.1 302 18 ≤ 10098) (hw : t.1 363 x = vl * 64 + 9) (ht : -1 ≤ top ∧ top < 95) (hf : f_X2_findGreedy N o (vl / 8) s t = some u) (hi : f_X2_inGreedy N o (vl / 8) (vl % 8) u = some (p, u)) : f_X1_evaluate_L6 N o K s (q + 1) top x t = f_X1_evaluate_L6 N o K s q (top + 1) ((x + 1 : Nat) : Int) (pL u 370 (top + 1).toNat p) := by
  have h := h_kind (N := N) (by omega) hv hl hl2 hw
  conv => lhs; unfold f_X1_evaluate_L6
  simp only [lt1_k, jn1_k]
  rw [cmpI_ok (by omega), if_pos hl, h.1, bdI_s, cmpI_ok (by omega), if_neg (by omega), h.1, bdI_s, h.2, bdI_s, cmpI_ok (by omega), rnI_ok (by omega), if_neg (by decide), if_pos rfl, cmpI_ok (by omega), dvI_ok (by omega), hf, bdV_s, dvI_ok (by omega), dvI_ok (by omega), hi, bdL_s, show min (top + 1) 95 = top + 1 by omega, ixI_ok (by omega)]
  rfl
theorem ev_and (hl : (x : Int) < t.1 302 18) (hl2 : t.1 302 18 ≤ 10098) (hw : t.1 363 x = 10) (ht : 1 ≤ top ∧ top ≤ 95) : f_X1_evaluate_L6 N o K s (q + 1) top x t = f_X1_evaluate_L6 N o K s q (top - 1) ((x + 1 : Nat) : Int) (pL t 370 (top - 1).toNat (t.2 370 (top - 1).toNat &&& t.2 370 top.toNat)) := by
  have h := h_kind (N := N) (kd := 10) (vl := 0) (by omega) (by omega) hl hl2 hw
  conv => lhs; unfold f_X1_evaluate_L6
  simp only [lt1_k, jn1_k]
  rw [cmpI_ok (by omega), if_pos hl, h.1, bdI_s, cmpI_ok (by omega), if_neg (by omega), h.1, bdI_s, h.2, bdI_s, cmpI_ok (by omega), rnI_ok (by omega), if_neg (by decide), if_neg (by decide), if_pos rfl, cmpI_ok (by omega), show max (top - 1) 0 = top - 1 by omega, ixI_ok (by omega), ixI_ok (by omega), show (top - 1 + 1) = top by omega]
  unfold f_X1_joined
  rw [cmpI_ok (by omega), if_pos rfl, bdL_s, ixI_ok (by omega)]
  rfl
theorem ev_or (hl : (x : Int) < t.1 302 18) (hl2 : t.1 302 18 ≤ 10098) (hw : t.1 363 x = 11) (ht : 1 ≤ top ∧ top ≤ 95) : f_X1_evaluate_L6 N o K s (q + 1) top x t = f_X1_evaluate_L6 N o K s q (top - 1) ((x + 1 : Nat) : Int) (pL t 370 (top - 1).toNat (t.2 370 (top - 1).toNat ||| t.2 370 top.toNat)) := by
  have h := h_kind (N := N) (kd := 11) (vl := 0) (by omega) (by omega) hl hl2 hw
  conv => lhs; unfold f_X1_evaluate_L6
  simp only [lt1_k, jn1_k]
  rw [cmpI_ok (by omega), if_pos hl, h.1, bdI_s, cmpI_ok (by omega), if_neg (by omega), h.1, bdI_s, h.2, bdI_s, cmpI_ok (by omega), rnI_ok (by omega), if_neg (by decide), if_neg (by decide), if_neg (by decide), if_pos rfl, cmpI_ok (by omega), show max (top - 1) 0 = top - 1 by omega, ixI_ok (by omega), ixI_ok (by omega), show (top - 1 + 1) = top by omega]
  unfold f_X1_joined
  rw [cmpI_ok (by omega), if_neg (by decide), bdL_s, ixI_ok (by omega)]
  rfl
theorem ev_not (hl : (x : Int) < t.1 302 18) (hl2 : t.1 302 18 ≤ 10098) (hw : t.1 363 x = 12) (ht : 0 ≤ top ∧ top ≤ 95) : f_X1_evaluate_L6 N o K s (q + 1) top x t = f_X1_evaluate_L6 N o K s q top ((x + 1 : Nat) : Int) (pL t 370 top.toNat (s &&& (t.2 370 top.toNat ^^^ (-1)))) := by
  have h := h_kind (N := N) (kd := 12) (vl := 0) (by omega) (by omega) hl hl2 hw
  conv => lhs; unfold f_X1_evaluate_L6
  simp only [lt1_k, jn1_k]
  rw [cmpI_ok (by omega), if_pos hl, h.1, bdI_s, cmpI_ok (by omega), if_neg (by omega), h.1, bdI_s, h.2, bdI_s, cmpI_ok (by omega), rnI_ok (by omega), if_neg (by decide), if_neg (by decide), if_neg (by decide), if_neg (by decide), if_pos rfl, show max top 0 = top by omega, ixI_ok (by omega), ixI_ok (by omega)]
  rfl
theorem ev_home {r : Int} (hl : (x : Int) < t.1 302 18) (hl2 : t.1 302 18 ≤ 10098) (hw : t.1 363 x = 13) (ht : -1 ≤ top ∧ top < 95) (hr : r = 0 ∨ r = 1) (hh : f_X3_isAt N o (394 + 10 * o) 64 t = some (r, t)) : f_X1_evaluate_L6 N o K s (q + 1) top x t = f_X1_evaluate_L6 N o K s q (top + 1) ((x + 1 : Nat) : Int) (pL t 370 (top + 1).toNat (if r = 0 then 0 else 1)) := by
  have h := h_kind (N := N) (kd := 13) (vl := 0) (by omega) (by omega) hl hl2 hw
  conv => lhs; unfold f_X1_evaluate_L6
  simp only [lt1_k, jn1_k]
  rw [cmpI_ok (by omega), if_pos hl, h.1, bdI_s, cmpI_ok (by omega), if_neg (by omega), h.1, bdI_s, h.2, bdI_s, cmpI_ok (by omega), rnI_ok (by omega), if_neg (by decide), if_neg (by decide), if_neg (by decide), if_neg (by decide), if_neg (by decide), if_pos rfl, cmpI_ok (by omega), hh, bdI_s, cmpI_ok (by omega), show min (top + 1) 95 = top + 1 by omega, ixI_ok (by omega), ixI_ok (by omega)]
  rcases hr with rfl | rfl <;> rfl
theorem ev_count (hv : 0 ≤ vl ∧ vl < 33554432) (hl : (x : Int) < t.1 302 18) (hl2 : t.1 302 18 ≤ 10098) (hw : t.1 363 x = vl * 64 + 14) (ht : 0 ≤ top ∧ top ≤ 95) : f_X1_evaluate_L6 N o K s (q + 1) top x t = f_X1_evaluate_L6 N o K s q top ((x + 1 : Nat) : Int) (pL t 370 top.toNat (if (cnb (t.2 370 top.toNat) 64 : Int) = vl then 1 else 0)) := by
  have h := h_kind (N := N) (kd := 14) (by omega) hv hl hl2 hw
  have hc := cnb_le (s := t.2 370 top.toNat) 64
  conv => lhs; unfold f_X1_evaluate_L6
  simp only [lt1_k, jn1_k]
  rw [cmpI_ok (by omega), if_pos hl, h.1, bdI_s, cmpI_ok (by omega), if_neg (by omega), h.1, bdI_s, h.2, bdI_s, cmpI_ok (by omega), rnI_ok (by omega), if_neg (by decide), if_neg (by decide), if_neg (by decide), if_neg (by decide), if_neg (by decide), if_neg (by decide), if_pos rfl, show max top 0 = top by omega, ixI_ok (by omega), h_bitCount, bdI_s, cmpI_ok (by omega), ixI_ok (by omega), ixI_ok (by omega)]
  split <;> rfl
theorem ev_forms {u : St} {r : Int} (hv : 0 ≤ vl ∧ vl < 33554432) (hl : (x : Int) < t.1 302 18) (hl2 : t.1 302 18 ≤ 10098) (hw : t.1 363 x = vl * 64 + 15) (ht : 0 ≤ top ∧ top ≤ 95) (hr : inR r) (hp : f_X2_part N o vl (t.2 370 top.toNat) t = some (r, u)) : f_X1_evaluate_L6 N o K s (q + 1) top x t = f_X1_evaluate_L6 N o K s q top ((x + 1 : Nat) : Int) (pL u 370 top.toNat (if r = 0 then 1 else 0)) := by
  have h := h_kind (N := N) (kd := 15) (by omega) hv hl hl2 hw
  conv => lhs; unfold f_X1_evaluate_L6
  simp only [lt1_k, jn1_k]
  rw [cmpI_ok (by omega), if_pos hl, h.1, bdI_s, cmpI_ok (by omega), if_neg (by omega), h.1, bdI_s, h.2, bdI_s, cmpI_ok (by omega), rnI_ok (by omega), if_neg (by decide), if_neg (by decide), if_neg (by decide), if_neg (by decide), if_neg (by decide), if_neg (by decide), if_neg (by decide), if_pos rfl, show max top 0 = top by omega, ixI_ok (by omega), hp, bdI_s, cmpI_ok (by omega), ixI_ok (by omega), ixI_ok (by omega)]
  split <;> rfl
theorem ev_deny (hl : (x : Int) < t.1 302 18) (hl2 : t.1 302 18 ≤ 10098) (hw : t.1 363 x = 16) (ht : 0 ≤ top ∧ top ≤ 95) : f_X1_evaluate_L6 N o K s (q + 1) top x t = f_X1_evaluate_L6 N o K s q top ((x + 1 : Nat) : Int) (pL t 370 top.toNat (1 - t.2 370 top.toNat)) := by
  have h := h_kind (N := N) (kd := 16) (vl := 0) (by omega) (by omega) hl hl2 hw
  conv => lhs; unfold f_X1_evaluate_L6
  simp only [lt1_k, jn1_k]
  rw [cmpI_ok (by omega), if_pos hl, h.1, bdI_s, cmpI_ok (by omega), if_neg (by omega), h.1, bdI_s, h.2, bdI_s, cmpI_ok (by omega), rnI_ok (by omega), if_neg (by decide), if_neg (by decide), if_neg (by decide), if_neg (by decide), if_neg (by decide), if_neg (by decide), if_neg (by decide), if_neg (by decide), if_pos rfl, show max top 0 = top by omega, ixI_ok (by omega), ixI_ok (by omega)]
  rfl
end
