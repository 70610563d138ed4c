/-! the run: looks -/
section
variable {N o n : Nat} {t0 m0 t m u v w t1 : St} {k h a : Nat} {K4 K5 : St → Option (Int × St)} {K2 : Int → St → Option (Int × St)} {K3 : St → Option (Int × St)}
theorem h_val : f_X1_value N t = some (t.2 370 0, t) := by
  unfold f_X1_value
  rw [ixI_ok (by decide), lt1_k]; rfl
theorem ob_24 {a1 w : Int} {b h : Nat} (h3 : t.1 (307 + o) 3 = b) (hv : t.2 370 0 = tv w) (hw : w = 0 ∨ w = 1) (h6 : t.1 (307 + o) 6 = ((h + 1 : Nat) : Int)) (hh : h < 1500) : f_X8_obey N o 24 a1 t = some (if w = 0 then pI t (307 + o) 3 ((b + 1 : Nat) : Int) else pI (pI t (307 + o) 6 (h : Int)) (307 + o) 3 a1) := by
  unfold f_X8_obey
  rw [rnI_ok (by omega), if_neg (by decide), if_neg (by decide), if_neg (by decide), if_neg (by decide), if_neg (by decide), if_pos rfl, h_val, bdL_s, jn1_k, hv]
  rcases hw with rfl | rfl
  · rw [if_pos (show tv 0 = 0 by decide)]
    show (bdV (f_X8_leaveIf N o 0 a1 t) fun t34 => some t34) = _
    rw [leave0 h3, bdV_s, if_pos rfl]
  · rw [if_neg (show ¬ tv 1 = 0 by decide)]
    show (bdV (f_X8_leaveIf N o 1 a1 t) fun t34 => some t34) = _
    rw [leave1 h6 hh, bdV_s, if_neg (by decide)]
theorem ob_25 {a1 w : Int} {b : Nat} (h3 : t.1 (307 + o) 3 = b) (hv : t.2 370 0 = tv w) (hw : w = 0 ∨ w = 1) : f_X8_obey N o 25 a1 t = some (pI t (307 + o) 3 (if w = 0 then a1 else ((b + 1 : Nat) : Int))) := by
  unfold f_X8_obey
  rw [rnI_ok (by omega), if_neg (by decide), if_neg (by decide), if_neg (by decide), if_neg (by decide), if_neg (by decide), if_neg (by decide), if_pos rfl, h_val, bdL_s, hv]
  rcases hw with rfl | rfl
  · rw [if_pos (show tv 0 = 0 by decide), if_pos rfl]; rfl
  · rw [if_neg (show ¬ tv 1 = 0 by decide), if_neg (by decide), lt1_k, h3]; rfl
theorem ob_26 {a1 : Int} : f_X8_obey N o 26 a1 t = some (pI t (307 + o) 3 a1) := by
  unfold f_X8_obey
  rw [rnI_ok (by omega), if_neg (by decide), if_neg (by decide), if_neg (by decide), if_neg (by decide), if_neg (by decide), if_neg (by decide), if_neg (by decide), if_pos rfl]; rfl
theorem ob_27 {a1 : Int} {b h : Nat} (h3 : t.1 (307 + o) 3 = b) (h6 : t.1 (307 + o) 6 = h) (hh : h < 1500) (ho : o < 2) : f_X8_obey N o 27 a1 t = some (pI (pL (pI (pL t (410 + o) h (t.2 (307 + o) 4)) (307 + o) 6 ((h + 1 : Nat) : Int)) (307 + o) 4 (t.2 370 0)) (307 + o) 3 ((b + 1 : Nat) : Int)) := by
  unfold f_X8_obey
  rw [rnI_ok (by omega), if_neg (by decide), if_neg (by decide), if_neg (by decide), if_neg (by decide), if_neg (by decide), if_neg (by decide), if_neg (by decide), if_neg (by decide), if_pos rfl, lt1_k, h_push h6 hh, bdV_s, h_val, bdL_s, lt1_k, lt1_k, pI_L, pL_ne (by omega), pL_I, pI_nf (by decide), pL_I, h3]
  rfl
theorem ob_28 {a1 : Int} {b h : Nat} (h3 : t.1 (307 + o) 3 = b) (h6 : t.1 (307 + o) 6 = ((h + 1 : Nat) : Int)) (hh : h < 1500) : f_X8_obey N o 28 a1 t = some (pI (pL (pI t (307 + o) 6 (h : Int)) (307 + o) 4 (t.2 (410 + o) h)) (307 + o) 3 ((b + 1 : Nat) : Int)) := by
  unfold f_X8_obey
  rw [rnI_ok (by omega), if_neg (by decide), if_neg (by decide), if_neg (by decide), if_neg (by decide), if_neg (by decide), if_neg (by decide), if_neg (by decide), if_neg (by decide), if_neg (by decide), if_pos rfl, h_pop h6 hh, bdL_s, lt1_k, lt1_k, pL_I, pI_nf (by decide), h3]
  rfl
theorem ob_29 {a1 : Int} {h : Nat} (h6 : t.1 (307 + o) 6 = ((h + 1 : Nat) : Int)) (hh : h < 1500) : f_X8_obey N o 29 a1 t = some (pI (pI t (307 + o) 6 (h : Int)) (307 + o) 3 (t.2 (410 + o) h).toInt) := by
  unfold f_X8_obey
  rw [rnI_ok (by omega), if_neg (by decide), if_neg (by decide), if_neg (by decide), if_neg (by decide), if_neg (by decide), if_neg (by decide), if_neg (by decide), if_neg (by decide), if_neg (by decide), if_neg (by decide), h_pop h6 hh, bdL_s]
  rfl
/-- acts of no other word -/
theorem ac_0 {kd vl : Int} (hk : kd = 20 ∨ kd = 22 ∨ (24 ≤ kd ∧ kd ≤ 29)) : f_X8_actsOf N o kd vl t = some (0, t) := by
  unfold f_X8_actsOf
  rw [rnI_ok (by omega), if_neg (by omega)]
  by_cases k20 : kd = 20
  · rw [if_pos k20]
  · rw [if_neg k20, if_neg (by omega)]
    by_cases k22 : kd = 22
    · rw [if_pos k22]
    · rw [if_neg k22, if_neg (by omega)]
/-- where a look ends -/
def LKe (tk : Nat → Int) (d1 : Nat) : Prop := tk d1 = 5123 ∨ (tk d1 = 10 ∧ (∃ nn : Int, 1 ≤ nn ∧ nn ≤ 64 ∧ tk (d1 + 1) = 1000 + nn) ∧ tk (d1 + 2) = 5123)
/-- the acts of a look, as the model counts them -/
theorem m_acl {c d1 : Nat} (hN : 20000 ≤ N) (hd : c + 1 < d1) (hd2 : d1 + 3 ≤ 6000) (h9 : m.1 31 c = 9 ∨ m.1 31 c = 11 ∨ m.1 31 c = 13) (hw : ∀ x, c + 1 ≤ x → x < d1 → WTk (m.1 31 x)) (he : LKe (m.1 31) d1) : f_X12_actsOf N c m = some (1 + cnL (m.1 31) (c + 1) (d1 - (c + 1)), m) := by
  unfold f_X12_actsOf
  rw [ixI_ok (by omega), lt1_k, Int.toNat_natCast, cmpI_ok (by omega), if_neg (by omega), cmpI_ok (by omega), if_neg (by omega), show (c : Int) + 1 = ((c + 1 : Nat) : Int) by omega]
  have hww : ∀ x, c + 1 ≤ x → x < d1 → inR (m.1 31 x) ∧ m.1 31 x ≠ 5123 := fun x z1 z2 => by
    have := hw x z1 z2
    unfold WTk at this
    omega
  rcases he with he | ⟨e1, ⟨nn, e2, e3, e4⟩, e5⟩
  · exact m_look (d1 - (c + 1)) (c + 1) N 1 (by omega) (by omega) (fun j z1 z2 => hww j z1 (by omega)) (by rw [show c + 1 + (d1 - (c + 1)) = d1 by omega]; exact he)
  · have hk := m_look (m := m) (K5 := fun (k15 : Int) (t16 : St) => some (k15, t16)) (d1 + 2 - (c + 1)) (c + 1) N 1 (by omega) (by omega) (fun j z1 z2 => by
      by_cases hj : j < d1
      · exact hww j z1 hj
      · by_cases hj1 : j = d1
        · rw [hj1, e1]; omega
        · have : j = d1 + 1 := by omega
          rw [this, e4]; omega) (by rw [show c + 1 + (d1 + 2 - (c + 1)) = d1 + 2 by omega]; exact e5)
    rw [hk, show d1 + 2 - (c + 1) = (d1 - (c + 1)) + 2 by omega, cnL_add, show c + 1 + (d1 - (c + 1)) = d1 by omega]
    have : cnL (m.1 31) d1 2 = 0 := by
      rw [show (2 : Nat) = 0 + 1 + 1 from rfl, cnL_s, cnL_s, show d1 + (0 + 1) = d1 + 1 from rfl, Nat.add_zero, e1, e4, if_neg (by omega), if_neg (by omega)]
      rfl
    rw [this, Int.add_zero]
/-- a condition is looked at -/
theorem lk_cond {M : St} {b1 c d1 : Nat} {kd vl : Int} (hN : 20000 ≤ N) (hL : t0.1 302 18 ≤ 10098) (hE : RUNE o n t0 m0 t m) (hM : bkG M m0) (hs : ∀ e, e < 64 → bq (m.2 58 k) e = true → e < n) (hg : GHr o t t1) (hCI : CIk t1) (hC1 : RNc o t1 m) (pc : t1.1 (307 + o) 3 = a) (who : t1.2 (307 + o) 4 = m.2 58 k) (LK : LKc false M (XC t0 m0) a b1 (c + 1) d1) (hb1 : (b1 : Int) < t0.1 302 18) (hb : t0.1 363 b1 = vl * 64 + kd) (hk : 16 < kd ∧ kd < 64) (hv : 0 ≤ vl ∧ vl < 33554432) (hd2 : d1 + 3 ≤ 6000) (h9 : m0.1 31 c = 9 ∨ m0.1 31 c = 11) (he : LKe (m0.1 31) d1) :
    ∃ A : Int, (1 ≤ A ∧ A ≤ 6001) ∧ f_X12_actsOf N c m = some (A, m) ∧ (¬ ovr m A = 0 → ∀ (q : Nat) (x : Int), (0 ≤ x ∧ x < 1000000) → f_X8_goOn_L7 N o o K4 K5 (q + 1) x t1 = some (ovr m A, CT o t1 A)) ∧ (ovr m A = 0 → ∃ (w : Int) (u2 v1 : St), (w = 0 ∨ w = 1) ∧ (∀ (q : Nat) (x : Int), (0 ≤ x ∧ x < 1000000) → f_X8_goOn_L7 N o o K4 K5 (q + 1) x t1 = f_X8_goOn_L7 N o o K4 K5 q (x + 1) u2) ∧ f_X12_readCondition N (m.2 58 k) (pI (ACt m A) 200 114 ((c : Int) + 1)) = some (w, v1) ∧ (GHr o t1 u2 ∧ CIk u2 ∧ RNc o u2 (ACt m A)) ∧ (u2.1 (307 + o) 3 = b1 ∧ (∀ y, y ≠ 3 → u2.1 (307 + o) y = (CT o t1 A).1 (307 + o) y) ∧ u2.2 (410 + o) = t1.2 (410 + o) ∧ u2.2 (307 + o) = t1.2 (307 + o) ∧ u2.2 370 0 = tv w) ∧ LKv m v1 A ∧ v1.1 200 114 = d1) := by
  have ho := hE.2.1
  have LK' := LK
  obtain ⟨H, hH, l1, l2, l3⟩ := LK
  have hlt := LK'.lt
  have hcn := cnL_rng (tk := m0.1 31) (c := c + 1) (d1 - (c + 1))
  have htk := hE.1.2.tk
  have g0 := hE.1.1.tr hg
  have e302 : t1.1 302 = t0.1 302 := g0.1 302 (by omega) (by omega) (by omega)
  have e363 : t1.1 363 = t0.1 363 := g0.1 363 (by omega) (by omega) (by omega)
  have hAm := m_acl (N := N) (m := m) (c := c) (d1 := d1) hN (by omega) hd2 (by rw [htk.1]; omega) (by rw [htk.1]; exact l3) (by rw [htk.1]; exact he)
  rw [htk.1] at hAm
  have l2' : t0.1 363 a = (1 + cnL (m0.1 31) (c + 1) (d1 - (c + 1))) * 64 + 23 := l2
  generalize hA : 1 + cnL (m0.1 31) (c + 1) (d1 - (c + 1)) = A at hAm l2'
  have hA2 : 1 ≤ A ∧ A ≤ 6001 := by omega
  have hAh : f_X8_actsOf N o 23 A t1 = some (A, t1) := by
    unfold f_X8_actsOf; rw [rnI_ok (by omega), if_neg (by decide), if_neg (by decide), if_neg (by decide), if_neg (by decide), if_pos rfl]
  have hwd := fun (q : Nat) (x : Int) (hx : 0 ≤ x ∧ x < 1000000) => g_word (N := N) (K4 := K4) (K5 := K5) (q := q) hC1 pc (by rw [e302]; omega) (by rw [e302]; omega) (by rw [e363]; exact l2') (by omega) (by omega) hx (Or.inl (by decide)) hAh (by omega)
  refine ⟨A, hA2, hAm, fun h0 q x hx => by rw [hwd q x hx, if_neg h0], fun h0 => ?_⟩
  have LKp : LKv m (pI (ACt m A) 200 114 ((c : Int) + 1)) A := LKv.ac.p
  have hX := rune_cx (M := M) (s := m.2 58 k) hE hN hL hM hs (hg.tr (GHr.CT (x := A) ho)) (hCI.CT (x := A) ho) LKp.1
  have e302c : (CT o t1 A).1 302 = t0.1 302 := by rw [CT_n (by omega)]; exact e302
  have e363c : (CT o t1 A).1 363 = t0.1 363 := by rw [CT_n (by omega)]; exact e363
  have e31 : (pI (ACt m A) 200 114 ((c : Int) + 1)).1 31 = m0.1 31 := by rw [LKp.1.tk.1]; exact htk.1
  obtain ⟨w, u1, v1, p1, p2, p3, p4, p5, p6, p7, p8⟩ := ev_cond (N := N) (o := o) (n := n) (t := CT o t1 A) (m := pI (ACt m A) 200 114 ((c : Int) + 1)) (s := m.2 58 k) LK' hX ⟨fun x z1 z2 => by rw [e363c], by rw [e302c]; omega⟩ ⟨fun x z1 z2 => by rw [e31], by omega⟩ (by rw [pI_at]; omega) (by unfold hGd ACt; rw [pI_nf (by decide), pI_nf (by decide), pI_nf (by decide)]; have := hC1.2.2; omega) (by rcases he with he | he; exact Or.inl he; exact Or.inr he.1) hb hk hv
  have f307 : u1.1 (307 + o) = (CT o t1 A).1 (307 + o) := p4.1 (307 + o) (by omega) (by omega) (by omega) (by omega) (by omega)
  refine ⟨w, pI u1 (307 + o) 3 (b1 : Int), v1, p3, fun q x hx => ?_, p2, ⟨((GHr.CT ho).tr (GHr.f p4 ho)).tr (GHr.I (by omega) ho), p5.rI ho, ?_⟩, ⟨pI_at, fun y hy => by rw [pI_nf hy, f307], ?_, ?_, ?_⟩, LKp.f p7, p8⟩
  · rw [hwd q x hx, if_pos h0, if_pos rfl, who, p1, bdI_s]
  · have hcv := hC1.cv (by omega) h0
    unfold RNc at hcv ⊢
    rw [pI_nf (by decide), pI_nf (by decide), pI_nf (by decide), f307]
    exact hcv
  · rw [pI_L, p4.2.2 (410 + o) (by omega) (by omega) (by omega), CT_L]
  · rw [pI_L, p4.2.2 (307 + o) (by omega) (by omega) (by omega), CT_L]
  · rw [pI_L]; exact p6
/-- a WHO is looked at -/
theorem lk_who {M : St} {b1 c d1 a2 : Nat} {kd vl : Int} (hN : 20000 ≤ N) (hL : t0.1 302 18 ≤ 10098) (hR : RUNR o n t0 m0 t m k h a2) (hM : bkG M m0) (hs : ∀ e, e < 64 → bq (m.2 58 k) e = true → e < n) (pc : t.1 (307 + o) 3 = a) (who : t.2 (307 + o) 4 = m.2 58 k) (LK : LKc true M (XC t0 m0) a b1 (c + 1) d1) (hb1 : (b1 : Int) < t0.1 302 18) (hb : t0.1 363 b1 = vl * 64 + kd) (hk : 16 < kd ∧ kd < 64) (hv : 0 ≤ vl ∧ vl < 33554432) (hd2 : d1 + 3 ≤ 6000) (h9 : m0.1 31 c = 13) (he : m0.1 31 d1 = 5123) :
    ∃ A : Int, (1 ≤ A ∧ A ≤ 6001) ∧ f_X12_actsOf N c m = some (A, m) ∧ (¬ ovr m A = 0 → ∀ (q : Nat) (x : Int), (0 ≤ x ∧ x < 1000000) → f_X8_goOn_L7 N o o K4 K5 (q + 1) x t = some (ovr m A, CT o t A)) ∧ (ovr m A = 0 → ∃ (w : Int64) (u2 v1 : St), (∀ (q : Nat) (x : Int), (0 ≤ x ∧ x < 1000000) → f_X8_goOn_L7 N o o K4 K5 (q + 1) x t = f_X8_goOn_L7 N o o K4 K5 q (x + 1) u2) ∧ f_X12_readWho N (m.2 58 k) (pI (ACt m A) 200 114 ((c : Int) + 1)) = some (w, v1) ∧ (GHr o t u2 ∧ CIk u2 ∧ RNc o u2 (ACt m A)) ∧ (u2.1 (307 + o) 3 = b1 ∧ (∀ y, y ≠ 3 → u2.1 (307 + o) y = (CT o t A).1 (307 + o) y) ∧ u2.2 (410 + o) = t.2 (410 + o) ∧ u2.2 (307 + o) = t.2 (307 + o) ∧ u2.2 370 0 = w) ∧ LKv m v1 A ∧ v1.1 200 114 = d1 ∧ ∀ e, e < 64 → bq w e = true → e < n) := by
  have ho := hR.ho
  have hC1 := hR.2.2.1
  have hCI := hR.2.1.2.2.2.2.2.1
  have LK' := LK
  obtain ⟨H, hH, l1, l2, l3⟩ := LK
  have hlt := LK'.lt
  have hcn := cnL_rng (tk := m0.1 31) (c := c + 1) (d1 - (c + 1))
  have htk := hR.1.2.tk
  have e302 : t.1 302 = t0.1 302 := hR.th.2.1
  have e363 : t.1 363 = t0.1 363 := hR.th.1
  have hAm := m_acl (N := N) (m := m) (c := c) (d1 := d1) hN (by omega) hd2 (by rw [htk.1]; omega) (by rw [htk.1]; exact l3) (by rw [htk.1]; exact Or.inl he)
  rw [htk.1] at hAm
  have l2' : t0.1 363 a = (1 + cnL (m0.1 31) (c + 1) (d1 - (c + 1))) * 64 + 23 := l2
  generalize hA : 1 + cnL (m0.1 31) (c + 1) (d1 - (c + 1)) = A at hAm l2'
  have hA2 : 1 ≤ A ∧ A ≤ 6001 := by omega
  have hAh : f_X8_actsOf N o 23 A t = some (A, t) := by
    unfold f_X8_actsOf; rw [rnI_ok (by omega), if_neg (by decide), if_neg (by decide), if_neg (by decide), if_neg (by decide), if_pos rfl]
  have hwd := fun (q : Nat) (x : Int) (hx : 0 ≤ x ∧ x < 1000000) => g_word (N := N) (K4 := K4) (K5 := K5) (q := q) hC1 pc (by rw [e302]; omega) (by rw [e302]; omega) (by rw [e363]; exact l2') (by omega) (by omega) hx (Or.inl (by decide)) hAh (by omega)
  refine ⟨A, hA2, hAm, fun h0 q x hx => by rw [hwd q x hx, if_neg h0], fun h0 => ?_⟩
  have LKp : LKv m (pI (ACt m A) 200 114 ((c : Int) + 1)) A := LKv.ac.p
  have hX := hR.cx (M := M) (s := m.2 58 k) hN hL hM hs (GHr.CT (x := A) ho) (hCI.CT (x := A) ho) LKp.1
  have e302c : (CT o t A).1 302 = t0.1 302 := by rw [CT_n (by omega)]; exact e302
  have e363c : (CT o t A).1 363 = t0.1 363 := by rw [CT_n (by omega)]; exact e363
  have e31 : (pI (ACt m A) 200 114 ((c : Int) + 1)).1 31 = m0.1 31 := by rw [LKp.1.tk.1]; exact htk.1
  obtain ⟨w, u1, v1, p1, p2, p4, p5, p6, p7, p8, p9⟩ := ev_who (N := N) (o := o) (n := n) (t := CT o t A) (m := pI (ACt m A) 200 114 ((c : Int) + 1)) (s := m.2 58 k) LK' hX ⟨fun x z1 z2 => by rw [e363c], by rw [e302c]; omega⟩ ⟨fun x z1 z2 => by rw [e31], by omega⟩ (by rw [pI_at]; omega) he hb hk hv
  have f307 : u1.1 (307 + o) = (CT o t A).1 (307 + o) := p4.1 (307 + o) (by omega) (by omega) (by omega) (by omega) (by omega)
  refine ⟨w, pI u1 (307 + o) 3 (b1 : Int), v1, fun q x hx => ?_, p2, ⟨((GHr.CT ho).tr (GHr.f p4 ho)).tr (GHr.I (by omega) ho), p5.rI ho, ?_⟩, ⟨pI_at, fun y hy => by rw [pI_nf hy, f307], ?_, ?_, ?_⟩, LKp.f p7, p8, p9⟩
  · rw [hwd q x hx, if_pos h0, if_pos rfl, who, p1, bdI_s]
  · have hcv := hC1.cv (by omega) h0
    unfold RNc at hcv ⊢
    rw [pI_nf (by decide), pI_nf (by decide), pI_nf (by decide), f307]
    exact hcv
  · rw [pI_L, p4.2.2 (410 + o) (by omega) (by omega) (by omega), CT_L]
  · rw [pI_L, p4.2.2 (307 + o) (by omega) (by omega) (by omega), CT_L]
  · rw [pI_L]; exact p6
end
