/-! the run: single words -/
/-- how a count of acts ends the run (0: not) -/
def ovr (m : St) (x : Int) : Int := if 2000 < m.1 200 52 + x then 3 else if m.1 200 54 = 1 ∧ 20000 < m.1 200 53 + x then 4 else 0
theorem i64s {x : Int} : Int64.ofInt x - (1 : Int64) = Int64.ofInt (x - 1) := by
  rw [Int64.ofInt_sub]; rfl
theorem i64l {x : Int} (h : -1000 ≤ x ∧ x ≤ 1000) : (Int64.ofInt x < (0 : Int64)) = (x < 0) := by
  have : (0 : Int64) = Int64.ofInt 0 := rfl
  rw [this]
  apply propext
  rw [Int64.lt_iff_toInt_lt, Int64.toInt_ofInt_of_le (by omega) (by omega), Int64.toInt_ofInt_of_le (by omega) (by omega)]
theorem i64g {x : Int} (h : -1000 ≤ x ∧ x ≤ 1000) : ((0 : Int64) < Int64.ofInt x) = (0 < x) := by
  have : (0 : Int64) = Int64.ofInt 0 := rfl
  rw [this]
  apply propext
  rw [Int64.lt_iff_toInt_lt, Int64.toInt_ofInt_of_le (by omega) (by omega), Int64.toInt_ofInt_of_le (by omega) (by omega)]
/-- of the run alone something changed: the place in the code, the stack -/
def HSr (o : Nat) (t u : St) (pc h : Int) : Prop := u.1 (307 + o) 3 = pc ∧ u.1 (307 + o) 6 = h ∧ (∀ y, y ≠ 3 → y ≠ 6 → u.1 (307 + o) y = t.1 (307 + o) y) ∧ (∀ x, x ≠ 307 + o → u.1 x = t.1 x) ∧ (∀ x, x ≠ 410 + o → x ≠ 307 + o → u.2 x = t.2 x)
section
variable {N o : Nat} {t m u v : St} {pc h : Int}
theorem HSr.rf : HSr o t t (t.1 (307 + o) 3) (t.1 (307 + o) 6) := ⟨rfl, rfl, fun _ _ _ => rfl, fun _ _ => rfl, fun _ _ _ => rfl⟩
theorem HSr.p3 {p : Int} (g : HSr o t u pc h) : HSr o t (pI u (307 + o) 3 p) p h := ⟨pI_at, by rw [pI_nf (by decide)]; exact g.2.1, fun y h1 h2 => by rw [pI_nf h1]; exact g.2.2.1 y h1 h2, fun x h1 => by rw [pI_ne h1]; exact g.2.2.2.1 x h1, g.2.2.2.2⟩
theorem HSr.p6 {p : Int} (g : HSr o t u pc h) : HSr o t (pI u (307 + o) 6 p) pc p := ⟨by rw [pI_nf (by decide)]; exact g.1, pI_at, fun y h1 h2 => by rw [pI_nf h2]; exact g.2.2.1 y h1 h2, fun x h1 => by rw [pI_ne h1]; exact g.2.2.2.1 x h1, g.2.2.2.2⟩
theorem HSr.l {a y : Nat} {w : Int64} (ha : a = 410 + o ∨ a = 307 + o) (g : HSr o t u pc h) : HSr o t (pL u a y w) pc h := ⟨g.1, g.2.1, g.2.2.1, g.2.2.2.1, fun x h1 h2 => by rw [pL_ne (by omega)]; exact g.2.2.2.2 x h1 h2⟩
theorem HSr.gh (g : HSr o t u pc h) (ho : o < 2) : GHr o t u := ⟨fun x h1 _ _ => g.2.2.2.1 x h1, ⟨fun y h1 h2 _ _ => g.2.2.1 y h1 h2, by rw [g.2.2.1 9 (by decide) (by decide), g.2.2.1 7 (by decide) (by decide)]⟩, fun b _ _ _ => by rw [g.2.2.2.1 311 (by omega)], fun x _ _ _ h4 h5 => g.2.2.2.2 x h5 h4⟩
theorem HSr.ci (g : HSr o t u pc h) (ho : o < 2) (hC : CIk t) : CIk u := hC.rn (fun x h1 h2 => g.2.2.2.1 x (by omega)) (g.2.2.2.2 311 (by omega) (by omega))
theorem HSr.rc (g : HSr o t u pc h) (hR : RNc o t m) : RNc o u m := by
  unfold RNc
  rw [g.2.2.1 7 (by decide) (by decide), g.2.2.1 8 (by decide) (by decide), g.2.2.1 9 (by decide) (by decide)]
  exact hR
theorem RNc.ov0 (hR : RNc o t m) : ovr m 0 = 0 := by
  obtain ⟨⟨h1, h2, h3⟩, ⟨h4, h5, h6, h7⟩, h8⟩ := hR
  unfold ovr
  rw [if_neg (by omega), if_neg (by omega)]
theorem ovr_r {x : Int} : ovr m x = 0 ∨ ovr m x = 3 ∨ ovr m x = 4 := by
  unfold ovr
  split
  · exact Or.inr (Or.inl rfl)
  · split
    · exact Or.inr (Or.inr rfl)
    · exact Or.inl rfl
theorem h_cnt {x : Int} (hR : RNc o t m) (hx : 0 ≤ x ∧ x ≤ 20000) : f_X8_count N o x t = some (if ovr m x = 0 then 1 else ovr m x, CT o t x) := by
  rw [h_count hR hx]
  unfold ovr
  by_cases h1 : 2000 < m.1 200 52 + x
  · rw [if_pos h1, if_pos h1, if_neg (by decide)]
  · rw [if_neg h1, if_neg h1]
    by_cases h2 : m.1 200 54 = 1 ∧ 20000 < m.1 200 53 + x
    · rw [if_pos h2, if_pos h2, if_neg (by decide)]
    · rw [if_neg h2, if_neg h2, if_pos rfl]
theorem m_act {x : Int} (hR : RNc o t m) (hx : 0 ≤ x ∧ x ≤ 20000) : f_X12_acted N x m = some (ovr m x, ACt m x) := by
  rw [m_acted hR hx]
  unfold ovr
  by_cases h1 : 2000 < m.1 200 52 + x
  · rw [if_pos h1, if_pos h1]
  · rw [if_neg h1, if_neg h1]
    by_cases h2 : m.1 200 54 = 1 ∧ 20000 < m.1 200 53 + x
    · rw [if_pos h2, if_pos h2]
    · rw [if_neg h2, if_neg h2]
theorem RNc.cv {x : Int} (hR : RNc o t m) (hx : 0 ≤ x) (h0 : ovr m x = 0) : RNc o (CT o t x) (ACt m x) := by
  unfold ovr at h0
  by_cases h1 : 2000 < m.1 200 52 + x
  · rw [if_pos h1] at h0; exact absurd h0 (by decide)
  · rw [if_neg h1] at h0
    by_cases h2 : m.1 200 54 = 1 ∧ 20000 < m.1 200 53 + x
    · rw [if_pos h2] at h0; exact absurd h0 (by decide)
    · exact hR.ct hx h1 h2
variable {K4 K5 : St → Option (Int × St)}
theorem g_word {kd vl A x : Int} {a q : Nat} (hR : RNc o t m) (h3 : t.1 (307 + o) 3 = a) (hl : (a : Int) < t.1 302 18) (hl2 : t.1 302 18 ≤ 10098) (hw : t.1 363 a = vl * 64 + kd) (hk : 16 < kd ∧ kd < 64) (hv : 0 ≤ vl ∧ vl < 33554432) (hx : 0 ≤ x ∧ x < 1000000) (h29 : kd ≠ 29 ∨ (0 < t.1 (307 + o) 6 ∧ t.1 (307 + o) 6 ≤ 1500)) (hA : f_X8_actsOf N o kd vl t = some (A, t)) (hA2 : 0 ≤ A ∧ A ≤ 20000) :
    f_X8_goOn_L7 N o o K4 K5 (q + 1) x t = if ovr m A = 0 then (if kd = 23 then (bdI (f_X1_evaluate N o ((a : Int) + 1) (t.2 (307 + o) 4) (CT o t A)) fun v24 t23 => f_X8_goOn_L7 N o o K4 K5 q (x + 1) (pI t23 (307 + o) 3 v24)) else (bdV (f_X8_obey N o kd vl (CT o t A)) fun t20 => f_X8_goOn_L7 N o o K4 K5 q (x + 1) t20)) else some (ovr m A, CT o t A) := by
  have hkv := h_kind (N := N) (by omega) hv hl hl2 hw
  have hov := ovr_r (m := m) (x := A)
  have e3 : (CT o t A).1 (307 + o) 3 = a := by rw [CT_f (by decide) (by decide)]; exact h3
  conv => lhs; unfold f_X8_goOn_L7
  simp only [lt1_k, jn1_k]
  rw [cmpI_ok (by omega), if_pos hx.2, h3, hkv.1, bdI_s, h3, hkv.2, bdI_s, cmpI_ok (by omega), if_pos hk.1, cmpI_ok (by omega), hA, bdI_s, h_cnt hR hA2, bdI_s]
  have main : (cmpI (if ovr m A = 0 then 1 else ovr m A) 1 (if (if ovr m A = 0 then 1 else ovr m A) = 1 then (cmpI kd 23 (if kd = 23 then (bdI (f_X1_evaluate N o ((CT o t A).1 (307 + o) 3 + 1) ((CT o t A).2 (307 + o) 4) (CT o t A)) fun v24 t23 => f_X8_goOn_L7 N o o K4 K5 q (x + 1) (pI t23 (307 + o) 3 v24)) else (bdV (f_X8_obey N o kd vl (CT o t A)) fun t20 => f_X8_goOn_L7 N o o K4 K5 q (x + 1) t20))) else some (if ovr m A = 0 then 1 else ovr m A, CT o t A))) = if ovr m A = 0 then (if kd = 23 then (bdI (f_X1_evaluate N o ((a : Int) + 1) (t.2 (307 + o) 4) (CT o t A)) fun v24 t23 => f_X8_goOn_L7 N o o K4 K5 q (x + 1) (pI t23 (307 + o) 3 v24)) else (bdV (f_X8_obey N o kd vl (CT o t A)) fun t20 => f_X8_goOn_L7 N o o K4 K5 q (x + 1) t20)) else some (ovr m A, CT o t A) := by
    rw [e3, CT_L]
    by_cases h0 : ovr m A = 0
    · rw [if_pos h0, if_pos h0, cmpI_ok (by omega), if_pos rfl, cmpI_ok (by omega)]
    · rw [if_neg h0, if_neg h0, cmpI_ok (by omega), if_neg (by omega)]
  by_cases k29 : kd = 29
  · rw [if_pos k29]
    have h6 := h29.elim (fun z => absurd k29 z) id
    rw [cmpI_ok (by omega), if_neg (by omega)]
    exact main
  · rw [if_neg k29]
    exact main
/-- a word that is no act -/
theorem g_word0 {kd vl x : Int} {a q : Nat} (hR : RNc o t m) (h3 : t.1 (307 + o) 3 = a) (hl : (a : Int) < t.1 302 18) (hl2 : t.1 302 18 ≤ 10098) (hw : t.1 363 a = vl * 64 + kd) (hk : 16 < kd ∧ kd < 64) (hk3 : kd ≠ 23) (hv : 0 ≤ vl ∧ vl < 33554432) (hx : 0 ≤ x ∧ x < 1000000) (h29 : kd ≠ 29 ∨ (0 < t.1 (307 + o) 6 ∧ t.1 (307 + o) 6 ≤ 1500)) (hA : f_X8_actsOf N o kd vl t = some (0, t)) :
    f_X8_goOn_L7 N o o K4 K5 (q + 1) x t = (bdV (f_X8_obey N o kd vl t) fun t20 => f_X8_goOn_L7 N o o K4 K5 q (x + 1) t20) := by
  rw [g_word hR h3 hl hl2 hw hk hv hx h29 hA (by omega), if_pos hR.ov0, if_neg hk3, CT_0]
/-! the stack -/
theorem h_push {h : Nat} {w : Int64} (h6 : t.1 (307 + o) 6 = h) (hh : h < 1500) : f_X8_push N o w t = some (pI (pL t (410 + o) h w) (307 + o) 6 ((h + 1 : Nat) : Int)) := by
  unfold f_X8_push
  simp only [lt1_k]
  rw [h6, cmpI_ok (by omega), if_pos (by omega), ixI_ok (by omega), Int.toNat_natCast, pL_I, h6]
  rfl
theorem h_top {h : Nat} (h6 : t.1 (307 + o) 6 = ((h + 1 : Nat) : Int)) (hh : h < 1500) : f_X8_top N o t = some (t.2 (410 + o) h, t) := by
  unfold f_X8_top
  simp only [lt1_k]
  rw [h6, cmpI_ok (by omega), if_pos (by omega), ixI_ok (by omega), show (((h + 1 : Nat) : Int) - 1).toNat = h by omega]
theorem h_pop {h : Nat} (h6 : t.1 (307 + o) 6 = ((h + 1 : Nat) : Int)) (hh : h < 1500) : f_X8_pop N o t = some (t.2 (410 + o) h, pI t (307 + o) 6 (h : Int)) := by
  unfold f_X8_pop
  simp only [lt1_k]
  rw [h_top h6 hh, bdL_s, h6, cmpI_ok (by omega), if_pos (by omega), show ((h + 1 : Nat) : Int) - 1 = (h : Int) by omega]
theorem leave0 {a1 : Int} {a : Nat} (h3 : t.1 (307 + o) 3 = a) : f_X8_leaveIf N o 0 a1 t = some (pI t (307 + o) 3 ((a + 1 : Nat) : Int)) := by
  unfold f_X8_leaveIf
  simp only [lt1_k, jn1_k]
  rw [cmpI_ok (by omega), if_pos trivial, cmpI_ok (by omega), if_pos trivial, h3]
  rfl
theorem leave1 {a1 : Int} {h : Nat} (h6 : t.1 (307 + o) 6 = ((h + 1 : Nat) : Int)) (hh : h < 1500) : f_X8_leaveIf N o 1 a1 t = some (pI (pI t (307 + o) 6 (h : Int)) (307 + o) 3 a1) := by
  unfold f_X8_leaveIf
  simp only [lt1_k, jn1_k]
  rw [cmpI_ok (by omega), if_neg (by decide), h_pop h6 hh, bdL_s, cmpI_ok (by omega), if_neg (by decide)]
/-- repeat and until: one time more, or no more -/
theorem ob_21 {kd a1 : Int} {a h : Nat} {r : Int} (hk : kd = 21 ∨ kd = 22) (h3 : t.1 (307 + o) 3 = a) (h6 : t.1 (307 + o) 6 = ((h + 1 : Nat) : Int)) (hh : h < 1500) (hr : 0 ≤ r ∧ r ≤ 100) (hs : t.2 (410 + o) h = Int64.ofInt r) :
    ∃ u, f_X8_obey N o kd a1 t = some u ∧ (∀ j, j < h → u.2 (410 + o) j = t.2 (410 + o) j) ∧ u.2 (307 + o) = t.2 (307 + o) ∧ (if r = 0 then HSr o t u a1 (h : Int) else (HSr o t u ((a + 1 : Nat) : Int) ((h + 1 : Nat) : Int) ∧ u.2 (410 + o) h = Int64.ofInt (r - 1))) := by
  generalize hu1 : pI (pL (pI t (307 + o) 6 (h : Int)) (410 + o) h (Int64.ofInt (r - 1))) (307 + o) 6 ((h + 1 : Nat) : Int) = u1
  have g1 : HSr o t u1 (a : Int) ((h + 1 : Nat) : Int) := by
    rw [← hu1, ← h3]
    exact ((HSr.rf.p6).l (Or.inl rfl)).p6
  have s1 : u1.2 (410 + o) h = Int64.ofInt (r - 1) := by rw [← hu1, pI_L]; exact pL_at
  have s2 : ∀ j, j < h → u1.2 (410 + o) j = t.2 (410 + o) j := fun j hj => by rw [← hu1, pI_L, pL_nf (by omega), pI_L]
  have s3 : u1.2 (307 + o) = t.2 (307 + o) := by rw [← hu1, pI_L, pL_ne (by omega), pI_L]
  have hob : ∀ w : Int, f_X8_obey N o kd a1 t = some (if r = 0 then pI (pI u1 (307 + o) 6 (h : Int)) (307 + o) 3 a1 else pI u1 (307 + o) 3 ((a + 1 : Nat) : Int)) := fun _ => by
    have hp : f_X8_push N o (t.2 (410 + o) h - (1 : Int64)) (pI t (307 + o) 6 (h : Int)) = some u1 := by
      rw [h_push (h := h) pI_at hh, hs, i64s, hu1]
    have ht : f_X8_top N o u1 = some (Int64.ofInt (r - 1), u1) := by rw [h_top g1.2.1 hh, s1]
    unfold f_X8_obey
    rcases hk with rfl | rfl
    · rw [rnI_ok (by omega), if_neg (by decide), if_neg (by decide), if_pos rfl, h_pop h6 hh, bdL_s, hp, bdV_s, ht, bdL_s, jn1_k]
      simp only [i64l (show -1000 ≤ r - 1 ∧ r - 1 ≤ 1000 by omega)]
      by_cases h0 : r = 0
      · rw [if_pos (by omega), if_pos h0, leave1 g1.2.1 hh, bdV_s]
      · rw [if_neg (by omega), if_neg h0, leave0 g1.1, bdV_s]
    · rw [rnI_ok (by omega), if_neg (by decide), if_neg (by decide), if_neg (by decide), if_pos rfl, h_pop h6 hh, bdL_s, hp, bdV_s, ht, bdL_s, jn1_k]
      simp only [i64l (show -1000 ≤ r - 1 ∧ r - 1 ≤ 1000 by omega)]
      by_cases h0 : r = 0
      · rw [if_pos (by omega), if_pos h0, leave1 g1.2.1 hh, bdV_s]
      · rw [if_neg (by omega), if_neg h0, leave0 g1.1, bdV_s]
  by_cases h0 : r = 0
  · refine ⟨pI (pI u1 (307 + o) 6 (h : Int)) (307 + o) 3 a1, by rw [hob 0, if_pos h0], fun j hj => s2 j hj, s3, ?_⟩
    rw [if_pos h0]; exact (g1.p6).p3
  · refine ⟨pI u1 (307 + o) 3 ((a + 1 : Nat) : Int), by rw [hob 0, if_neg h0], fun j hj => s2 j hj, s3, ?_⟩
    rw [if_neg h0]; exact ⟨g1.p3, s1⟩
end
