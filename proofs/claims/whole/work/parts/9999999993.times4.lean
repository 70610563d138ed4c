/-! times against times, whole -/
/-- what times leaves of the model -/
def TMf (m w : St) : Prop := (∀ d, d < 64 → w.1 38 d = m.1 38 d ∧ w.1 39 d = m.1 39 d ∧ w.1 40 d = m.1 40 d ∧ w.1 41 d = m.1 41 d ∧ w.1 44 d = m.1 44 d ∧ w.1 45 d = m.1 45 d ∧ w.1 46 d = m.1 46 d) ∧ (∀ d, d < 1600 → w.1 55 d = m.1 55 d ∧ w.1 56 d = m.1 56 d ∧ w.1 57 d = m.1 57 d ∧ w.2 58 d = m.2 58 d) ∧ (∀ x, (x < 38 ∨ 41 < x) → (x < 44 ∨ 46 < x) → (x < 55 ∨ 57 < x) → (x < 74 ∨ 81 < x) → x ≠ 86 → x ≠ 87 → (x < 104 ∨ 108 < x) → x ≠ 200 → w.1 x = m.1 x) ∧ (∀ b, b ≠ 53 → (b < 70 ∨ 75 < b) → (b < 82 ∨ 85 < b) → b ≠ 88 → b ≠ 114 → b ≠ 115 → w.1 200 b = m.1 200 b) ∧ (∀ x, x ≠ 58 → x ≠ 73 → x ≠ 109 → w.2 x = m.2 x)
theorem TMf.rf {m : St} : TMf m m := ⟨fun _ _ => ⟨rfl, rfl, rfl, rfl, rfl, rfl, rfl⟩, fun _ _ => ⟨rfl, rfl, rfl, rfl⟩, fun _ _ _ _ _ _ _ _ _ => rfl, fun _ _ _ _ _ _ _ => rfl, fun _ _ _ _ => rfl⟩
theorem TFh.rf {t : St} : TFh t t := ⟨fun _ _ _ _ _ _ _ => rfl, ⟨fun _ _ => rfl, fun _ _ _ _ => rfl, fun _ _ _ => rfl⟩, fun _ _ _ _ _ _ _ _ => rfl⟩
theorem EVb.mv {t m v : St} (h : EVb t m) (e : ∀ a, 18 ≤ a → a ≤ 22 → v.1 a = m.1 a) (e14 : v.1 200 14 = m.1 200 14) : EVb t v := by
  obtain ⟨h5, h7, h8⟩ := h
  refine ⟨h5, by rw [e14]; exact h7, fun f hf => ?_⟩
  rw [e14] at hf
  obtain ⟨k, a1, a2⟩ := h8 f hf
  refine ⟨k, ?_, ?_⟩
  · unfold fmO
    rw [e 18 (by omega) (by omega), e 19 (by omega) (by omega), e 20 (by omega) (by omega), e 21 (by omega) (by omega), e 22 (by omega) (by omega)]
    exact a1
  · unfold fhO
    rw [e 19 (by omega) (by omega), e 20 (by omega) (by omega), e 21 (by omega) (by omega), e 22 (by omega) (by omega)]
    exact a2
section
variable {N : Nat} {t m : St}
theorem h_isSet {a1 a2 : Int} (h1 : inR a1) (h2 : inR a2) : f_X3_isSet N a1 a2 t = some (if (a1 = 0 ∧ a2 = 4) ∨ ((1 ≤ a1 ∧ a1 ≤ 3) ∧ (1 ≤ a2 ∧ a2 ≤ 32)) then 1 else 0, t) := by
  unfold f_X3_isSet
  rw [cmpI_ok (by omega), cmpI_ok (by omega), cmpI_ok (by omega), cmpI_ok (by omega), cmpI_ok (by omega), cmpI_ok (by omega), boI_0, boI_1]
  by_cases k0 : a1 = 0
  · rw [if_pos k0]
    by_cases k4 : a2 = 4
    · rw [if_pos k4, if_pos (Or.inl ⟨k0, k4⟩)]
    · rw [if_neg k4, if_neg (by omega)]
  · rw [if_neg k0]
    by_cases k1 : a1 < 1
    · rw [if_pos k1, if_neg (by omega)]
    · rw [if_neg k1]
      by_cases k3 : 3 < a1
      · rw [if_pos k3, if_neg (by omega)]
      · rw [if_neg k3]
        by_cases k5 : a2 < 1
        · rw [if_pos k5, if_neg (by omega)]
        · rw [if_neg k5]
          by_cases k6 : 32 < a2
          · rw [if_pos k6, if_neg (by omega)]
          · rw [if_neg k6, if_pos (Or.inr (by omega))]
/-- the model tries it behind what it put away -/
theorem m_times {kd : Int} {n p : Nat} {ans : Int} {w0 : St} {v : St} (hN : 100000 ≤ N) (h54 : m.1 200 54 = 0) (m3 : St) (hm3 : ∃ m1 m2 : St, f_X12_savesFloor N m = some m1 ∧ (∀ K : St → Option (Int × St), f_X12_times_L71 K N 0 m1 = K m2) ∧ (∀ K : St → Option (Int × St), f_X12_times_L136 K N 0 m2 = K m3) ∧ ((∀ x, (x < 104 ∨ 108 < x) → m3.1 x = m.1 x) ∧ (∀ x, x ≠ 109 → m3.2 x = m.2 x)) ∧ (∀ d, d < 64 → (m3.1 104 d = m.1 38 d ∧ m3.1 104 (64 + d) = m.1 39 d ∧ m3.1 104 (128 + d) = m.1 40 d ∧ m3.1 104 (192 + d) = m.1 41 d) ∧ m3.1 105 d = m.1 44 d ∧ m3.1 105 (64 + d) = m.1 45 d ∧ m3.1 105 (128 + d) = m.1 46 d) ∧ (∀ d, d < 1600 → m3.1 106 d = m.1 55 d ∧ m3.1 107 d = m.1 56 d ∧ m3.1 108 d = m.1 57 d ∧ m3.2 109 d = m.2 58 d))
    (hbg : f_X12_begins N kd n m3 = some (1, v)) (hb5 : ∀ a, (a < 38 ∨ 41 < a) → (a < 44 ∨ 46 < a) → a ≠ 200 → v.1 a = m3.1 a) (hb6 : ∀ b, b ≠ 37 → v.1 200 b = m3.1 200 b) (hb7 : v.2 = m3.2) (hd : f_X12_dancesOn N p (pI (pI v 200 53 0) 200 54 1) = some (ans, w0)) (hD : DMs (pI (pI v 200 53 0) 200 54 1) w0) (hset : SETk kd n) (hp : (p : Int) < m.1 200 16) (h16 : m.1 200 16 ≤ 60) : ∃ w : St, f_X12_times N p kd n m = some (ans, w) ∧ TMf m w ∧ w.1 200 53 = w0.1 200 53 := by
  obtain ⟨m1, m2, s1, s2, s3, ⟨s4, s4'⟩, s5, s6⟩ := hm3
  generalize hm6 : pI (pI v 200 53 0) 200 54 1 = m6 at hd hD
  have m6o : ∀ x, x ≠ 200 → m6.1 x = v.1 x := fun x hx => by rw [← hm6, pI_ne hx, pI_ne hx]
  have m6f : ∀ b, b ≠ 53 → b ≠ 54 → m6.1 200 b = v.1 200 b := fun b h1 h2 => by rw [← hm6, pI_nf h2, pI_nf h1]
  have m6L : m6.2 = v.2 := by rw [← hm6]; rfl
  -- what lies apart is still there
  have w104 : ∀ x, 104 ≤ x → x ≤ 108 → w0.1 x = m3.1 x := fun x h1 h2 => by rw [hD.1 x (by omega) (by omega) (by omega) (by omega) (by omega) (by omega), m6o x (by omega), hb5 x (by omega) (by omega) (by omega)]
  have w109 : w0.2 109 = m3.2 109 := by rw [hD.2.2 109 (by decide) (by decide), m6L, hb7]
  generalize hm7 : pI (pI (pI (pI (pI (pI w0 200 54 0) 200 37 (m3.1 200 37)) 200 42 (m3.1 200 42)) 200 43 (m3.1 200 43)) 200 51 (m3.1 200 51)) 200 52 (m3.1 200 52) = m7
  have m7o : ∀ x, x ≠ 200 → m7.1 x = w0.1 x := fun x hx => by rw [← hm7, pI_ne hx, pI_ne hx, pI_ne hx, pI_ne hx, pI_ne hx, pI_ne hx]
  have m7L : m7.2 = w0.2 := by rw [← hm7]; rfl
  have m7f : ∀ b, b ≠ 54 → b ≠ 37 → b ≠ 42 → b ≠ 43 → b ≠ 51 → b ≠ 52 → m7.1 200 b = w0.1 200 b := fun b h1 h2 h3 h4 h5 h6 => by rw [← hm7, pI_nf h6, pI_nf h5, pI_nf h4, pI_nf h3, pI_nf h2, pI_nf h1]
  have f200 : ∀ b, b ≠ 53 → (b < 70 ∨ 75 < b) → (b < 82 ∨ 85 < b) → b ≠ 88 → b ≠ 114 → b ≠ 115 → m7.1 200 b = m.1 200 b := fun b h1 h2 h3 h4 h5 h6 => by
    have e3 : m3.1 200 = m.1 200 := s4 200 (by omega)
    by_cases b54 : b = 54
    · rw [b54, h54, ← hm7, pI_nf (by decide), pI_nf (by decide), pI_nf (by decide), pI_nf (by decide), pI_nf (by decide), pI_at]
    · by_cases b37 : b = 37
      · rw [b37, ← hm7, pI_nf (by decide), pI_nf (by decide), pI_nf (by decide), pI_nf (by decide), pI_at, e3]
      · by_cases b42 : b = 42
        · rw [b42, ← hm7, pI_nf (by decide), pI_nf (by decide), pI_nf (by decide), pI_at, e3]
        · by_cases b43 : b = 43
          · rw [b43, ← hm7, pI_nf (by decide), pI_nf (by decide), pI_at, e3]
          · by_cases b51 : b = 51
            · rw [b51, ← hm7, pI_nf (by decide), pI_at, e3]
            · by_cases b52 : b = 52
              · rw [b52, ← hm7, pI_at, e3]
              · rw [m7f b b54 b37 b42 b43 b51 b52, hD.2.1 b b42 b43 (by omega) h2 h3 h4 h5 h6, m6f b h1 b54, hb6 b b37, e3]
  obtain ⟨m8, g1, g2, g3, g4, g5⟩ := gv_fl 64 0 N m7 (by omega) (by omega)
  obtain ⟨m9, j1, j2, j3, j4, j5⟩ := gv_ho 64 0 N m8 (by omega) (by omega)
  obtain ⟨w, k1, k2, k3, k4, k5, k6, k7⟩ := gv_ru 1600 0 N m9 (by omega) (by omega)
  simp only [Nat.zero_add] at g4 j4 k4
  have z0 : ((0 : Nat) : Int) = 0 := rfl
  rw [z0] at g1 j1 k1
  have hgf : f_X12_givesFloor N m7 = some m8 := g1 _
  refine ⟨w, ?_, ⟨fun d hd => ?_, fun d hd => ?_, fun x h1 h2 h3 h4 h5 h6 h7 h8 => ?_, fun b h1 h2 h3 h4 h5 h6 => ?_, fun x h1 h2 h3 => ?_⟩, ?_⟩
  · unfold f_X12_times
    simp only [lt1_k, jn1_k]
    have hin : f_X12_in N (p : Int) 0 (m.1 200 16 - 1) m = some (1, m) := by rw [in_k (by omega) (by omega) (by omega), if_neg (by omega)]
    have main : (bdI (f_X12_in N (p : Int) 0 (m.1 200 16 - 1) m) fun v6 t5 => cmpI v6 0 (if v6 = 0 then (some ((-1 : Int), t5)) else (cmpI 1 0 (if (1 : Int) = 0 then (some ((-1), t5)) else (bdV (f_X12_savesFloor N t5) fun t7 => f_X12_times_L71 (fun (t20 : St) => f_X12_times_L136 (fun (t35 : St) => bdI (f_X12_begins N kd n t35) fun v42 t41 => boI 1 (bdI (f_X12_dancesOn N p (pI (pI t41 200 53 0) 200 54 1)) fun v46 t45 => boI 0 (bdV (f_X12_givesFloor N (pI (pI (pI (pI (pI (pI t45 200 54 0) 200 37 (t35.1 200 37)) 200 42 (t35.1 200 42)) 200 43 (t35.1 200 43)) 200 51 (t35.1 200 51)) 200 52 (t35.1 200 52))) fun t53 => f_X12_times_L302 (fun (t64 : St) => f_X12_times_L367 (fun (t77 : St) => some (v46, t77)) N 0 t64) N 0 t53))) N 0 t20) N 0 t7))))) = some (ans, w) := by
      rw [hin, bdI_s, cmpI_ok (by omega), if_neg (by decide), cmpI_ok (by omega), if_neg (by decide), s1, bdV_s, s2, s3, hbg, bdI_s, boI_1, hm6, hd, bdI_s, boI_0, hm7, hgf, bdV_s, j1, k1]
    rcases hset with ⟨q1, q2⟩ | ⟨q1, q2⟩
    · rw [cmpI_ok (by omega), if_pos q1, cmpI_ok (by omega), if_pos q2]
      exact main
    · rw [cmpI_ok (by omega), if_neg (by omega), in_k (by omega) (by omega) (by omega), bdI_s, if_neg (by omega), cmpI_ok (by omega), if_neg (by decide), in_k (by omega) (by omega) (by omega), bdI_s, if_neg (by omega), cmpI_ok (by omega), if_neg (by decide)]
      exact main
  · have wk : ∀ x, (x < 55 ∨ 57 < x) → w.1 x = m9.1 x := fun x hx => k2 x (by omega) (by omega) (by omega)
    have wj : ∀ x, (x < 44 ∨ 46 < x) → m9.1 x = m8.1 x := fun x hx => j2 x (by omega) (by omega) (by omega)
    have y1 := g4 d (by omega) hd
    have y2 := j4 d (by omega) hd
    have y3 := s5 d hd
    rw [m7o 104 (by decide), w104 104 (by omega) (by omega)] at y1
    rw [g2 105 (by decide) (by decide) (by decide) (by decide), m7o 105 (by decide), w104 105 (by omega) (by omega)] at y2
    refine ⟨?_, ?_, ?_, ?_, ?_, ?_, ?_⟩
    · rw [wk 38 (by omega), wj 38 (by omega), y1.1, y3.1.1]
    · rw [wk 39 (by omega), wj 39 (by omega), y1.2.1, y3.1.2.1]
    · rw [wk 40 (by omega), wj 40 (by omega), y1.2.2.1, y3.1.2.2.1]
    · rw [wk 41 (by omega), wj 41 (by omega), y1.2.2.2, y3.1.2.2.2]
    · rw [wk 44 (by omega), y2.1, y3.2.1]
    · rw [wk 45 (by omega), y2.2.1, y3.2.2.1]
    · rw [wk 46 (by omega), y2.2.2, y3.2.2.2]
  · have y1 := k4 d (by omega) hd
    have y2 := k5 d (by omega) hd
    have y3 := s6 d hd
    have e1 : ∀ x, 106 ≤ x → x ≤ 108 → m9.1 x = m3.1 x := fun x q1 q2 => by rw [j2 x (by omega) (by omega) (by omega), g2 x (by omega) (by omega) (by omega) (by omega), m7o x (by omega), w104 x (by omega) (by omega)]
    rw [e1 106 (by omega) (by omega), e1 107 (by omega) (by omega), e1 108 (by omega) (by omega)] at y1
    rw [j5, g5, m7L, w109] at y2
    exact ⟨by rw [y1.1, y3.1], by rw [y1.2.1, y3.2.1], by rw [y1.2.2, y3.2.2.1], by rw [y2, y3.2.2.2]⟩
  · rw [k2 x (by omega) (by omega) (by omega), j2 x (by omega) (by omega) (by omega), g2 x (by omega) (by omega) (by omega) (by omega), m7o x h8, hD.1 x h1 h3 h4 h5 h6 h8, m6o x h8, hb5 x h1 h2 h8, s4 x h7]
  · rw [k2 200 (by decide) (by decide) (by decide), j2 200 (by decide) (by decide) (by decide), g2 200 (by decide) (by decide) (by decide) (by decide)]
    exact f200 b h1 h2 h3 h4 h5 h6
  · rw [k7 x h1, j5, g5, m7L, hD.2.2 x h1 h2, m6L, hb7, s4' x h3]
  · rw [k2 200 (by decide) (by decide) (by decide), j2 200 (by decide) (by decide) (by decide), g2 200 (by decide) (by decide) (by decide) (by decide), m7f 53 (by decide) (by decide) (by decide) (by decide) (by decide) (by decide)]
/-- the model puts all away -/
theorem m_away (hN : 100000 ≤ N) : ∃ m3 m1 m2 : St, f_X12_savesFloor N m = some m1 ∧ (∀ K : St → Option (Int × St), f_X12_times_L71 K N 0 m1 = K m2) ∧ (∀ K : St → Option (Int × St), f_X12_times_L136 K N 0 m2 = K m3) ∧ ((∀ x, (x < 104 ∨ 108 < x) → m3.1 x = m.1 x) ∧ (∀ x, x ≠ 109 → m3.2 x = m.2 x)) ∧ (∀ d, d < 64 → (m3.1 104 d = m.1 38 d ∧ m3.1 104 (64 + d) = m.1 39 d ∧ m3.1 104 (128 + d) = m.1 40 d ∧ m3.1 104 (192 + d) = m.1 41 d) ∧ m3.1 105 d = m.1 44 d ∧ m3.1 105 (64 + d) = m.1 45 d ∧ m3.1 105 (128 + d) = m.1 46 d) ∧ (∀ d, d < 1600 → m3.1 106 d = m.1 55 d ∧ m3.1 107 d = m.1 56 d ∧ m3.1 108 d = m.1 57 d ∧ m3.2 109 d = m.2 58 d) := by
  obtain ⟨m1, a1, a2, a3, a4, a5⟩ := sv_fl 64 0 N m (by omega) (by omega)
  obtain ⟨m2, b1, b2, b3, b4, b5⟩ := sv_ho 64 0 N m1 (by omega) (by omega)
  obtain ⟨m3, c1, c2, c3, c4, c5, c6, c7⟩ := sv_ru 1600 0 N m2 (by omega) (by omega)
  simp only [Nat.zero_add] at a4 b4 c4
  refine ⟨m3, m1, m2, a1 _, b1, c1, ⟨fun x hx => ?_, fun x hx => ?_⟩, fun d hd => ⟨?_, ?_⟩, fun d hd => ?_⟩
  · rw [c2 x (by omega) (by omega) (by omega), b2 x (by omega), a2 x (by omega)]
  · rw [c7 x hx, b5, a5]
  · have y := a4 d (by omega) hd
    rw [c2 104 (by decide) (by decide) (by decide), b2 104 (by decide)]
    exact y
  · have y := b4 d (by omega) hd
    rw [a2 44 (by decide), a2 45 (by decide), a2 46 (by decide)] at y
    rw [c2 105 (by decide) (by decide) (by decide)]
    exact y
  · have y := c4 d (by omega) hd
    have y2 := c5 d (by omega) hd
    rw [b2 55 (by decide), b2 56 (by decide), b2 57 (by decide), a2 55 (by decide), a2 56 (by decide), a2 57 (by decide)] at y
    rw [b5, a5] at y2
    exact ⟨y.1, y.2.1, y.2.2, y2⟩
end
