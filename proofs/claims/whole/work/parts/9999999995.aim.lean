/-! the aim, marks, text that is fed, and who is at a place -/
theorem s_aimL {n : Nat} {m : St} (hF : fmF m n) (hq : ∀ d, d < n → inR (m.1 47 d) ∧ inR (m.1 48 d) ∧ inR (m.1 49 d)) (K : Int → St → Option (Int × St)) : ∀ (i d q : Nat) (b : Bool), d + i = n → i < q →
    f_X12_isAim_L4 K q (if b = true then 1 else 0) d m = K (if (b && atM (m.1 47) (m.1 48) (m.1 49) (m.1 38) (m.1 39) (m.1 40) i d) = true then 1 else 0) m := by
  have h64 := hF.2.1
  intro i
  induction i with
  | zero =>
    intro d q b h1 h2
    obtain ⟨q, rfl⟩ : ∃ k, q = k + 1 := ⟨q - 1, by omega⟩
    unfold f_X12_isAim_L4 atM
    rw [lt1_k, hF.1, cmpI_ok (by omega), if_neg (by omega), Bool.and_true]
  | succ i ih =>
    intro d q b h1 h2
    obtain ⟨q, rfl⟩ : ∃ k, q = k + 1 := ⟨q - 1, by omega⟩
    have h3 := hF.2.2.1 d (by omega)
    have h5 := hq d (by omega)
    unfold f_X12_isAim_L4
    simp only [lt1_k, jn1_k, Int.toNat_natCast]
    rw [hF.1, cmpI_ok (by omega), if_pos (by omega), cmpI_ok (by cases b <;> decide), ixI_ok (by omega), ixI_ok (by omega), cmpI_ok (by omega), ixI_ok (by omega), ixI_ok (by omega), cmpI_ok (by omega), ixI_ok (by omega), ixI_ok (by omega), cmpI_ok (by omega), show ((d : Int) + 1) = ((d + 1 : Nat) : Int) by omega]
    rw [show atM (m.1 47) (m.1 48) (m.1 49) (m.1 38) (m.1 39) (m.1 40) (i + 1) d = ((decide (m.1 38 d = m.1 47 d) && (decide (m.1 39 d = m.1 48 d) && decide (m.1 40 d = m.1 49 d))) && atM (m.1 47) (m.1 48) (m.1 49) (m.1 38) (m.1 39) (m.1 40) i (d + 1)) from rfl]
    have i0 := ih (d + 1) q false (by omega) (by omega)
    have i1 := ih (d + 1) q true (by omega) (by omega)
    simp only [Bool.false_and, Bool.true_and, if_true, show ¬ (false = true) by decide, if_false] at i0 i1
    cases b with
    | false =>
      rw [if_neg (by decide : ¬ (false = true)), if_pos rfl, Bool.false_and, if_neg (by decide : ¬ (false = true))]
      exact i0
    | true =>
      rw [if_pos rfl, if_neg (by decide), Bool.true_and]
      by_cases g1 : m.1 38 d = m.1 47 d
      · rw [if_pos g1, decide_eq_true g1]
        by_cases g2 : m.1 39 d = m.1 48 d
        · rw [if_pos g2, decide_eq_true g2]
          by_cases g3 : m.1 40 d = m.1 49 d
          · rw [if_pos g3, decide_eq_true g3]; simp only [Bool.true_and]; exact i1
          · rw [if_neg g3, decide_eq_false g3]; simp only [Bool.true_and, Bool.false_and, show ¬ (false = true) by decide, if_false]; exact i0
        · rw [if_neg g2, decide_eq_false g2]; simp only [Bool.true_and, Bool.false_and, show ¬ (false = true) by decide, if_false]; exact i0
      · rw [if_neg g1, decide_eq_false g1]; simp only [Bool.false_and, show ¬ (false = true) by decide, if_false]; exact i0
theorem s_isAim {N n : Nat} {m : St} (hF : fmF m n) (hq : ∀ d, d < n → inR (m.1 47 d) ∧ inR (m.1 48 d) ∧ inR (m.1 49 d)) (hN : 65 ≤ N) : f_X12_isAim N m = some ((if atM (m.1 47) (m.1 48) (m.1 49) (m.1 38) (m.1 39) (m.1 40) n 0 = true then 1 else 0), m) := by
  have h64 := hF.2.1
  unfold f_X12_isAim
  have := s_aimL hF hq (fun (k17 : Int) (t18 : St) => boI k17 (some (k17, t18))) n 0 N true (by omega) (by omega)
  rw [if_pos rfl, Bool.true_and, show ((0 : Nat) : Int) = 0 from rfl] at this
  rw [this]
  split
  · rw [boI_1]
  · rw [boI_0]

/-- the aim on both sides -/
def AIMr (n : Nat) (t m : St) : Prop := ∀ d, d < n → ok4 (m.1 47 d) ∧ ok4 (m.1 48 d) ∧ (0 ≤ m.1 49 d ∧ m.1 49 d ≤ 3) ∧ t.1 320 d = cdZ (m.1 47 d) (m.1 48 d) (m.1 49 d)
section
variable {N o n : Nat} {t m u v : St}
theorem aim_both (hF : hmF o t m n) (hA : AIMr n t m) (hN : 200 ≤ N) : ∃ r : Int, (r = 0 ∨ r = 1) ∧ f_X3_isAt N o 320 64 t = some (r, t) ∧ f_X12_isAim N m = some (r, m) ∧ (r = 1 ↔ atM (m.1 47) (m.1 48) (m.1 49) (m.1 38) (m.1 39) (m.1 40) n 0 = true) := by
  have hq : ∀ d, d < n → inR (m.1 47 d) ∧ inR (m.1 48 d) ∧ inR (m.1 49 d) := fun d hd => by have := hA d hd; omega
  have e1 := s_isAim (N := N) hF.1 hq (by omega)
  have e2 := h_isAt (N := N) (o := o) (t := t) (q0 := 320) hF.2 hF.1.2 (fun d hd => by have h9 := hA d hd; rw [h9.2.2.2]; have := cdZ_rng h9.1 h9.2.1 h9.2.2.1; omega) (by omega)
  rw [at_eq hF.1.2 (A := m.1 47) (B := m.1 48) (D := m.1 49) (fun d hd => hA d hd) n 0 (by omega)] at e2
  generalize hr9 : (if atM (m.1 47) (m.1 48) (m.1 49) (m.1 38) (m.1 39) (m.1 40) n 0 = true then (1 : Int) else 0) = r at e1 e2
  refine ⟨r, ?_, e2, e1, ?_⟩
  · rw [← hr9]; split
    · exact Or.inr rfl
    · exact Or.inl rfl
  · rw [← hr9]; split
    · next h => exact ⟨fun _ => h, fun _ => rfl⟩
    · next h => exact ⟨fun h2 => by omega, fun h2 => absurd h2 h⟩
theorem h_ccL {X Y W : Nat → Int} {q0 n0 : Nat} (hV : FXs X Y W n) (hn0 : n ≤ n0 ∧ n0 ≤ 64) (hq0 : q0 ≠ 305 + o ∧ (q0 < 390 + 10 * o ∨ 397 + 10 * o < q0)) : ∀ (j x q : Nat) (t : St), FH o t X Y W n → x + j = n → j < q → ∃ u : St, (∀ K : St → Option St, f_X3_copyCodes_L2 N o q0 n0 K q x t = K u) ∧ (∀ a, a ≠ q0 → u.1 a = t.1 a) ∧ (∀ d, d < x → u.1 q0 d = t.1 q0 d) ∧ (∀ d, x ≤ d → d < n → u.1 q0 d = cdZ (X d) (Y d) (W d)) ∧ u.2 = t.2 := by
  have h64 := hV.1
  intro j
  induction j with
  | zero =>
    intro x q t hF h1 h2
    obtain ⟨q, rfl⟩ : ∃ q', q = q' + 1 := ⟨q - 1, by omega⟩
    refine ⟨t, fun K => ?_, fun _ _ => rfl, fun _ _ => rfl, fun d z1 z2 => by omega, rfl⟩
    conv => lhs; unfold f_X3_copyCodes_L2
    rw [lt1_k, hF.1, cmpI_ok (by omega), if_neg (by omega)]
  | succ j ih =>
    intro x q t hF h1 h2
    obtain ⟨q, rfl⟩ : ∃ q', q = q' + 1 := ⟨q - 1, by omega⟩
    have hF2 : FH o (pI t q0 x (cdZ (X x) (Y x) (W x))) X Y W n := by
      unfold FH at hF ⊢
      rw [pI_ne (show 305 + o ≠ q0 by omega), pI_ne (show 390 + 10 * o ≠ q0 by omega), pI_ne (show 391 + 10 * o ≠ q0 by omega), pI_ne (show 392 + 10 * o ≠ q0 by omega), pI_ne (show 397 + 10 * o ≠ q0 by omega)]
      exact hF
    obtain ⟨u, g1, g2, g3, g4, g5⟩ := ih (x + 1) q _ hF2 (by omega) (by omega)
    refine ⟨u, fun K => ?_, fun a ha => by rw [g2 a ha, pI_ne ha], fun d hd => by rw [g3 d (by omega), pI_nf (by omega)], fun d z1 z2 => ?_, by rw [g5]; rfl⟩
    · rw [← g1 K]
      conv => lhs; unfold f_X3_copyCodes_L2
      rw [lt1_k, hF.1, cmpI_ok (by omega), if_pos (by omega), cmpI_ok (by omega), if_pos (by omega), h_codeAt hF hV (by omega), bdI_s, ixI_ok (by omega), lt1_k, Int.toNat_natCast, show (x : Int) + 1 = ((x + 1 : Nat) : Int) by omega]
    · by_cases hd : d = x
      · rw [hd, g3 x (by omega), pI_at]
      · exact g4 d (by omega) z2
theorem h_cc {X Y W : Nat → Int} {q0 n0 : Nat} (hV : FXs X Y W n) (hF : FH o t X Y W n) (hn0 : n ≤ n0 ∧ n0 ≤ 64) (hq0 : q0 ≠ 305 + o ∧ (q0 < 390 + 10 * o ∨ 397 + 10 * o < q0)) (hN : 65 ≤ N) : ∃ u : St, f_X3_copyCodes N o q0 n0 t = some u ∧ (∀ a, a ≠ q0 → u.1 a = t.1 a) ∧ (∀ d, d < n → u.1 q0 d = cdZ (X d) (Y d) (W d)) ∧ u.2 = t.2 := by
  have h64 := hV.1
  obtain ⟨u, g1, g2, g3, g4, g5⟩ := h_ccL (N := N) hV hn0 hq0 n 0 N t hF (by omega) (by omega)
  exact ⟨u, g1 _, g2, fun d hd => g4 d (by omega) hd, g5⟩
theorem m_marksL (hn : n ≤ 64) : ∀ (j x q : Nat) (m : St), m.1 200 37 = n → x + j = n → j < q → ∃ v : St, (∀ K : St → Option St, f_X12_marks_L2 K q x m = K v) ∧ (∀ a, (a < 47 ∨ 49 < a) → v.1 a = m.1 a) ∧ (∀ d, d < x → v.1 47 d = m.1 47 d ∧ v.1 48 d = m.1 48 d ∧ v.1 49 d = m.1 49 d) ∧ (∀ d, x ≤ d → d < n → v.1 47 d = m.1 38 d ∧ v.1 48 d = m.1 39 d ∧ v.1 49 d = m.1 40 d) ∧ v.2 = m.2 := by
  intro j
  induction j with
  | zero =>
    intro x q m h37 h1 h2
    obtain ⟨q, rfl⟩ : ∃ q', q = q' + 1 := ⟨q - 1, by omega⟩
    refine ⟨m, fun K => ?_, fun _ _ => rfl, fun _ _ => ⟨rfl, rfl, rfl⟩, fun d z1 z2 => by omega, rfl⟩
    conv => lhs; unfold f_X12_marks_L2
    rw [lt1_k, h37, cmpI_ok (by omega), if_neg (by omega)]
  | succ j ih =>
    intro x q m h37 h1 h2
    obtain ⟨q, rfl⟩ : ∃ q', q = q' + 1 := ⟨q - 1, by omega⟩
    generalize hw : pI (pI (pI m 47 x (m.1 38 x)) 48 x (m.1 39 x)) 49 x (m.1 40 x) = w
    have wo : ∀ a, (a < 47 ∨ 49 < a) → w.1 a = m.1 a := fun a ha => by rw [← hw, pI_ne (by omega), pI_ne (by omega), pI_ne (by omega)]
    have w1 : ∀ d, d ≠ x → w.1 47 d = m.1 47 d ∧ w.1 48 d = m.1 48 d ∧ w.1 49 d = m.1 49 d := fun d hd => by
      rw [← hw]
      exact ⟨by rw [pI_nf hd, pI_nf hd, pI_nf hd], by rw [pI_nf hd, pI_nf hd, pI_nf hd], by rw [pI_nf hd, pI_nf hd, pI_nf hd]⟩
    have w2 : w.1 47 x = m.1 38 x ∧ w.1 48 x = m.1 39 x ∧ w.1 49 x = m.1 40 x := by
      rw [← hw]
      exact ⟨by rw [pI_ne (by decide), pI_ne (by decide), pI_at], by rw [pI_ne (by decide), pI_at], by rw [pI_at]⟩
    obtain ⟨u, g1, g2, g3, g4, g5⟩ := ih (x + 1) q w (by rw [wo 200 (by omega)]; exact h37) (by omega) (by omega)
    refine ⟨u, fun K => ?_, fun a ha => by rw [g2 a ha, wo a ha], fun d hd => by rw [(g3 d (by omega)).1, (g3 d (by omega)).2.1, (g3 d (by omega)).2.2]; exact w1 d (by omega), fun d z1 z2 => ?_, by rw [g5, ← hw]; rfl⟩
    · rw [← g1 K, ← hw]
      conv => lhs; unfold f_X12_marks_L2
      simp only [lt1_k]
      rw [h37, cmpI_ok (by omega), if_pos (by omega), ixI_ok (by omega), ixI_ok (by omega), ixI_ok (by omega), ixI_ok (by omega), ixI_ok (by omega), ixI_ok (by omega), Int.toNat_natCast, show (x : Int) + 1 = ((x + 1 : Nat) : Int) by omega]
      rw [pI_ne (show (39 : Nat) ≠ 47 by decide), pI_ne (show (40 : Nat) ≠ 48 by decide), pI_ne (show (40 : Nat) ≠ 47 by decide)]
    · by_cases hd : d = x
      · rw [hd, (g3 x (by omega)).1, (g3 x (by omega)).2.1, (g3 x (by omega)).2.2]; exact w2
      · have := g4 d (by omega) z2
        rw [wo 38 (by omega), wo 39 (by omega), wo 40 (by omega)] at this
        exact this
/-- copyCodes(aim) against marks -/
theorem mark_both (hE : EVr 0 t m n) (hN : 100 ≤ N) : ∃ u v : St, f_X3_copyCodes N 0 320 64 t = some u ∧ f_X12_marks N m = some v ∧ AIMr n u v ∧ (∀ a, a ≠ 320 → u.1 a = t.1 a) ∧ u.2 = t.2 ∧ (∀ a, (a < 47 ∨ 49 < a) → v.1 a = m.1 a) ∧ v.2 = m.2 := by
  have hF := hE.2.1
  have h64 := hE.n64
  obtain ⟨u, a1, a2, a3, a4⟩ := h_cc (N := N) (q0 := 320) (n0 := 64) hF.1.2 hF.2 (by omega) (by omega) (by omega)
  obtain ⟨v, b1, b2, b3, b4, b5⟩ := m_marksL h64 n 0 N m hF.1.1 (by omega) (by omega)
  refine ⟨u, v, a1, b1 _, fun d hd => ?_, a2, a4, b2, b5⟩
  obtain ⟨c1, c2, c3⟩ := b4 d (by omega) hd
  have h9 := hF.1.2.2.1 d hd
  rw [c1, c2, c3, a3 d hd]
  exact ⟨h9.1, h9.2.1, h9.2.2, rfl⟩
/-- at against at -/
theorem at_same {a0 a1 : Int} (hE : EVr 0 t m n) (h0 : inR a0) (h1 : inR a1) (hN : 100 ≤ N) : ∃ r : Int, f_X11_at N a0 a1 t = some (r, t) ∧ f_X12_at N a0 a1 m = some (r, m) := by
  have hF := hE.2.1
  refine ⟨who9 (m.1 38) (m.1 39) n a0 a1, ?_, ?_⟩
  · unfold f_X11_at
    rw [h_who hF.2 hF.1.2 h0 h1, bdI_s]
  · unfold f_X12_at
    rw [s_whoAt rfl rfl hF.1.1 hF.1.2 h0 h1 (by omega), bdI_s]
end
