/-! rows of steps: how many ways lead on -/
theorem pos64 {v : Int64} (h : uq v < 9223372036854775808) : (0 : Int64) < v ↔ v ≠ 0 := by
  rw [Int64.lt_iff_toInt_lt, uq_toI h, show (0 : Int64).toInt = 0 from by decide]
  constructor
  · intro h1 h2
    rw [h2, show uq (0 : Int64) = 0 from by decide] at h1
    omega
  · intro h1
    have : uq v ≠ 0 := fun h2 => h1 (uq_inj (by rw [h2]; decide))
    omega
/-- where step i leads from state s -/
def ld9 (m : St) (s i : Nat) : Int := m.1 94 (32 * s + i)
/-- it leads on -/
def onQ (m : St) (s i : Nat) : Prop := 0 ≤ ld9 m s i ∧ m.1 93 (ld9 m s i).toNat = m.1 93 s + 1 ∧ m.2 95 (ld9 m s i).toNat ≠ 0
/-- how many ways, by the first i steps -/
def nsm (m : St) (s : Nat) : Nat → Nat
  | 0 => 0
  | i + 1 => nsm m s i + (if 0 ≤ ld9 m s i ∧ m.1 93 (ld9 m s i).toNat = m.1 93 s + 1 ∧ m.2 95 (ld9 m s i).toNat ≠ 0 then uq (m.2 95 (ld9 m s i).toNat) else 0)
theorem nsm_y {m : St} {s i : Nat} (h : onQ m s i) : nsm m s (i + 1) = nsm m s i + uq (m.2 95 (ld9 m s i).toNat) := by
  show nsm m s i + _ = _
  unfold onQ at h
  rw [if_pos h]
theorem nsm_n {m : St} {s i : Nat} (h : ¬ onQ m s i) : nsm m s (i + 1) = nsm m s i := by
  show nsm m s i + _ = _
  unfold onQ at h
  rw [if_neg h]
  omega
/-- what does not change once the states are met -/
def FXl (L S w : Nat) (B : Nat → Nat) (t m : St) : Prop := (L ≤ 12 ∧ S ≤ 2000 ∧ w ≤ 32) ∧ (B 0 = 0 ∧ B 1 = 1 ∧ B (L + 1) = S) ∧ (∀ k, k ≤ L + 1 → t.1 433 k = B k) ∧ (∀ k, k ≤ L → B k ≤ B (k + 1) ∧ ∀ z, B k ≤ z → z < B (k + 1) → m.1 93 z = k) ∧ (∀ y, y < 32 * B L → y % 32 < w → t.1 432 y = m.1 94 y ∧ (m.1 94 y = -1 ∨ (0 ≤ m.1 94 y ∧ m.1 94 y < S))) ∧ (∀ i, i < w → t.1 362 i = m.1 97 i ∧ 0 ≤ m.1 97 i ∧ m.1 97 i ≤ 10100000) ∧ t.1 310 12 = w
theorem FXl.mono {L S w : Nat} {B : Nat → Nat} {t m : St} (h : FXl L S w B t m) {k j : Nat} (hk : k ≤ j) (hj : j ≤ L + 1) : B k ≤ B j := by
  have := lev_mono (l := L) (fun k hk => (h.2.2.2.1 k hk).1) (j - k) k (by omega)
  rw [show k + (j - k) = j by omega] at this
  exact this
/-- ways and prices on both sides, of the states of one level -/
def WY1 (L : Nat) (t m : St) (j z : Nat) : Prop := t.2 434 z = m.2 95 z ∧ (m.2 95 z ≠ 0 → t.1 435 z = m.1 96 z) ∧ (0 ≤ m.1 96 z ∧ m.1 96 z ≤ 10100000 * ((L - j : Nat) : Int)) ∧ uq (m.2 95 z) ≤ 32 ^ (L - j)
theorem p32 {x : Nat} (h : x ≤ 12) : 32 ^ x ≤ 1152921504606846976 := by
  have := Nat.pow_le_pow_right (show 0 < 32 by omega) h
  exact Nat.le_trans this (by decide)
section
variable {N L S w k s : Nat} {B : Nat → Nat} {t m : St}
/-- does the step lead on? both sides -/
theorem on_both {i : Nat} (hX : FXl L S w B t m) (hk : k < L) (hs : B k ≤ s ∧ s < B (k + 1)) (hW : ∀ z, B (k + 1) ≤ z → z < B (k + 2) → WY1 L t m (k + 1) z) (hi : i < w) :
    (onQ m s i ∧ ∃ z : Nat, ld9 m s i = z ∧ B (k + 1) ≤ z ∧ z < B (k + 2) ∧ z < S ∧ f_X9_onward N s i k t = some ((z : Int), t) ∧ f_X12_isOnWay N s i m = some (1, m)) ∨
    (¬ onQ m s i ∧ f_X9_onward N s i k t = some (-1, t) ∧ f_X12_isOnWay N s i m = some (0, m)) := by
  have hX0 := hX
  obtain ⟨⟨hL, hS, hw⟩, ⟨b0, b1, b2⟩, h433, hlev, hld, _, _⟩ := hX
  have m1 : B (k + 1) ≤ B L := hX0.mono (by omega) (by omega)
  have m2 : B (k + 2) ≤ S := by rw [← b2]; exact hX0.mono (by omega) (by omega)
  have m3 : B L ≤ S := by rw [← b2]; exact hX0.mono (by omega) (by omega)
  have h1 := hld (32 * s + i) (by omega) (by omega)
  have h93 : m.1 93 s = k := (hlev k (by omega)).2 s hs.1 hs.2
  have e4 : t.1 433 (k + 1) = B (k + 1) := h433 (k + 1) (by omega)
  have e5 : t.1 433 (k + 2) = B (k + 2) := h433 (k + 2) (by omega)
  have n1 : ((s : Int) * 32 + i).toNat = 32 * s + i := by omega
  have n2 : (32 * (s : Int) + i).toNat = 32 * s + i := by omega
  have n3 : ((k : Int) + 1).toNat = k + 1 := by omega
  have n4 : ((k : Int) + 2).toNat = k + 2 := by omega
  rcases h1.2 with hz | hz
  · right
    refine ⟨fun h => ?_, ?_, ?_⟩
    · have := h.1; unfold ld9 at this; omega
    · unfold f_X9_onward
      simp only [lt1_k, jn1_k]
      rw [ixI_ok (by omega), n1, h1.1, hz, ixI_ok (by omega), n3, e4, cmpI_ok (by omega), if_pos (by omega), cmpI_ok (by omega), if_pos (by first | exact trivial | rfl)]
    · unfold f_X12_isOnWay
      simp only [lt1_k]
      rw [ixI_ok (by omega), n2, hz, cmpI_ok (by omega), if_pos rfl, boI_0]
  · obtain ⟨z, hz2⟩ : ∃ z : Nat, m.1 94 (32 * s + i) = z := ⟨(m.1 94 (32 * s + i)).toNat, by omega⟩
    have hzS : z < S := by omega
    have hl9 : ld9 m s i = z := hz2
    obtain ⟨j, j1, j2, j3⟩ := lev_of b0 (L + 1) z (by omega)
    have hzj := (hlev j (by omega)).2 z j2 j3
    have hmo : f_X12_isOnWay N s i m = cmpI (j : Int) ((k : Int) + 1) (if (j : Int) = (k : Int) + 1 then (ixI (z : Int) 2000 (if (0 : Int64) < m.2 95 z then (boI 1 (some (1, m))) else (boI 0 (some (0, m))))) else (boI 0 (some (0, m)))) := by
      unfold f_X12_isOnWay
      simp only [lt1_k]
      rw [ixI_ok (by omega), n2, hz2, cmpI_ok (by omega), if_neg (by omega), ixI_ok (by omega), Int.toNat_natCast, hzj, ixI_ok (by omega), Int.toNat_natCast, h93]
    by_cases c1 : z < B (k + 1)
    · right
      have hjk : j ≠ k + 1 := fun h => by rw [h] at j2; omega
      refine ⟨fun h => ?_, ?_, ?_⟩
      · have := h.2.1; rw [hl9, Int.toNat_natCast, hzj, h93] at this; omega
      · unfold f_X9_onward
        simp only [lt1_k, jn1_k]
        rw [ixI_ok (by omega), n1, h1.1, hz2, ixI_ok (by omega), n3, e4, cmpI_ok (by omega), if_pos (by omega), cmpI_ok (by omega)]
        exact if_pos (by first | exact trivial | rfl)
      · rw [hmo, cmpI_ok (by omega), if_neg (by omega), boI_0]
    · by_cases c2 : z < B (k + 2)
      · have h9 := (hlev (k + 1) (by omega)).2 z (by omega) c2
        have hjk : j = k + 1 := by omega
        have hw1 := hW z (by omega) c2
        have hps := pos64 (v := m.2 95 z) (by have := hw1.2.2.2; have := p32 (x := L - (k + 1)) (by omega); omega)
        rw [cmpI_ok (by omega), if_pos (by omega), ixI_ok (by omega)] at hmo
        rw [hmo]
        by_cases c3 : m.2 95 z = 0
        · right
          refine ⟨fun h => ?_, ?_, ?_⟩
          · have := h.2.2; rw [hl9, Int.toNat_natCast] at this; exact this c3
          · unfold f_X9_onward
            simp only [lt1_k, jn1_k]
            rw [ixI_ok (by omega), n1, h1.1, hz2, ixI_ok (by omega), n3, e4, cmpI_ok (by omega), if_neg (by omega), ixI_ok (by omega), n4, e5, cmpI_ok (by omega), if_pos (by omega), ixI_ok (by omega), Int.toNat_natCast, hw1.1, if_neg (by rw [hps]; exact fun h => h c3), cmpI_ok (by omega)]
            exact if_pos (by first | exact trivial | rfl)
          · rw [if_neg (by rw [hps]; exact fun h => h c3), boI_0]
        · left
          refine ⟨⟨by rw [hl9]; omega, by rw [hl9, Int.toNat_natCast, h9, h93]; omega, by rw [hl9, Int.toNat_natCast]; exact c3⟩, z, hl9, by omega, c2, hzS, ?_, ?_⟩
          · unfold f_X9_onward
            simp only [lt1_k, jn1_k]
            rw [ixI_ok (by omega), n1, h1.1, hz2, ixI_ok (by omega), n3, e4, cmpI_ok (by omega), if_neg (by omega), ixI_ok (by omega), n4, e5, cmpI_ok (by omega), if_pos (by omega), ixI_ok (by omega), Int.toNat_natCast, hw1.1, if_pos (by rw [hps]; exact c3), cmpI_ok (by omega)]
            exact if_neg (by first | exact not_false | decide)
          · rw [if_pos (by rw [hps]; exact c3), boI_1]
      · right
        have hjk : j ≠ k + 1 := fun h => by rw [h, show k + 1 + 1 = k + 2 from rfl] at j3; omega
        refine ⟨fun h => ?_, ?_, ?_⟩
        · have := h.2.1; rw [hl9, Int.toNat_natCast, hzj, h93] at this; omega
        · unfold f_X9_onward
          simp only [lt1_k, jn1_k]
          rw [ixI_ok (by omega), n1, h1.1, hz2, ixI_ok (by omega), n3, e4, cmpI_ok (by omega), if_neg (by omega), ixI_ok (by omega), n4, e5, cmpI_ok (by omega), if_neg (by omega), cmpI_ok (by omega)]
          exact if_pos (by first | exact trivial | rfl)
        · rw [hmo, cmpI_ok (by omega), if_neg (by omega), boI_0]
end
/-- what counting at one state changes -/
def WFh (s : Nat) (t u : St) : Prop := (∀ x, x ≠ 435 → u.1 x = t.1 x) ∧ (∀ y, y ≠ s → u.1 435 y = t.1 435 y) ∧ (∀ x, x ≠ 434 → u.2 x = t.2 x) ∧ ∀ y, y ≠ s → u.2 434 y = t.2 434 y
def WFm (s : Nat) (m v : St) : Prop := (∀ x, x ≠ 96 → v.1 x = m.1 x) ∧ (∀ y, y ≠ s → v.1 96 y = m.1 96 y) ∧ (∀ x, x ≠ 95 → v.2 x = m.2 x) ∧ ∀ y, y ≠ s → v.2 95 y = m.2 95 y
theorem WFh.rf {s : Nat} {t : St} : WFh s t t := ⟨fun _ _ => rfl, fun _ _ => rfl, fun _ _ => rfl, fun _ _ => rfl⟩
theorem WFm.rf {s : Nat} {t : St} : WFm s t t := ⟨fun _ _ => rfl, fun _ _ => rfl, fun _ _ => rfl, fun _ _ => rfl⟩
theorem WFh.tr {s : Nat} {t u v : St} (h : WFh s t u) (g : WFh s u v) : WFh s t v := ⟨fun x hx => (g.1 x hx).trans (h.1 x hx), fun x hx => (g.2.1 x hx).trans (h.2.1 x hx), fun x hx => (g.2.2.1 x hx).trans (h.2.2.1 x hx), fun x hx => (g.2.2.2 x hx).trans (h.2.2.2 x hx)⟩
theorem WFm.tr {s : Nat} {t u v : St} (h : WFm s t u) (g : WFm s u v) : WFm s t v := ⟨fun x hx => (g.1 x hx).trans (h.1 x hx), fun x hx => (g.2.1 x hx).trans (h.2.1 x hx), fun x hx => (g.2.2.1 x hx).trans (h.2.2.1 x hx), fun x hx => (g.2.2.2 x hx).trans (h.2.2.2 x hx)⟩
theorem WFh.p {s : Nat} {t : St} {a : Int} {b : Int64} : WFh s t (pL (pI t 435 s a) 434 s b) := ⟨fun x hx => by show (pI t 435 s a).1 x = t.1 x; rw [pI_ne hx], fun y hy => by show (pI t 435 s a).1 435 y = t.1 435 y; rw [pI_nf hy], fun x hx => by rw [pL_ne hx]; rfl, fun y hy => by rw [pL_nf hy]; rfl⟩
theorem WFm.p {s : Nat} {t : St} {a : Int} {b : Int64} : WFm s t (pL (pI t 96 s a) 95 s b) := ⟨fun x hx => by show (pI t 96 s a).1 x = t.1 x; rw [pI_ne hx], fun y hy => by show (pI t 96 s a).1 96 y = t.1 96 y; rw [pI_nf hy], fun x hx => by rw [pL_ne hx]; rfl, fun y hy => by rw [pL_nf hy]; rfl⟩
theorem FXl.w {L S w s : Nat} {B : Nat → Nat} {t m u v : St} (h : FXl L S w B t m) (g : WFh s t u) (g2 : WFm s m v) : FXl L S w B u v := by
  unfold FXl
  rw [g.1 433 (by decide), g.1 432 (by decide), g.1 362 (by decide), g.1 310 (by decide), g2.1 93 (by decide), g2.1 94 (by decide), g2.1 97 (by decide)]
  exact h
theorem WY1.w {L s j z : Nat} {t m u v : St} (h : WY1 L t m j z) (g : WFh s t u) (g2 : WFm s m v) (hz : z ≠ s) : WY1 L u v j z := by
  unfold WY1
  rw [g.2.2.2 z hz, g.2.1 z hz, g2.2.1 z hz, g2.2.2.2 z hz]
  exact h
theorem ld9_w {s z i : Nat} {m v : St} (g : WFm s m v) : ld9 v z i = ld9 m z i := by unfold ld9; rw [g.1 94 (by decide)]
theorem onQ_w {s z i : Nat} {m v : St} (g : WFm s m v) (h : 0 ≤ ld9 m z i → m.1 93 (ld9 m z i).toNat = m.1 93 z + 1 → (ld9 m z i).toNat ≠ s) : onQ v z i ↔ onQ m z i := by
  unfold onQ
  rw [ld9_w g, g.1 93 (by decide)]
  constructor
  · rintro ⟨h1, h2, h3⟩; rw [g.2.2.2 _ (h h1 h2)] at h3; exact ⟨h1, h2, h3⟩
  · rintro ⟨h1, h2, h3⟩; exact ⟨h1, h2, by rw [g.2.2.2 _ (h h1 h2)]; exact h3⟩
theorem nsm_w {s z : Nat} {m v : St} (g : WFm s m v) : ∀ i, (∀ j, j < i → 0 ≤ ld9 m z j → m.1 93 (ld9 m z j).toNat = m.1 93 z + 1 → (ld9 m z j).toNat ≠ s) → nsm v z i = nsm m z i := by
  intro i
  induction i with
  | zero => intro _; rfl
  | succ i ih =>
    intro h
    have hi := ih (fun j hj => h j (by omega))
    have hq := onQ_w g (h i (by omega))
    by_cases c : onQ m z i
    · rw [nsm_y (hq.mpr c), nsm_y c, hi, ld9_w g, g.2.2.2 _ (h i (by omega) c.1 c.2.1)]
    · rw [nsm_n (fun h2 => c (hq.mp h2)), nsm_n c, hi]
