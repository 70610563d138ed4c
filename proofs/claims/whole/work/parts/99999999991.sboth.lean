/-! searching: both sides meet a state; an allowed step is tried -/
/-- a state's row on both sides -/
def ROWr (n : Nat) (t m : St) (s : Nat) : Prop := FXs (stX m s) (stY m s) (stW m s) n ∧ (∀ d, d < n → stX m s d ≤ 60 ∧ stY m s d ≤ 60 ∧ m.1 92 (16 * s + d) = stX m s d + 256 * stY m s d + 65536 * stW m s d) ∧ ∀ j, j < 3 → uq (t.2 430 (3 * s + j)) = kyS (stCo m s) n j
/-- the states of a search on both sides -/
def SSr (n S e : Nat) (pl : Nat → Nat) (t m : St) : Prop := HTb t S pl ∧ (t.1 310 11 = S ∧ m.1 200 90 = S) ∧ (t.1 310 13 = e ∧ m.1 200 89 = e ∧ e ≤ 10000) ∧ (∀ s, s < S → ROWr n t m s) ∧ AIs n m S
theorem smC_of {x y w : Int} (hx : ok4 x) (hy : ok4 y) (hw : 0 ≤ w ∧ w ≤ 3) (h1 : x ≤ 60) (h2 : y ≤ 60) : smC (cdZ x y w) := by
  unfold smC cdZ
  omega
theorem ROWr.sm {n s : Nat} {t m : St} (h : ROWr n t m s) : ∀ d, d < n → smC (stCo m s d) := fun d hd => by
  have h1 := h.1.2.1 d hd
  have h2 := h.2.1 d hd
  exact smC_of h1.1 h1.2.1 h1.2.2 h2.1 h2.2.1
theorem ROWr.rg {n s : Nat} {t m : St} (h : ROWr n t m s) : ∀ d, d < n → inR (m.1 92 (16 * s + d)) := fun d hd => by
  have h1 := h.1.2.1 d hd
  have h2 := h.2.1 d hd
  omega
theorem ROWr.fr {n s : Nat} {t m u v : St} (h : ROWr n t m s) (e1 : ∀ j, j < 3 → u.2 430 (3 * s + j) = t.2 430 (3 * s + j)) (e2 : ∀ d, d < n → v.1 92 (16 * s + d) = m.1 92 (16 * s + d)) : ROWr n u v s := by
  have hX : ∀ d, d < n → stX v s d = stX m s d := fun d hd => by unfold stX; rw [e2 d hd]
  have hY : ∀ d, d < n → stY v s d = stY m s d := fun d hd => by unfold stY; rw [e2 d hd]
  have hW : ∀ d, d < n → stW v s d = stW m s d := fun d hd => by unfold stW; rw [e2 d hd]
  refine ⟨FXs_cong h.1 (fun d hd => ⟨hX d hd, hY d hd, hW d hd⟩), fun d hd => by rw [hX d hd, hY d hd, hW d hd, e2 d hd]; exact h.2.1 d hd, fun j hj => ?_⟩
  rw [e1 j hj, h.2.2 j hj]
  apply kyS_cg
  intro d hd
  unfold stCo
  rw [hX d hd, hY d hd, hW d hd]
section
variable {N n : Nat} {t m : St}
theorem key_eq {s : Nat} {C : Nat → Int} (hn : n ≤ 16) (h : ROWr n t m s) (hC : ∀ d, d < n → smC (C d)) (hk : KYr C n (t.2 436)) : sk9 (ky9 t s) (t.2 436) ↔ ∀ d, d < n → stCo m s d = C d := by
  constructor
  · intro hs
    apply kyS_inj h.sm hC
    intro j
    by_cases hj : j < 3
    · rw [← h.2.2 j hj, ← hk j hj]
      have hj' : j = 0 ∨ j = 1 ∨ j = 2 := by omega
      rcases hj' with rfl | rfl | rfl
      · exact congrArg uq hs.1
      · exact congrArg uq hs.2.1
      · exact congrArg uq hs.2.2
    · rw [kyS_0 n j (by omega), kyS_0 n j (by omega)]
  · intro hs
    have e : ∀ j, j < 3 → ky9 t s j = t.2 436 j := fun j hj => by
      apply uq_inj
      show uq (t.2 430 (3 * s + j)) = _
      rw [h.2.2 j hj, hk j hj]
      exact kyS_cg n j hs
    exact ⟨e 0 (by decide), e 1 (by decide), e 2 (by decide)⟩
theorem stCo_eq {s d : Nat} {x y w : Int} (h : ROWr n t m s) (hd : d < n) (hx : ok4 x) (hy : ok4 y) (hw : 0 ≤ w ∧ w ≤ 3) : stCo m s d = cdZ x y w ↔ m.1 92 (16 * s + d) = x + 256 * y + 65536 * w := by
  have h1 := h.1.2.1 d hd
  have h2 := h.2.1 d hd
  unfold stCo
  rw [cdZ_inj h1.1 h1.2.1 h1.2.2 hx hy hw, h2.2.2]
  constructor
  · intro ⟨a, b, c⟩; rw [a, b, c]
  · intro h3; omega
theorem sam_eq {s : Nat} (h : ROWr n t m s) (hF : fmF m n) : smF m n s ↔ ∀ d, d < n → stCo m s d = cdZ (m.1 38 d) (m.1 39 d) (m.1 40 d) := by
  constructor
  · intro g d hd
    have h3 := hF.2.2.1 d hd
    exact (stCo_eq h hd h3.1 h3.2.1 h3.2.2).mpr (g d hd)
  · intro g d hd
    have h3 := hF.2.2.1 d hd
    exact (stCo_eq h hd h3.1 h3.2.1 h3.2.2).mp (g d hd)
/-- meet against stateAtHand and meets -/
theorem meet_both {S e l : Nat} {pl : Nat → Nat} (hn : n ≤ 16) (hS : SSr n S e pl t m) (hF : fmF m n) (hsm : ∀ d, d < n → m.1 38 d ≤ 60 ∧ m.1 39 d ≤ 60) (hk : KYr (fun d => cdZ (m.1 38 d) (m.1 39 d) (m.1 40 d)) n (t.2 436)) (hA : ∀ d, d < n → ok4 (m.1 47 d) ∧ ok4 (m.1 48 d) ∧ 0 ≤ m.1 49 d ∧ m.1 49 d ≤ 3) (hN : 5000 ≤ N) :
    (∃ s, s < S ∧ f_X9_meet N t = some ((s : Int), t) ∧ f_X12_stateAtHand N m = some ((s : Int), m)) ∨
    (f_X9_meet N t = some (-1, t) ∧ f_X12_stateAtHand N m = some (-1, m) ∧ f_X12_meets N l m = some (0, m)) ∨
    (S < 2000 ∧ e < 10000 ∧ ∃ (u v : St) (pl2 : Nat → Nat), f_X9_meet N t = some ((S : Int), u) ∧ f_X12_stateAtHand N m = some (-1, m) ∧ f_X12_meets N l m = some (1, v) ∧ SSr n (S + 1) (e + 1) pl2 u v ∧ MTf t u ∧ MMf m v S ∧ v.1 93 S = l) := by
  obtain ⟨hT, ⟨h11, h90⟩, ⟨h13, h89, he⟩, hR, hI⟩ := hS
  have hS2 := hT.1
  have hC : ∀ d, d < n → smC (cdZ (m.1 38 d) (m.1 39 d) (m.1 40 d)) := fun d hd => by
    have h3 := hF.2.2.1 d hd
    have h4 := hsm d hd
    exact smC_of h3.1 h3.2.1 h3.2.2 h4.1 h4.2
  have keyS : ∀ s, s < S → (sk9 (ky9 t s) (t.2 436) ↔ smF m n s) := fun s hs => by rw [key_eq hn (hR s hs) hC hk, sam_eq (hR s hs) hF]
  have hh := m_hand (N := N) hn hS2 h90 hF (fun s d hs hd => (hR s hs).rg d hd) hN
  rcases h_meet9 (N := N) hT h11 h13 he hN with ⟨s, a1, a2, a3⟩ | ⟨a1, a2, a3⟩ | ⟨a1, a2, a3, u, pl2, b1, b2, b3, b4, b5, b6, b7⟩
  · left
    rcases hh with ⟨s2, c1, c2, c3⟩ | ⟨c1, c2⟩
    · have : s = s2 := by
        have k2 := (keyS s2 c1).mpr c2
        exact hT.2.2.2.2 s s2 a1 c1 ⟨by rw [a2.1, ← k2.1], by rw [a2.2.1, ← k2.2.1], by rw [a2.2.2, ← k2.2.2]⟩
      subst this
      exact ⟨s, a1, a3, c3⟩
    · exact absurd ((keyS s a1).mp a2) (c1 s a1)
  · right; left
    have c2 : f_X12_stateAtHand N m = some (-1, m) := by
      rcases hh with ⟨s2, c1, c2, c3⟩ | ⟨c1, c2⟩
      · exact absurd ((keyS s2 c1).mpr c2) (a1 s2 c1)
      · exact c2
    rcases m_meets (N := N) (l := l) hn hS2 he h90 h89 hF hA hI (by omega) with ⟨_, d2⟩ | ⟨d1, d2, _⟩
    · exact ⟨a3, c2, d2⟩
    · omega
  · right; right
    have c2 : f_X12_stateAtHand N m = some (-1, m) := by
      rcases hh with ⟨s2, c1, c2, c3⟩ | ⟨c1, c2⟩
      · exact absurd ((keyS s2 c1).mpr c2) (a1 s2 c1)
      · exact c2
    rcases m_meets (N := N) (l := l) hn hS2 he h90 h89 hF hA hI (by omega) with ⟨d1, _⟩ | ⟨_, _, v, d1, d2, d3, d4, d5, d6, d7⟩
    · omega
    · refine ⟨a2, a3, u, v, pl2, b1, c2, d1, ⟨b2, ⟨b3, d3⟩, ⟨b4, d4, by omega⟩, fun s hs => ?_, d7⟩, b5, d2, d5⟩
      by_cases hsS : s = S
      · subst hsS
        have hv : ∀ d, d < n → stX v s d = m.1 38 d ∧ stY v s d = m.1 39 d ∧ stW v s d = m.1 40 d := fun d hd => by
          have h3 := hF.2.2.1 d hd
          have h4 := d6 d hd
          unfold pkd at h4
          unfold stX stY stW
          rw [h4]
          omega
        refine ⟨FXs_cong hF.2 hv, fun d hd => ?_, fun j hj => ?_⟩
        · have := hv d hd
          rw [this.1, this.2.1, this.2.2, d6 d hd]
          exact ⟨(hsm d hd).1, (hsm d hd).2, rfl⟩
        · have e1 : u.2 430 (3 * s + j) = t.2 436 j := by
            have hj' : j = 0 ∨ j = 1 ∨ j = 2 := by omega
            rcases hj' with rfl | rfl | rfl
            · exact b7.1
            · exact b7.2.1
            · exact b7.2.2
          rw [e1, hk j hj]
          apply kyS_cg
          intro d hd
          unfold stCo
          rw [(hv d hd).1, (hv d hd).2.1, (hv d hd).2.2]
      · refine (hR s (by omega)).fr (fun j hj => ?_) (fun d hd => d2.2.2.2.2 _ (by omega))
        have b6s := b6 s (by omega)
        have hj' : j = 0 ∨ j = 1 ∨ j = 2 := by omega
        rcases hj' with rfl | rfl | rfl
        · exact b6s.1
        · exact b6s.2.1
        · exact b6s.2.2
end
section
variable {N o n : Nat} {t m : St}
/-- an allowed step is tried -/
theorem al_both {i : Nat} (hN : 100000 ≤ N) (hB : BK0 t m) (hE : EVr o t m n) (hn : 1 ≤ n) (hi : (i : Int) < m.1 200 17) (hL : LIn t) (hLb : t.1 304 11 ≤ 1900000000) :
    ∃ a c : Nat, (t.1 361 i = a ∧ m.1 30 i = c ∧ i < 32) ∧ ∃ u w : St, (hk5 t u ∧ CIk u ∧ mk5 m w ∧ LIn u ∧ u.1 304 11 ≤ t.1 304 11 + 64) ∧
      ((∃ r : Int, (r = 1 ∨ r = 2 ∨ r = 3 ∨ r = 4 ∨ r = 5) ∧ f_X1_attempt N o a (evb n) t = some (r, u) ∧ f_X12_reckons N c (evb n) m = some (0, w) ∧ blm u w r) ∨
       (f_X1_attempt N o a (evb n) t = some (0, u) ∧ f_X12_reckons N c (evb n) m = some (1, w) ∧ DNC u w n ∧ (∃ p : Nat, 1 ≤ p ∧ p ≤ 4 ∧ w.1 200 75 = p ∧ u.1 304 13 = mxc w p ∧ ∀ j, j < p → 0 ≤ w.1 74 j ∧ w.1 74 j < m.1 200 15))) := by
  have hBn := hB.2.1
  obtain ⟨⟨a0, c0, n1, n2, n3, n4, n4'⟩, ⟨n5, n6, n7, n8⟩, n9, _⟩ := hBn
  obtain ⟨M, T, a, b, c, d, ⟨g1, g2, g3⟩, ⟨hb, hd⟩, ⟨hS, _, _, h59⟩, e361, e30, e362⟩ := hB.2.2.2.2.2.1 i hi
  have h64 := hE.n64
  obtain ⟨u, w, q1, q2, q3, q4, q5, q6⟩ := at_both (N := N) (o := o) (n := n) (t := t) (m := m) (s := evb n) hS (by omega) ⟨by omega, hE, fun e he hbq => by rw [bq_evb h64 he] at hbq; exact of_decide_eq_true hbq, by omega, g1⟩ hB.fg (by omega) hn ⟨fun _ _ _ => rfl, hb⟩ ⟨fun _ _ _ => rfl, by omega⟩ (by omega) (by rw [h59]; omega) (by rw [h59]; omega) hL hLb
  refine ⟨a, c, ⟨e361, e30, by omega⟩, u, w, ⟨q1, q2, q3, q4, q5⟩, q6.imp id (fun ⟨r1, r2, r3, _, r5⟩ => ⟨r1, r2, r3, r5⟩)⟩
end
