/-! reading in lock step: a new name when nobody keeps tokens -/
/-- a name that nobody has -/
theorem new0 {N : Nat} {B : Nat → Int} {e mm i : Nat} {t m : St} (h : PR t m B e mm 0 i) (hn : NmR t m) (hN : 5000 ≤ N) :
    (∃ w : Int, (1 ≤ w ∧ w ≤ 7) ∧ f_X7_takeNew N t = some (0, pI t 303 5 w) ∧ f_X12_newName N m = some (0, pI m 200 8 w)) ∨ (∃ u v : St, f_X7_takeNew N t = some (1, u) ∧ f_X12_newName N m = some (1, v) ∧ ( tKnd B e (ch B e i) = 2 ∧ v.1 200 111 = ch B e i ∧ v.1 200 112 = ((wnd B e (e - ch B e i) (ch B e i) - ch B e i : Nat) : Int) ∧ fmw (nmb m (fun j => B (ch B e i + j)) (wnd B e (e - ch B e i) (ch B e i) - ch B e i)) (m.1 200 13).toNat 0 = -1 ∧ PR u v B e mm 0 (i + 1) ∧ sC t u ∧ (∀ x y : Nat, (x ≠ 200 ∨ y < 2 ∨ (6 < y ∧ y ≠ 111 ∧ y ≠ 112)) → v.1 x y = m.1 x y) ∧ v.2 = m.2)) := by
  have hq := tq_of h
  generalize hhk : cKd B e (ch B e i) = hk9 at hq
  have hsr := sgi_rng (m.1 200 5)
  have hq2 := hq.2
  have hmk := h.2.2.1.2.2.2.2.1
  have hm4 := h.2.2.1.2.2.1
  have hr := hq.rng
  unfold f_X7_takeNew f_X12_newName
  by_cases h3 : m.1 200 3 = 2
  · have hn38 : hk9 = 38 := by omega
    have hlt := tq_lt h (by omega)
    rw [hmk] at h3
    have hk := kn_name h3
    have hTK := h.1.1 i (by omega)
    have hfb := fun s (hs : s < 3) => find_both (s := s) hn hs hTK hk.1 hk.2.1 hk.2.2
    obtain ⟨hna, h26⟩ := nm_at (N := N) h hn h3 hN
    have hfd := fun s (hs : s < 3) => fd_at (N := N) (o := s) h hn hs hlt hN
    obtain ⟨n, rfl⟩ : ∃ n, N = n + 4 := ⟨N - 4, by omega⟩
    have hFr : ∀ s, s < 3 → inR (fmw (fdb t s i) (t.1 (312 + s) 2).toNat 0) := by
      intro s hs
      have hnr := fmw_rng (P := fdb t s i) (t.1 (312 + s) 2).toNat 0
      have hns := hn.2.1 s hs
      have hnl := nmL_rng s
      omega
    rw [lt1_k, hq.1, hn38, cmpI_ok (by omega), if_pos rfl, tn_lp (F := fun s => fmw (fdb t s i) (t.1 (312 + s) 2).toNat 0) h.2.2.2.1 (fun s hs => ⟨hfd s hs, hFr s hs⟩) n]
    simp only [lt1_k]
    rw [hmk, h3, cmpI_ok (a := 2) (b := 2) (by omega), if_pos (show (2 : Int) = 2 from rfl), hna, bdI_s]
    have h0 := hfb 0 (by omega)
    have h1 := hfb 1 (by omega)
    have h2 := hfb 2 (by omega)
    dsimp only at h0 h1 h2
    generalize hK : fmw (nmb m (fun j => B (ch B e i + j)) (wnd B e (e - ch B e i) (ch B e i) - ch B e i)) (m.1 200 13).toNat 0 = K at *
    have hKr := fmw_rng (P := nmb m (fun j => B (ch B e i + j)) (wnd B e (e - ch B e i) (ch B e i) - ch B e i)) (m.1 200 13).toNat 0
    rw [hK] at hKr
    have hM13 := hn.1
    rw [cmpI_ok (by omega)]
    by_cases k1 : K = -1
    · rw [if_pos k1] at h0 h1 h2 ⊢
      rw [if_pos (by rw [h0, h1, h2]; decide)]
      obtain ⟨u, v, q1, q2, q3, q4, q5⟩ := pass0 (N := n + 4) (as := 1000) ((h.pm (f := 111) (x := m.1 200 4) (by omega)).pm (f := 112) (x := (pI m 200 111 (m.1 200 4)).1 200 6) (by omega)) hlt hN
      right
      refine ⟨u, v, by rw [q1, bdI_s, boI_1], by rw [q2, bdI_s, boI_1], rfl, ?_, ?_, k1, q3, q4, fun x y z => ?_, q5.2⟩
      · rw [q5.1 200 111 (by omega), pI_nf (by decide), pI_at]; exact hm4
      · rw [q5.1 200 112 (by omega), pI_at, pI_nf (by decide)]; exact h26
      · rw [q5.1 x y (by omega)]
        by_cases hx : x = 200
        · subst hx; rw [pI_nf (by omega), pI_nf (by omega)]
        · rw [pI_ne hx, pI_ne hx]
    · rw [if_neg k1] at h0 h1 h2 ⊢
      obtain ⟨kk, hkk⟩ := Int.eq_ofNat_of_zero_le (show 0 ≤ K by omega)
      subst hkk
      rw [Int.toNat_natCast] at h0 h1 h2
      obtain ⟨_, _, s9, n9, b1, b2, b3, b4, _⟩ := hn.2.2.1 kk (by omega)
      rw [b2, b3] at h0 h1 h2
      rw [if_neg (by
        rw [h0, h1, h2]
        have : s9 = 0 ∨ s9 = 1 ∨ s9 = 2 := by omega
        rcases this with rfl | rfl | rfl
        · rw [if_pos rfl]; omega
        · rw [if_pos (show ((1 : Nat) : Int) = ((1 : Nat) : Int) from rfl)]; omega
        · rw [if_pos (show ((2 : Nat) : Int) = ((2 : Nat) : Int) from rfl)]; omega)]
      exact Or.inl ⟨3, by omega, by rw [c_wrong, bdI_s, boI_0], by rw [s_wrong, bdI_s, boI_0]⟩
  · have hn38 : hk9 ≠ 38 := by
      intro h9
      rcases hq2 with h8 | h8 | h8 | h8 | h8 | h8
      · omega
      · omega
      · omega
      · have := h8.2.2; have := (sgi_neg (c := m.1 200 5)); have := h8.2.1; omega
      · omega
      · omega
    have hr2 : inR (m.1 200 3) := by
      rcases hq2 with h8 | h8 | h8 | h8 | h8 | h8 <;> omega
    rw [lt1_k, hq.1, cmpI_ok (by omega), if_neg hn38, lt1_k, cmpI_ok ⟨hr2, by omega⟩, if_neg h3]
    exact Or.inl ⟨1, by omega, by rw [c_wrong, bdI_s, boI_0], by rw [s_wrong, bdI_s, boI_0]⟩
