/-! reading in lock step: a new name -/
theorem tn_lp {N : Nat} {K4 K5 : St → Option (Int × St)} {t : St} {F : Nat → Int} {i : Int} (h2 : t.1 303 2 = i) (hF : ∀ s, s < 3 → f_X6_find N s 335 12294 i t = some (F s, t) ∧ inR (F s)) (n : Nat) : f_X7_takeNew_L17 N K4 K5 (n + 4) 0 t = if F 0 < 0 ∧ F 1 < 0 ∧ F 2 < 0 then K5 t else K4 t := by
  have hs : ∀ (n x : Nat), x < 3 → f_X7_takeNew_L17 N K4 K5 (n + 1) x t = if F x < 0 then f_X7_takeNew_L17 N K4 K5 n ((x + 1 : Nat) : Int) t else K4 t := by
    intro n x hx
    have hno : f_X0_namesOf N x t = some ((x : Int), t) := by
      unfold f_X0_namesOf
      have : x = 0 ∨ x = 1 ∨ x = 2 := by omega
      rcases this with rfl | rfl | rfl <;> rfl
    have hf := hF x hx
    conv => lhs; unfold f_X7_takeNew_L17
    rw [cmpI_ok (by omega), if_pos (by omega), hno, bdI_s, lt1_k, h2, Int.toNat_natCast, hf.1, bdI_s, cmpI_ok ⟨hf.2, by omega⟩]
    rfl
  rw [show ((0 : Int)) = ((0 : Nat) : Int) from rfl, hs (n + 3) 0 (by omega)]
  by_cases h0 : F 0 < 0
  · rw [if_pos h0, hs (n + 2) 1 (by omega)]
    by_cases h1 : F 1 < 0
    · rw [if_pos h1, hs (n + 1) 2 (by omega)]
      by_cases h3 : F 2 < 0
      · rw [if_pos h3, if_pos ⟨h0, h1, h3⟩]
        conv => lhs; unfold f_X7_takeNew_L17
        rw [cmpI_ok (by omega), if_neg (by decide)]
      · rw [if_neg h3, if_neg (fun q => h3 q.2.2)]
    · rw [if_neg h1, if_neg (fun q => h1 q.2.1)]
  · rw [if_neg h0, if_neg (fun q => h0 q.1)]
/-- a name that nobody has -/
theorem sim_new {N : Nat} {B : Nat → Int} {e mm i a c : Nat} {kp : Int} {t m : St} (h : PR t m B e mm kp i) (hn : NmR t m) (hkp : kp = 0 ∨ kp = 1 ∨ kp = 2) (hc : c ≤ tpm m kp) (hN : 5000 ≤ N) :
    SIM B e mm t m a c (fun u v => tKnd B e (ch B e i) = 2 ∧ v.1 200 111 = ch B e i ∧ v.1 200 112 = ((wnd B e (e - ch B e i) (ch B e i) - ch B e i : Nat) : Int) ∧ fmw (nmb m (fun j => B (ch B e i + j)) (wnd B e (e - ch B e i) (ch B e i) - ch B e i)) (m.1 200 13).toNat 0 = -1 ∧ AT1 B e mm kp i 1000 t m u v) (f_X7_takeNew N t) (f_X12_newName N m) := by
  have hq := tq_of h
  generalize hhk : cKd B e (ch B e i) = hk9 at hq
  have hsr := sgi_rng (m.1 200 5)
  have hq2 := hq.2
  have hmk := h.2.2.1.2.2.2.2.1
  have hm4 := h.2.2.1.2.2.1
  have hr := hq.rng
  unfold f_X7_takeNew f_X12_newName
  by_cases h3 : m.1 200 3 = 2
  · have hn38 : hk9 = 38 := by omega
    have hlt := tq_lt h (by omega)
    rw [hmk] at h3
    have hk := kn_name h3
    have hTK := h.1.1 i (by omega)
    have hfb := fun s (hs : s < 3) => find_both (s := s) hn hs hTK hk.1 hk.2.1 hk.2.2
    obtain ⟨hna, h26⟩ := nm_at (N := N) h hn h3 hN
    have hfd := fun s (hs : s < 3) => fd_at (N := N) (o := s) h hn hs hlt hN
    obtain ⟨n, rfl⟩ : ∃ n, N = n + 4 := ⟨N - 4, by omega⟩
    have hFr : ∀ s, s < 3 → inR (fmw (fdb t s i) (t.1 (312 + s) 2).toNat 0) := by
      intro s hs
      have hnr := fmw_rng (P := fdb t s i) (t.1 (312 + s) 2).toNat 0
      have hns := hn.2.1 s hs
      have hnl := nmL_rng s
      omega
    rw [lt1_k, hq.1, hn38, cmpI_ok (by omega), if_pos rfl, tn_lp (F := fun s => fmw (fdb t s i) (t.1 (312 + s) 2).toNat 0) h.2.2.2.1 (fun s hs => ⟨hfd s hs, hFr s hs⟩) n]
    simp only [lt1_k]
    rw [hmk, h3, cmpI_ok (a := 2) (b := 2) (by omega), if_pos (show (2 : Int) = 2 from rfl), hna, bdI_s]
    have h0 := hfb 0 (by omega)
    have h1 := hfb 1 (by omega)
    have h2 := hfb 2 (by omega)
    dsimp only at h0 h1 h2
    generalize hK : fmw (nmb m (fun j => B (ch B e i + j)) (wnd B e (e - ch B e i) (ch B e i) - ch B e i)) (m.1 200 13).toNat 0 = K at *
    have hKr := fmw_rng (P := nmb m (fun j => B (ch B e i + j)) (wnd B e (e - ch B e i) (ch B e i) - ch B e i)) (m.1 200 13).toNat 0
    rw [hK] at hKr
    have hM13 := hn.1
    rw [cmpI_ok (by omega)]
    by_cases k1 : K = -1
    · rw [if_pos k1] at h0 h1 h2 ⊢
      rw [if_pos (by rw [h0, h1, h2]; decide)]
      have hp := sim_pass (N := n + 4) (a := a) (c := c) (as := 1000) ((h.pm (f := 111) (x := m.1 200 4) (by omega)).pm (f := 112) (x := (pI m 200 111 (m.1 200 4)).1 200 6) (by omega)) hkp hlt (by rw [tpm_p (by omega), tpm_p (by omega)]; exact hc) hN
      have hf2 : FRm m (pI (pI m 200 111 (m.1 200 4)) 200 112 ((pI m 200 111 (m.1 200 4)).1 200 6)) c := (FRm.p (by unfold PFd; omega)).tr (FRm.p (by unfold PFd; omega)) (Nat.le_refl c)
      refine sim_bo ((hp.weak FRh.rf hf2 (Nat.le_refl _) (Nat.le_refl _)).mono (fun u v hh => ⟨rfl, ?_, ?_, k1, ?_⟩))
      · rw [hh.2.2.1.1 200 111 (by omega) (by omega), pI_nf (by decide), pI_at]; exact hm4
      · rw [hh.2.2.1.1 200 112 (by omega) (by omega), pI_at, pI_nf (by decide)]; exact h26
      · refine ⟨hh.1, hC.of hh.2.1, hM.p (f := 111) (x := m.1 200 4) (by omega) (hM.p (f := 112) (x := (pI m 200 111 (m.1 200 4)).1 200 6) (by omega) ?_), ?_⟩
        · have := hM.of hh.2.2.1
          rw [tpm_p (by omega), tpm_p (by omega)] at this
          exact this
        · have := hh.2.2.2
          rw [tpm_p (by omega), tpm_p (by omega)] at this
          exact this
    · rw [if_neg k1] at h0 h1 h2 ⊢
      obtain ⟨kk, hkk⟩ := Int.eq_ofNat_of_zero_le (show 0 ≤ K by omega)
      subst hkk
      rw [Int.toNat_natCast] at h0 h1 h2
      obtain ⟨_, _, s9, n9, b1, b2, b3, b4, _⟩ := hn.2.2.1 kk (by omega)
      rw [b2, b3] at h0 h1 h2
      rw [if_neg (by
        rw [h0, h1, h2]
        have : s9 = 0 ∨ s9 = 1 ∨ s9 = 2 := by omega
        rcases this with rfl | rfl | rfl
        · rw [if_pos rfl]; omega
        · rw [if_pos (show ((1 : Nat) : Int) = ((1 : Nat) : Int) from rfl)]; omega
        · rw [if_pos (show ((2 : Nat) : Int) = ((2 : Nat) : Int) from rfl)]; omega)]
      exact Or.inl (flt_bo (flt_w (n + 4) h (by omega)))
  · have hn38 : hk9 ≠ 38 := by
      intro h9
      rcases hq2 with h8 | h8 | h8 | h8 | h8 | h8
      · omega
      · omega
      · omega
      · have := h8.2.2; have := (sgi_neg (c := m.1 200 5)); have := h8.2.1; omega
      · omega
      · omega
    have hr2 : inR (m.1 200 3) := by
      rcases hq2 with h8 | h8 | h8 | h8 | h8 | h8 <;> omega
    rw [lt1_k, hq.1, cmpI_ok (by omega), if_neg hn38, lt1_k, cmpI_ok ⟨hr2, by omega⟩, if_neg h3]
    exact Or.inl (flt_bo (flt_w N h (by omega)))
