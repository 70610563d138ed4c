/-! reading in lock step when nobody keeps tokens: one frame for all -/
def H0 (t u : St) : Prop := (∀ x y : Nat, x ≠ 303 → (x ≠ 302 ∨ y ≠ 19) → u.1 x y = t.1 x y) ∧ u.2 = t.2
def M0 (m v : St) : Prop := (∀ x y : Nat, (x ≠ 200 ∨ ((y < 2 ∨ 6 < y) ∧ y ≠ 8 ∧ (y < 110 ∨ 113 < y))) → v.1 x y = m.1 x y) ∧ v.2 = m.2
theorem H0.rf {t : St} : H0 t t := ⟨fun _ _ _ _ => rfl, rfl⟩
theorem M0.rf {t : St} : M0 t t := ⟨fun _ _ _ => rfl, rfl⟩
theorem H0.tr {t u v : St} (h : H0 t u) (g : H0 u v) : H0 t v := ⟨fun x y z1 z2 => (g.1 x y z1 z2).trans (h.1 x y z1 z2), g.2.trans h.2⟩
theorem M0.tr {t u v : St} (h : M0 t u) (g : M0 u v) : M0 t v := ⟨fun x y z => (g.1 x y z).trans (h.1 x y z), g.2.trans h.2⟩
theorem H0.c {t u : St} (h : sC t u) : H0 t u := ⟨fun x y z1 z2 => h.1 x y (Or.inl z1) z2, h.2⟩
theorem M0.c {t u : St} (h : eqF t u) : M0 t u := ⟨fun x y z => h.1 x y (by omega), h.2⟩
theorem H0.p {t : St} {y : Nat} {v : Int} : H0 t (pI t 303 y v) := ⟨fun x z h1 _ => by rw [pI_ne h1], rfl⟩
theorem M0.p {t : St} {y : Nat} {v : Int} (hy : (2 ≤ y ∧ y ≤ 6) ∨ y = 8 ∨ (110 ≤ y ∧ y ≤ 113)) : M0 t (pI t 200 y v) := ⟨fun x z h => pI_of (by omega), rfl⟩
section
variable {N : Nat} {B : Nat → Int} {e mm i : Nat} {t m : St}
theorem SIMf.mo {Fr Q Fr2 Q2 : St → St → Prop} {F G : Option (Int × St)} (h : SIMf B e mm Fr Q F G) (g1 : ∀ u v, Fr u v → Fr2 u v) (g2 : ∀ u v, Q u v → Q2 u v) : SIMf B e mm Fr2 Q2 F G := by
  rcases h with ⟨u, v, h1, h2, h3, h4⟩ | ⟨u, v, h1, h2, h3⟩
  · exact Or.inl ⟨u, v, h1, h2, h3, g1 u v h4⟩
  · exact Or.inr ⟨u, v, h1, h2, g2 u v h3⟩
abbrev F00 (t m : St) : St → St → Prop := fun u v => H0 t u ∧ M0 m v
theorem s0_wrong {w : Int} {Q : St → St → Prop} (h : PR t m B e mm 0 i) (hw : 1 ≤ w ∧ w ≤ 7) : SIMf B e mm (F00 t m) Q (f_X7_wrong N w t) (f_X12_wrong N w m) :=
  Or.inl ⟨_, _, c_wrong, s_wrong, FR_of h hw, H0.p, M0.p (by omega)⟩
theorem s0_bo {Fr Q : St → St → Prop} {F G : Option (Int × St)} (h : SIMf B e mm Fr Q F G) : SIMf B e mm Fr Q (bdI F fun x y => boI x (some (x, y))) (bdI G fun x y => boI x (some (x, y))) := by
  rcases h with ⟨u, v, h1, h2, h3⟩ | ⟨u, v, h1, h2, h3⟩
  · exact Or.inl ⟨u, v, by rw [h1, bdI_s, boI_0], by rw [h2, bdI_s, boI_0], h3⟩
  · exact Or.inr ⟨u, v, by rw [h1, bdI_s, boI_1], by rw [h2, bdI_s, boI_1], h3⟩
theorem s0_sign {k : Int} (h : PR t m B e mm 0 i) (hk : isSg k) (hN : 5000 ≤ N) : SIMf B e mm (F00 t m) (fun u v => PR u v B e mm 0 (i + 1) ∧ H0 t u ∧ M0 m v) (f_X7_take N (40 + sgi k) t) (f_X12_sign N k m) := by
  rcases sign0 (N := N) h hk hN with ⟨s1, s2⟩ | ⟨u, v, s1, s2, s3, s4, s5⟩
  · exact Or.inl ⟨_, _, s1, s2, FR_of h (by omega), H0.p, M0.p (by omega)⟩
  · exact Or.inr ⟨u, v, s1, s2, s3, H0.c s4, M0.c s5⟩
theorem s0_key {k : Int} (h : PR t m B e mm 0 i) (hk : 0 ≤ k ∧ k ≤ 37) (hN : 5000 ≤ N) : SIMf B e mm (F00 t m) (fun u v => PR u v B e mm 0 (i + 1) ∧ H0 t u ∧ M0 m v) (f_X7_take N k t) (f_X12_key N k m) := by
  rcases key0 (N := N) h hk hN with ⟨s1, s2⟩ | ⟨u, v, s1, s2, s3, s4, s5⟩
  · exact Or.inl ⟨_, _, s1, s2, FR_of h (by omega), H0.p, M0.p (by omega)⟩
  · exact Or.inr ⟨u, v, s1, s2, s3, H0.c s4, M0.c s5⟩
theorem s0_pass {as : Int} (h : PR t m B e mm 0 i) (hlt : i < mm) (hN : 5000 ≤ N) : SIMf B e mm (F00 t m) (fun u v => PR u v B e mm 0 (i + 1) ∧ sC t u ∧ eqF m v) (f_X7_pass N t) (f_X12_takes N as m) := by
  obtain ⟨u, v, q1, q2, q3, q4, q5⟩ := pass0 (N := N) (as := as) h hlt hN
  exact Or.inr ⟨u, v, q1, q2, q3, q4, q5⟩
/-- a number -/
theorem s0_num {lo hi : Int} (h : PR t m B e mm 0 i) (hlo : inR lo) (hhi : inR hi) (hN : 5000 ≤ N) :
    SIMf B e mm (F00 t m) (fun u v => ∃ x : Int, (lo ≤ x ∧ x ≤ hi) ∧ u.1 303 8 = x ∧ v.1 200 110 = x ∧ PR u v B e mm 0 (i + 1) ∧ H0 t u ∧ M0 m v) (f_X7_takeNumber N lo hi t) (f_X12_number N lo hi m) := by
  have hq := tq_of h
  generalize hhk : cKd B e (ch B e i) = w at hq
  have n3 := hq.n3
  unfold f_X7_takeNumber f_X12_number
  simp only [lt1_k]
  rw [nf_at hq hlo hhi, cmpI_ok (show inR (m.1 200 3) ∧ inR 3 by omega)]
  by_cases h39 : w = 39
  · have hV := n3.2.2 h39
    rw [if_pos h39, if_pos (n3.1.mpr h39), in_k (show inR (m.1 200 5) by omega) hlo hhi, bdI_s]
    generalize hX : m.1 200 5 = X at *
    have hT : PR (pI t 303 8 X) m B e mm 0 i := h.pt (by omega)
    by_cases hv : X < lo ∨ hi < X
    · rw [if_pos hv, if_pos hv, bdI_s, cmpI_ok (a := 4) (b := 0) (by omega), if_neg (show ¬ (4 : Int) = 0 by decide), cmpI_ok (a := 0) (b := 0) (by omega), if_pos (show (0 : Int) = 0 from rfl)]
      exact s0_bo ((s0_wrong hT (by omega)).mo (fun u v q => ⟨H0.p.tr q.1, q.2⟩) (fun _ _ q => q))
    · rw [if_neg hv, if_neg hv, bdI_s, cmpI_ok (a := 0) (b := 0) (by omega), if_pos (show (0 : Int) = 0 from rfl), cmpI_ok (a := 1) (b := 0) (by omega), if_neg (show ¬ (1 : Int) = 0 by decide)]
      have hp := s0_pass (N := N) (as := 1000 + (pI m 200 110 X).1 200 5) (hT.pm (f := 110) (x := X) (by omega)) (tq_lt h (by omega)) hN
      refine s0_bo (hp.mo (fun u v q => ⟨H0.p.tr q.1, (M0.p (by omega)).tr q.2⟩) (fun u v q => ⟨X, by omega, ?_, ?_, q.1, H0.p.tr (H0.c q.2.1), (M0.p (by omega)).tr (M0.c q.2.2)⟩))
      · rw [q.2.1.1 303 8 (by omega) (by omega), pI_at]
      · rw [q.2.2.1 200 110 (by omega), pI_at]
  · rw [if_neg h39, if_neg (fun q => h39 (n3.1.mp q)), bdI_s, cmpI_ok (a := 1) (b := 0) (by omega), if_neg (show ¬ (1 : Int) = 0 by decide)]
    exact s0_bo (s0_wrong h (by omega))
/-- a form that is known -/
theorem s0_known {t' : St} (h : PR t m B e mm 0 i) (h' : PR t' m B e mm 0 i) (hn : NmR t' m) (e1 : t'.1 312 = t.1 312) (e2 : t'.2 = t.2) (hN : 5000 ≤ N) :
    SIMf B e mm (F00 t m) (fun u v => ∃ x : Nat, (x : Int) < t.1 312 2 ∧ u.1 303 9 = x ∧ v.1 200 113 = x ∧ PR u v B e mm 0 (i + 1) ∧ H0 t u ∧ M0 m v) (f_X7_takeKnown N 0 t) (f_X12_knownName N 0 m) := by
  have hq := tq_of h
  generalize hhk : cKd B e (ch B e i) = hk9 at hq
  have hsr := sgi_rng (m.1 200 5)
  have hq2 := hq.2
  have hmk := h.2.2.1.2.2.2.2.1
  have hr := hq.rng
  unfold f_X7_takeKnown f_X12_knownName
  by_cases h3 : m.1 200 3 = 2
  · have hn38 : hk9 = 38 := by omega
    have hlt := tq_lt h (by omega)
    rw [hmk] at h3
    have hk := kn_name h3
    have hTK := h'.1.1 i (by omega)
    have hfb := find_both (s := 0) hn (by omega) hTK hk.1 hk.2.1 hk.2.2
    obtain ⟨hna, _⟩ := nm_at (N := N) h' hn h3 hN
    have efd : fdb t' 0 i = fdb t 0 i := by funext n; unfold fdb; rw [e2]
    have ect : t'.1 (312 + 0) 2 = t.1 (312 + 0) 2 := by rw [show t'.1 (312 + 0) = t.1 (312 + 0) from e1]
    have hnr := fmw_rng (P := fdb t 0 i) (t.1 (312 + 0) 2).toNat 0
    have hns := hn.2.1 0 (by omega)
    rw [efd, ect] at hfb
    rw [ect] at hns
    have hnl := nmL_rng 0
    have hmm := h.1.2.2.2.2.2
    have hfd : f_X6_find N 0 335 12294 i t = some (fmw (fdb t 0 i) (t.1 (312 + 0) 2).toNat 0, t) := s_find (M := (t.1 (312 + 0) 2).toNat) (by omega) (by omega) (by omega) (by omega)
    simp only [lt1_k, jn1_k]
    rw [hq.1, hn38, cmpI_ok (by omega), if_pos rfl, h.2.2.2.1, hfd, bdI_s, hmk, h3, cmpI_ok (a := 2) (b := 2) (by omega), if_pos (show (2 : Int) = 2 from rfl), hna, bdI_s]
    generalize hF : fmw (fdb t 0 i) (t.1 (312 + 0) 2).toNat 0 = F at *
    generalize hK : fmw (nmb m (fun j => B (ch B e i + j)) (wnd B e (e - ch B e i) (ch B e i) - ch B e i)) (m.1 200 13).toNat 0 = K at *
    dsimp only at hfb
    have hKr := fmw_rng (P := nmb m (fun j => B (ch B e i + j)) (wnd B e (e - ch B e i) (ch B e i) - ch B e i)) (m.1 200 13).toNat 0
    rw [hK] at hKr
    have hM13 := hn.1
    have hT : PR (pI t 303 9 F) m B e mm 0 i := h.pt (by omega)
    have hbad : SIMf B e mm (F00 t m) (fun u v => ∃ x : Nat, (x : Int) < t.1 312 2 ∧ u.1 303 9 = x ∧ v.1 200 113 = x ∧ PR u v B e mm 0 (i + 1) ∧ H0 t u ∧ M0 m v) (bdI (f_X7_wrong N 2 (pI t 303 9 F)) fun v10 t9 => boI v10 (some (v10, t9))) (bdI (f_X12_wrong N 2 m) fun v7 t6 => boI v7 (some (v7, t6))) :=
      s0_bo ((s0_wrong hT (by omega)).mo (fun u v q => ⟨H0.p.tr q.1, q.2⟩) (fun _ _ q => q))
    rw [pI_at, cmpI_ok (by omega), cmpI_ok (by omega)]
    by_cases k1 : K = -1
    · rw [if_pos k1] at hfb ⊢
      rw [if_pos (by omega)]
      exact hbad
    · rw [if_neg k1] at hfb ⊢
      obtain ⟨kk, hkk⟩ := Int.eq_ofNat_of_zero_le (show 0 ≤ K by omega)
      subst hkk
      rw [Int.toNat_natCast] at hfb ⊢
      obtain ⟨_, _, s9, n9, b1, b2, b3, b4, _⟩ := hn.2.2.1 kk (by omega)
      rw [ixI_ok (by omega), b2, cmpI_ok (by omega)]
      rw [b2] at hfb
      by_cases k2 : (s9 : Int) = ((0 : Nat) : Int)
      · have hso : s9 = 0 := by omega
        subst hso
        rw [ect] at b4
        rw [if_pos rfl] at hfb
        rw [if_pos (show ((0 : Nat) : Int) = 0 from rfl), ixI_ok (by omega), b3, pI_at]
        rw [b3] at hfb
        rw [if_neg (by omega), hfb]
        rw [cmpI_ok (by omega), if_pos trivial]
        rw [hfb] at hT
        have hp := s0_pass (N := N) (as := 2000 + (n9 : Int)) (hT.pm (f := 113) (x := (n9 : Int)) (by omega)) hlt hN
        refine s0_bo (hp.mo (fun u v q => ⟨H0.p.tr q.1, (M0.p (by omega)).tr q.2⟩) (fun u v q => ⟨n9, b4, ?_, ?_, q.1, H0.p.tr (H0.c q.2.1), (M0.p (by omega)).tr (M0.c q.2.2)⟩))
        · rw [q.2.1.1 303 9 (by omega) (by omega), pI_at]
        · rw [q.2.2.1 200 113 (by omega), pI_at]
      · rw [if_neg k2] at hfb
        rw [if_neg (show ¬ (s9 : Int) = 0 from fun q => k2 q), if_pos (by omega)]
        exact hbad
  · have hn38 : hk9 ≠ 38 := by
      intro h9
      rcases hq2 with h8 | h8 | h8 | h8 | h8 | h8
      · omega
      · omega
      · omega
      · have := h8.2.2; have := (sgi_neg (c := m.1 200 5)); have := h8.2.1; omega
      · omega
      · omega
    have hr2 : inR (m.1 200 3) := by
      rcases hq2 with h8 | h8 | h8 | h8 | h8 | h8 <;> omega
    rw [lt1_k, hq.1, cmpI_ok (by omega), if_neg hn38, lt1_k, cmpI_ok ⟨hr2, by omega⟩, if_neg h3]
    exact s0_bo (s0_wrong h (by omega))
end
