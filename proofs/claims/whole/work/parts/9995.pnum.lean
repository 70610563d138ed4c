/-! reading in lock step: numbers, names -/
def hC (t u : St) : Prop := (∀ a b : Nat, (a ≠ 303 ∨ (6 ≤ b ∧ b ≠ 8 ∧ b ≠ 9)) → (a ≠ 302 ∨ b ≠ 19) → u.1 a b = t.1 a b) ∧ u.2 = t.2
def hM (m v : St) (p : Nat) : Prop := (∀ a b : Nat, (a ≠ 31 ∨ b ≠ p) → (a ≠ 200 ∨ b < 2 ∨ (6 < b ∧ b ≠ 8 ∧ b ≠ 33 ∧ b ≠ 34 ∧ (b < 110 ∨ 113 < b)) ∨ (b = 33 ∧ 6000 ≤ p)) → v.1 a b = m.1 a b) ∧ v.2 = m.2
theorem hC.rf {t : St} : hC t t := ⟨fun _ _ _ _ => rfl, rfl⟩
theorem hC.tr {t u v : St} (h : hC t u) (g : hC u v) : hC t v := ⟨fun a b h1 h2 => (g.1 a b h1 h2).trans (h.1 a b h1 h2), g.2.trans h.2⟩
theorem hC.of {t u : St} (h : sC t u) : hC t u := ⟨fun a b h1 h2 => h.1 a b (by omega) h2, h.2⟩
theorem hM.of {m v : St} {p : Nat} (h : sM m v p) : hM m v p := ⟨fun a b h1 h2 => by
  by_cases h9 : a = 200 ∧ b = 33
  · obtain ⟨rfl, rfl⟩ := h9
    exact h.2.2.2 (by omega)
  · exact h.1 a b h1 (by omega), h.2.1⟩
theorem hC.p {t : St} {f : Nat} {x : Int} (hf : f = 5 ∨ f = 8 ∨ f = 9) : hC t (pI t 303 f x) := ⟨fun a b h1 _ => by
  by_cases ha : a = 303
  · subst ha; rw [pI_nf (by omega)]
  · rw [pI_ne ha], rfl⟩
theorem hM.p {m v : St} {f p : Nat} {x : Int} (hf : f = 8 ∨ (110 ≤ f ∧ f ≤ 113)) (h : hM (pI m 200 f x) v p) : hM m v p := ⟨fun a b h1 h2 => by
  rw [h.1 a b h1 h2]
  by_cases ha : a = 200
  · subst ha; rw [pI_nf (by omega)]
  · rw [pI_ne ha], h.2⟩
theorem FRh.h {t u : St} {a : Nat} (h : hC t u) : FRh t u a := ⟨fun x y h1 h2 _ => h.1 x y (Or.inl h1) (by omega), h.2, by rw [h.1 302 18 (by omega) (by omega)]; omega, by rw [h.1 302 18 (by omega) (by omega)]; omega⟩
theorem FRm.h {m v : St} {c p : Nat} (h : hM m v p) (hp : c ≤ p) : FRm m v c := ⟨fun x y h1 _ h3 => h.1 x y (by omega) (by
  by_cases hx : x = 200
  · subst hx
    rcases h3 with q | q | q
    · exact absurd rfl q
    · unfold PFd at q
      omega
    · omega
  · exact Or.inl hx), h.2⟩
/-- behind a token: both at the next one, the model has kept it -/
def AT1 (B : Nat → Int) (e mm : Nat) (kp : Int) (i : Nat) (as : Int) (t m u v : St) : Prop := PR u v B e mm kp (i + 1) ∧ hC t u ∧ hM m v (tpm m kp) ∧ (kp ≠ 0 → v.1 31 (tpm m kp) = as ∧ tpm v kp = tpm m kp + 1)
theorem TKN.at1 {B : Nat → Int} {e mm i : Nat} {kp as : Int} {t m u v : St} (h : TKN (B := B) (e := e) (mm := mm) kp i as t m u v) : AT1 B e mm kp i as t m u v := ⟨h.1, hC.of h.2.1, hM.of h.2.2.1, h.2.2.2⟩
theorem PR.pt {t m : St} {B : Nat → Int} {e mm i : Nat} {kp : Int} (h : PR t m B e mm kp i) {f : Nat} {x : Int} (hf : 8 ≤ f) : PR (pI t 303 f x) m B e mm kp i := by
  obtain ⟨p1, p2, p3, p4, p5, p6, p7, p8, p9, p10⟩ := h
  refine ⟨p1.eqP eqP.fld, p2, p3, ?_, ?_, ?_, ?_, ?_, ?_, p10⟩
  · rw [pI_nf (by omega)]; exact p4
  · rw [pI_nf (by omega)]; exact p5
  · rw [pI_nf (by omega)]; exact p6
  · rw [pI_nf (by omega), pI_nf (by omega)]; exact p7
  · rw [pI_nf (by omega)]; exact p8
  · rw [pI_ne (by decide)]; exact p9
theorem PR.pm {t m : St} {B : Nat → Int} {e mm i : Nat} {kp : Int} (h : PR t m B e mm kp i) {f : Nat} {x : Int} (hf : 110 ≤ f) : PR t (pI m 200 f x) B e mm kp i := by
  obtain ⟨p1, p2, p3, p4, p5, p6, p7, p8, p9, p10⟩ := h
  refine ⟨p1, p2, p3.of (fun b h1 h2 => by rw [pI_nf (by omega)]) (by rw [pI_ne (by decide)]), p4, p5, p6, ?_, ?_, ?_, ?_⟩
  · rw [pI_nf (by omega), pI_nf (by omega)]; exact p7
  · rw [pI_nf (by omega)]; exact p8
  · rw [pI_nf (by omega)]; exact p9
  · rw [pI_nf (by omega)]; exact p10
theorem tpm_p {m : St} {kp x : Int} {f : Nat} (hf : f = 8 ∨ 110 ≤ f) : tpm (pI m 200 f x) kp = tpm m kp := by
  unfold tpm; rw [pI_nf (by omega), pI_nf (by omega)]
/-- a number -/
theorem sim_num {N : Nat} {B : Nat → Int} {e mm i a c : Nat} {kp lo hi : Int} {t m : St} (h : PR t m B e mm kp i) (hkp : kp = 0 ∨ kp = 1 ∨ kp = 2) (hlo : inR lo) (hhi : inR hi) (hc : c ≤ tpm m kp) (hN : 5000 ≤ N) :
    SIM B e mm t m a c (fun u v => ∃ x : Int, (lo ≤ x ∧ x ≤ hi ∧ -99999 ≤ x ∧ x ≤ 99999) ∧ u.1 303 8 = x ∧ v.1 200 110 = x ∧ AT1 B e mm kp i (1000 + x) t m u v) (f_X7_takeNumber N lo hi t) (f_X12_number N lo hi m) := by
  have hq := tq_of h
  generalize hhk : cKd B e (ch B e i) = hk9 at hq
  have hsr := sgi_rng (m.1 200 5)
  unfold f_X7_takeNumber f_X12_number f_X7_numberFault
  have hq2 := hq.2
  by_cases h3 : m.1 200 3 = 3
  · have hn : hk9 = 39 ∧ t.1 303 4 = m.1 200 5 ∧ -99999 ≤ m.1 200 5 ∧ m.1 200 5 ≤ 99999 := by
      rcases hq2 with h9 | h9 | h9 | h9 | h9 | h9
      · omega
      · omega
      · exact h9.2
      · omega
      · omega
      · omega
    generalize hx : m.1 200 5 = x at *
    simp only [lt1_k, pI_at]
    rw [hq.1, hn.1, cmpI_ok (by omega), if_pos rfl, hn.2.1, cmpI_ok ⟨by omega, hlo⟩, cmpI_ok ⟨by omega, hhi⟩, h3, cmpI_ok (by omega), if_pos rfl, s_in ⟨by omega, hlo, hhi⟩, bdI_s, cmpI_ok (by split <;> omega), hx]
    have hbad : SIM B e mm t m a c (fun u v => ∃ x : Int, (lo ≤ x ∧ x ≤ hi ∧ -99999 ≤ x ∧ x ≤ 99999) ∧ u.1 303 8 = x ∧ v.1 200 110 = x ∧ AT1 B e mm kp i (1000 + x) t m u v) (bdI (f_X7_wrong N 4 (pI t 303 8 x)) fun v4 t3 => boI v4 (some (v4, t3))) (bdI (f_X12_wrong N 4 m) fun v11 t10 => boI v11 (some (v11, t10))) := by
      left
      refine flt_bo ⟨_, _, c_wrong, s_wrong, FR_of (h.pt (by omega)) (by omega), FRh.p.tr FRh.p (Nat.le_refl _), FRm.p (by unfold PFd; omega)⟩
    by_cases g1 : x < lo
    · rw [if_pos g1, bdI_s, cmpI_ok (by omega), if_neg (by decide : ¬ (4 : Int) = 0), if_neg (show ¬ (lo ≤ x ∧ x ≤ hi) by omega), if_pos rfl]
      exact hbad
    · rw [if_neg g1]
      by_cases g2 : hi < x
      · rw [if_pos g2, bdI_s, cmpI_ok (by omega), if_neg (by decide : ¬ (4 : Int) = 0), if_neg (show ¬ (lo ≤ x ∧ x ≤ hi) by omega), if_pos rfl]
        exact hbad
      · rw [if_neg g2, bdI_s, cmpI_ok (by omega), if_pos rfl, if_pos (show lo ≤ x ∧ x ≤ hi by omega), if_neg (by decide : ¬ (1 : Int) = 0)]
        have e5 : (pI m 200 110 x).1 200 5 = x := by rw [pI_nf (by decide)]; exact hx
        rw [e5]
        have hp := sim_pass (N := N) (a := a) (c := c) (as := 1000 + x) ((h.pt (f := 8) (x := x) (by omega)).pm (f := 110) (x := x) (by omega)) hkp (tq_lt h (by omega)) (by rw [tpm_p (by omega)]; exact hc) hN
        refine sim_bo ((hp.weak FRh.p (FRm.p (by unfold PFd; omega)) (Nat.le_refl _) (Nat.le_refl _)).mono (fun u v hh => ⟨x, by omega, ?_, ?_, ?_⟩))
        · rw [hh.2.1.1 303 8 (by omega) (by omega), pI_at]
        · rw [hh.2.2.1.1 200 110 (by omega) (by omega), pI_at]
        · refine ⟨hh.1, (hC.p (by omega)).tr (hC.of hh.2.1), hM.p (f := 110) (x := x) (by omega) ?_, ?_⟩
          · have := hM.of hh.2.2.1
            rw [tpm_p (by omega)] at this
            exact this
          · have := hh.2.2.2
            rw [tpm_p (by omega)] at this
            exact this
  · have hn : hk9 ≠ 39 := by
      intro h9
      rcases hq2 with h8 | h8 | h8 | h8 | h8 | h8
      · omega
      · omega
      · omega
      · have h7 := h8.2.2; have h5 := (sgi_neg (c := m.1 200 5)); have h4 := h8.2.1; omega
      · omega
      · omega
    have hr : inR hk9 := by omega
    have hr2 : inR (m.1 200 3) := by omega
    rw [lt1_k, hq.1, cmpI_ok ⟨hr, by omega⟩, if_neg hn, bdI_s, cmpI_ok (by omega), if_neg (by decide), lt1_k, cmpI_ok ⟨hr2, by omega⟩, if_neg h3]
    exact Or.inl (flt_bo (flt_w N h (by omega)))
/-! names -/
theorem kn_name {B : Nat → Int} {e q : Nat} (h : tKnd B e q = 2) : q < e ∧ isLt (B q) ∧ wnd B e (e - q) q - q ≤ 24 := by
  unfold tKnd at h
  by_cases hq : q < e
  · rw [if_pos hq] at h
    by_cases hl : isLt (B q)
    · rw [if_pos hl] at h
      refine ⟨hq, hl, ?_⟩
      apply Classical.byContradiction
      intro h9
      rw [if_pos (by omega)] at h; omega
    · rw [if_neg hl] at h
      exfalso
      revert h
      split
      · split <;> intro h <;> omega
      · split <;> intro h <;> omega
  · rw [if_neg hq] at h; omega
theorem NmR.ok {t m : St} (h : NmR t m) : nmOK m := ⟨h.1, fun k hk => ⟨(h.2.2.1 k hk).1, (h.2.2.1 k hk).2.1⟩⟩
/-- the model's name at a token that is one -/
theorem nm_at {N : Nat} {t m : St} {B : Nat → Int} {e mm i : Nat} {kp : Int} (h : PR t m B e mm kp i) (hn : NmR t m) (h2 : tKnd B e (ch B e i) = 2) (hN : 5000 ≤ N) :
    f_X12_nameAt N m = some (fmw (nmb m (fun j => B (ch B e i + j)) (wnd B e (e - ch B e i) (ch B e i) - ch B e i)) (m.1 200 13).toNat 0, m) ∧ m.1 200 6 = ((wnd B e (e - ch B e i) (ch B e i) - ch B e i : Nat) : Int) := by
  have hk := kn_name h2
  obtain ⟨p1, p2, p3, _⟩ := h
  obtain ⟨a1, a2, a3, a4, a5⟩ := p3.2.2
  generalize hq : ch B e i = q at *
  have hw := wnd_le (B := B) (e := e) (e - q) q (by omega)
  have he := p3.1.2.1
  have h6 := a5 hk.1 hk.2.1
  refine ⟨?_, h6⟩
  have hb : ∀ j, j < wnd B e (e - q) q - q → m.1 0 (q + j) = B (q + j) := by
    intro j hj
    have h1 := p3.1.2.2 (q + j) (by omega)
    have h3 := p3.2.1 (q + j) (by omega)
    have h4 := wnd_wc (B := B) (e := e) (e - q) q (q + j) (by omega) (by omega)
    unfold isWc at h4
    omega
  rw [s_nameAt (L := wnd B e (e - q) q - q) (p := q) (M := (m.1 200 13).toNat) h6 a1 (by omega) hk.2.2 (fun j hj => by have := p3.2.1 (q + j) (by omega); omega) (by have := hn.1; omega) hn.ok (by omega)]
  congr 2
  refine fmw_cong _ _ (fun k _ hk2 => ?_)
  apply Bool.eq_iff_iff.mpr
  rw [nmb_nmt, nmb_nmt]
  unfold nmt
  constructor
  · intro g; exact ⟨g.1, fun j hj => (g.2 j hj).trans (hb j hj)⟩
  · intro g; exact ⟨g.1, fun j hj => (g.2 j hj).trans (hb j hj).symm⟩
theorem fd_at {N : Nat} {t m : St} {B : Nat → Int} {e mm i o : Nat} {kp : Int} (h : PR t m B e mm kp i) (hn : NmR t m) (ho : o < 3) (hi : i < mm) (hN : 5000 ≤ N) : f_X6_find N o 335 12294 i t = some (fmw (fdb t o i) (t.1 (312 + o) 2).toNat 0, t) := by
  have h2 := hn.2.1 o ho
  have h3 := h.1.2.2.2.2.2
  exact s_find (M := (t.1 (312 + o) 2).toNat) (by omega) (by omega) (by omega) (by omega)
/-- a name that is known -/
theorem sim_known {N : Nat} {B : Nat → Int} {e mm i a c o : Nat} {kp : Int} {t m : St} (h : PR t m B e mm kp i) (hn : NmR t m) (ho : o < 3) (hkp : kp = 0 ∨ kp = 1 ∨ kp = 2) (hc : c ≤ tpm m kp) (hN : 5000 ≤ N) :
    SIM B e mm t m a c (fun u v => ∃ x : Nat, (x : Int) < t.1 (312 + o) 2 ∧ u.1 303 9 = x ∧ v.1 200 113 = x ∧ AT1 B e mm kp i ((2000 + 1000 * (o : Int)) + x) t m u v) (f_X7_takeKnown N o t) (f_X12_knownName N o m) := by
  have hq := tq_of h
  generalize hhk : cKd B e (ch B e i) = hk9 at hq
  have hsr := sgi_rng (m.1 200 5)
  have hq2 := hq.2
  have hmk := h.2.2.1.2.2.2.2.1
  unfold f_X7_takeKnown f_X12_knownName
  by_cases h3 : m.1 200 3 = 2
  · have hn38 : hk9 = 38 := by omega
    have hlt := tq_lt h (by omega)
    rw [hmk] at h3
    have hk := kn_name h3
    have hTK := h.1.1 i (by omega)
    have hfb := find_both (s := o) hn ho hTK hk.1 hk.2.1 hk.2.2
    obtain ⟨hna, _⟩ := nm_at (N := N) h hn h3 hN
    have hfd := fd_at (N := N) h hn ho hlt hN
    have hnr := fmw_rng (P := fdb t o i) (t.1 (312 + o) 2).toNat 0
    have hns := hn.2.1 o ho
    have hnl := nmL_rng o
    simp only [lt1_k, jn1_k]
    rw [hq.1, hn38, cmpI_ok (by omega), if_pos rfl, h.2.2.2.1, hfd, bdI_s, hmk, h3, cmpI_ok (a := 2) (b := 2) (by omega), if_pos (show (2 : Int) = 2 from rfl), hna, bdI_s]
    generalize hF : fmw (fdb t o i) (t.1 (312 + o) 2).toNat 0 = F at *
    generalize hK : fmw (nmb m (fun j => B (ch B e i + j)) (wnd B e (e - ch B e i) (ch B e i) - ch B e i)) (m.1 200 13).toNat 0 = K at *
    dsimp only at hfb
    have hKr := fmw_rng (P := nmb m (fun j => B (ch B e i + j)) (wnd B e (e - ch B e i) (ch B e i) - ch B e i)) (m.1 200 13).toNat 0
    rw [hK] at hKr
    have hM13 := hn.1
    have hbad : SIM B e mm t m a c (fun u v => ∃ x : Nat, (x : Int) < t.1 (312 + o) 2 ∧ u.1 303 9 = x ∧ v.1 200 113 = x ∧ AT1 B e mm kp i ((2000 + 1000 * (o : Int)) + x) t m u v) (bdI (f_X7_wrong N 2 (pI t 303 9 F)) fun v10 t9 => boI v10 (some (v10, t9))) (bdI (f_X12_wrong N 2 m) fun v7 t6 => boI v7 (some (v7, t6))) := by
      left
      exact flt_bo ⟨_, _, c_wrong, s_wrong, FR_of (h.pt (by omega)) (by omega), FRh.p.tr FRh.p (Nat.le_refl _), FRm.p (by unfold PFd; omega)⟩
    rw [pI_at, cmpI_ok (by omega), cmpI_ok (by omega)]
    by_cases k1 : K = -1
    · rw [if_pos k1] at hfb ⊢
      rw [if_pos (by omega)]
      exact hbad
    · rw [if_neg k1] at hfb ⊢
      obtain ⟨kk, hkk⟩ := Int.eq_ofNat_of_zero_le (show 0 ≤ K by omega)
      subst hkk
      rw [Int.toNat_natCast] at hfb ⊢
      obtain ⟨_, _, s9, n9, b1, b2, b3, b4, _⟩ := hn.2.2.1 kk (by omega)
      rw [ixI_ok (by omega), b2, cmpI_ok (by omega)]
      rw [b2] at hfb
      by_cases k2 : (s9 : Int) = (o : Int)
      · have hso : s9 = o := by omega
        subst hso
        rw [if_pos rfl] at hfb ⊢
        rw [ixI_ok (by omega), b3, pI_at]
        rw [b3] at hfb
        rw [if_neg (by omega), hfb]
        have hp : ∀ as : Int, SIM B e mm t m a c (fun u v => u.1 303 9 = n9 ∧ v.1 200 113 = n9 ∧ AT1 B e mm kp i as t m u v) (bdI (f_X7_pass N (pI t 303 9 n9)) fun v8 t7 => boI v8 (some (v8, t7))) (bdI (f_X12_takes N as (pI m 200 113 n9)) fun v16 t15 => boI v16 (some (v16, t15))) := by
          intro as
          have hp := sim_pass (N := N) (a := a) (c := c) (as := as) ((h.pt (f := 9) (x := n9) (by omega)).pm (f := 113) (x := n9) (by omega)) hkp hlt (by rw [tpm_p (by omega)]; exact hc) hN
          refine sim_bo ((hp.weak FRh.p (FRm.p (by unfold PFd; omega)) (Nat.le_refl _) (Nat.le_refl _)).mono (fun u v hh => ⟨?_, ?_, ?_⟩))
          · rw [hh.2.1.1 303 9 (by omega) (by omega), pI_at]
          · rw [hh.2.2.1.1 200 113 (by omega) (by omega), pI_at]
          · refine ⟨hh.1, (hC.p (by omega)).tr (hC.of hh.2.1), hM.p (f := 113) (x := (n9 : Int)) (by omega) ?_, ?_⟩
            · have := hM.of hh.2.2.1
              rw [tpm_p (by omega)] at this
              exact this
            · have := hh.2.2.2
              rw [tpm_p (by omega)] at this
              exact this
        have hfin : ∀ as : Int, as = (2000 + 1000 * (s9 : Int)) + n9 → SIM B e mm t m a c (fun u v => ∃ x : Nat, (x : Int) < t.1 (312 + s9) 2 ∧ u.1 303 9 = x ∧ v.1 200 113 = x ∧ AT1 B e mm kp i ((2000 + 1000 * (s9 : Int)) + x) t m u v) (bdI (f_X7_pass N (pI t 303 9 n9)) fun v8 t7 => boI v8 (some (v8, t7))) (bdI (f_X12_takes N as (pI m 200 113 n9)) fun v16 t15 => boI v16 (some (v16, t15))) := by
          intro as has
          subst has
          exact (hp _).mono (fun u v hh => ⟨n9, b4, hh.1, hh.2.1, hh.2.2⟩)
        rw [cmpI_ok (by omega), cmpI_ok (by omega)]
        have : s9 = 0 ∨ s9 = 1 ∨ s9 = 2 := by omega
        rcases this with rfl | rfl | rfl
        · rw [if_pos (show ((0 : Nat) : Int) = 0 from rfl)]; exact hfin _ (by omega)
        · rw [if_neg (by decide), if_pos (show ((1 : Nat) : Int) = 1 from rfl)]; exact hfin _ (by omega)
        · rw [if_neg (by decide), if_neg (by decide)]; exact hfin _ (by omega)
      · rw [if_neg k2] at hfb ⊢
        rw [if_pos (by omega)]
        exact hbad
  · have hn38 : hk9 ≠ 38 := by
      intro h9
      rcases hq2 with h8 | h8 | h8 | h8 | h8 | h8
      · omega
      · omega
      · omega
      · have := h8.2.2; have := (sgi_neg (c := m.1 200 5)); have := h8.2.1; omega
      · omega
      · omega
    have hr : inR hk9 := by omega
    have hr2 : inR (m.1 200 3) := by omega
    rw [lt1_k, hq.1, cmpI_ok ⟨hr, by omega⟩, if_neg hn38, lt1_k, cmpI_ok ⟨hr2, by omega⟩, if_neg h3]
    exact Or.inl (flt_bo (flt_w N h (by omega)))
