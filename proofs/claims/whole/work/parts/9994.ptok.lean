/-! reading in lock step: tokens -/
/-- the token at hand on both sides: hall's kind hk -/
def TQk (t m : St) (hk : Int) : Prop := t.1 303 3 = hk ∧
  ((m.1 200 3 = 1 ∧ m.1 200 5 = hk ∧ 0 ≤ hk ∧ hk ≤ 37) ∨ (m.1 200 3 = 2 ∧ hk = 38) ∨ (m.1 200 3 = 3 ∧ hk = 39 ∧ t.1 303 4 = m.1 200 5 ∧ -99999 ≤ m.1 200 5 ∧ m.1 200 5 ≤ 99999) ∨
   (m.1 200 3 = 4 ∧ isSg (m.1 200 5) ∧ hk = 40 + sgi (m.1 200 5)) ∨ (m.1 200 3 = 0 ∧ hk = 48) ∨ (m.1 200 3 = 5 ∧ hk = 49))
theorem tNum_rng {B : Nat → Int} {e q : Nat} (h : isDg (B q) ∨ B q = 45) : 0 ≤ (tNum B e q).2.1 ∧ (tNum B e q).2.1 ≤ 99999 := by
  unfold tNum
  by_cases h45 : B q = 45
  · rw [if_pos h45, if_pos h45]
    exact nvf_v _ _ 0 0 0 (by omega) (by omega) (by omega) (by intro; omega) (by intro; omega) (by intro; omega) (by intro; omega) (by intro; omega) (by intro; omega)
  · rw [if_neg h45, if_neg h45]
    have hd : isDg (B q) := h.elim id (fun q => absurd q h45)
    exact nvf_v _ _ 1 _ 9 (by omega) (by omega) (by omega) (by intro; omega) (by intro; omega) (by intro; omega) (by intro; omega) (by intro; omega) (by intro; omega)
theorem tq_of {t m : St} {B : Nat → Int} {e mm i : Nat} {kp : Int} (h : PR t m B e mm kp i) : TQk t m (cKd B e (ch B e i)) := by
  obtain ⟨p1, p2, p3, p4, p5, p6, p7⟩ := h
  obtain ⟨a1, a2, a3, a4, a5⟩ := p3.2.2
  refine ⟨p5, ?_⟩
  rw [cKd_ck]
  generalize hq : ch B e i = q at *
  by_cases hqe : q < e
  · have hv := a4 hqe
    by_cases hl : isLt (B q)
    · have hK : tKnd B e q = if 24 < wnd B e (e - q) q - q then 5 else if tKey B e q = -1 then 2 else 1 := by unfold tKnd; rw [if_pos hqe, if_pos hl]
      have hV : tVal B e q = tKey B e q := by unfold tVal; rw [if_pos hl]
      by_cases h24 : 24 < wnd B e (e - q) q - q
      · rw [if_pos h24] at hK
        rw [a3, hK, ck_5]; right; right; right; right; right; exact ⟨rfl, rfl⟩
      · rw [if_neg h24] at hK
        by_cases hk : tKey B e q = -1
        · rw [if_pos hk] at hK
          rw [a3, hK, ck_2]; right; left; exact ⟨rfl, rfl⟩
        · rw [if_neg hk] at hK
          have hr := fmw_rng (P := kmb (fun j => B (q + j)) (wnd B e (e - q) q - q)) 38 0
          have hr2 : 0 ≤ tKey B e q ∧ tKey B e q < 38 := by
            have : tKey B e q = fmw (kmb (fun j => B (q + j)) (wnd B e (e - q) q - q)) 38 0 := rfl
            omega
          rw [a3, hK, ck_1, hv, hV]; left; exact ⟨rfl, rfl, by omega, by omega⟩
    · by_cases hn : isDg (B q) ∨ B q = 45
      · have hK : tKnd B e q = if 1 ≤ (tNum B e q).1 ∧ (tNum B e q).1 ≤ 5 then 3 else 5 := by unfold tKnd; rw [if_pos hqe, if_neg hl, if_pos hn]
        by_cases hg : 1 ≤ (tNum B e q).1 ∧ (tNum B e q).1 ≤ 5
        · rw [if_pos hg] at hK
          have hnr := tNum_rng (e := e) hn
          have hcv : cVl B e q = tVal B e q := by unfold cVl; rw [if_pos ⟨hqe, hl, hn⟩]
          have hvr : -99999 ≤ tVal B e q ∧ tVal B e q ≤ 99999 := by
            unfold tVal
            rw [if_neg hl, if_pos hn]
            split <;> omega
          rw [a3, hK, ck_3, p6, hcv, hv]
          right; right; left
          exact ⟨rfl, rfl, rfl, hvr.1, hvr.2⟩
        · rw [if_neg hg] at hK
          rw [a3, hK, ck_5]; right; right; right; right; right; exact ⟨rfl, rfl⟩
      · have hK : tKnd B e q = if isSg (B q) then 4 else 5 := by unfold tKnd; rw [if_pos hqe, if_neg hl, if_neg hn]
        have hV : tVal B e q = B q := by unfold tVal; rw [if_neg hl, if_neg hn]
        by_cases hs : isSg (B q)
        · rw [if_pos hs] at hK
          rw [a3, hK, ck_4, hv, hV]; right; right; right; left; exact ⟨rfl, hs, rfl⟩
        · rw [if_neg hs] at hK
          rw [a3, hK, ck_5]; right; right; right; right; right; exact ⟨rfl, rfl⟩
  · have hK : tKnd B e q = 0 := by unfold tKnd; rw [if_neg hqe]
    rw [a3, hK, ck_0]; right; right; right; right; left; exact ⟨rfl, rfl⟩
/-- a real token is not the last one -/
theorem tq_lt {t m : St} {B : Nat → Int} {e mm i : Nat} {kp : Int} (h : PR t m B e mm kp i) (hk : cKd B e (ch B e i) < 48) : i < mm := by
  obtain ⟨p1, p2, p3⟩ := h
  apply Classical.byContradiction
  intro h9
  have : i = mm := by omega
  subst this
  rw [cKd_ck] at hk
  rcases p1.2.2.1 with h1 | h1
  · have : tKnd B e (ch B e i) = 0 := by unfold tKnd; rw [if_neg (by omega)]
    rw [this, ck_0] at hk; omega
  · rw [h1.2, ck_5] at hk; omega
theorem sgi_inj {a b : Int} (ha : isSg a) (hb : isSg b) (h : sgi a = sgi b) : a = b := by
  unfold isSg at ha hb
  rcases ha with rfl | rfl | rfl | rfl | rfl | rfl | rfl | rfl <;> rcases hb with rfl | rfl | rfl | rfl | rfl | rfl | rfl | rfl <;> first | rfl | (exfalso; revert h; decide)
theorem k_isKey {N : Nat} {t m : St} {hk k : Int} (h : TQk t m hk) (hk2 : 0 ≤ k ∧ k ≤ 37) : f_X12_isKey N k m = some ((if hk = k then 1 else 0), m) := by
  unfold f_X12_isKey
  have h0 := h.2
  have hsr := sgi_rng (m.1 200 5)
  simp only [lt1_k]
  rcases h0 with ⟨a1, a2, a3⟩ | ⟨a1, a2⟩ | ⟨a1, a2, a3⟩ | ⟨a1, a2, a3⟩ | ⟨a1, a2⟩ | ⟨a1, a2⟩
  · rw [a1, cmpI_ok (by omega), if_pos rfl, a2, cmpI_ok (by omega), boI_0, boI_1]; split <;> rfl
  · rw [a1, cmpI_ok (by omega), if_neg (by decide), boI_0, if_neg (by omega)]
  · rw [a1, cmpI_ok (by omega), if_neg (by decide), boI_0, if_neg (by omega)]
  · have : 0 ≤ sgi (m.1 200 5) := by
      have := (sgi_neg (c := m.1 200 5)); omega
    rw [a1, cmpI_ok (by omega), if_neg (by decide), boI_0, if_neg (by omega)]
  · rw [a1, cmpI_ok (by omega), if_neg (by decide), boI_0, if_neg (by omega)]
  · rw [a1, cmpI_ok (by omega), if_neg (by decide), boI_0, if_neg (by omega)]
theorem k_isSign {N : Nat} {t m : St} {hk c : Int} (h : TQk t m hk) (hc : isSg c) : f_X12_isSign N c m = some ((if hk = 40 + sgi c then 1 else 0), m) := by
  unfold f_X12_isSign
  have h0 := h.2
  have hsr := sgi_rng c
  have hs0 : 0 ≤ sgi c := by have := (sgi_neg (c := c)); omega
  simp only [lt1_k]
  rcases h0 with ⟨a1, a2, a3⟩ | ⟨a1, a2⟩ | ⟨a1, a2, a3⟩ | ⟨a1, a2, a3⟩ | ⟨a1, a2⟩ | ⟨a1, a2⟩
  · rw [a1, cmpI_ok (by omega), if_neg (by decide), boI_0, if_neg (by omega)]
  · rw [a1, cmpI_ok (by omega), if_neg (by decide), boI_0, if_neg (by omega)]
  · rw [a1, cmpI_ok (by omega), if_neg (by decide), boI_0, if_neg (by omega)]
  · rw [a1, cmpI_ok (by omega), if_pos rfl, cmpI_ok (by omega), boI_0, boI_1]
    by_cases h9 : m.1 200 5 = c
    · rw [if_pos h9, if_pos (by rw [a3, h9])]
    · rw [if_neg h9, if_neg (fun q => h9 (sgi_inj a2 hc (by omega)))]
  · rw [a1, cmpI_ok (by omega), if_neg (by decide), boI_0, if_neg (by omega)]
  · rw [a1, cmpI_ok (by omega), if_neg (by decide), boI_0, if_neg (by omega)]
/-- what reading a WHO, a step, a statement leaves: the hall (a: where its code begins), the model (c: its tokens) -/
def FRh (t u : St) (a : Nat) : Prop := (∀ x y : Nat, x ≠ 303 → (x ≠ 302 ∨ (y ≠ 18 ∧ y ≠ 19)) → (x ≠ 363 ∨ y < a) → u.1 x y = t.1 x y) ∧ u.2 = t.2 ∧ t.1 302 18 ≤ u.1 302 18 ∧ (u.1 302 18 ≤ t.1 302 18 ∨ u.1 302 18 ≤ 10098)
def PFd (y : Nat) : Prop := (2 ≤ y ∧ y ≤ 6) ∨ y = 8 ∨ (33 ≤ y ∧ y ≤ 36) ∨ (110 ≤ y ∧ y ≤ 113)
def FRm (m v : St) (c : Nat) : Prop := (∀ x y : Nat, (x ≠ 31 ∨ y < c) → (x ≠ 32 ∨ y < c) → (x ≠ 200 ∨ ¬ PFd y ∨ (y = 33 ∧ 6000 ≤ c)) → v.1 x y = m.1 x y) ∧ v.2 = m.2
theorem FRh.rf {t : St} {a : Nat} : FRh t t a := ⟨fun _ _ _ _ _ => rfl, rfl, Int.le_refl _, Or.inl (Int.le_refl _)⟩
theorem FRm.rf {m : St} {c : Nat} : FRm m m c := ⟨fun _ _ _ _ _ => rfl, rfl⟩
theorem FRh.tr {t u v : St} {a b : Nat} (h : FRh t u a) (g : FRh u v b) (hab : a ≤ b) : FRh t v a := ⟨fun x y h1 h2 h3 => (g.1 x y h1 h2 (by omega)).trans (h.1 x y h1 h2 h3), g.2.1.trans h.2.1, by have := h.2.2; have := g.2.2; omega, by have := h.2.2; have := g.2.2; omega⟩
theorem FRm.tr {m u v : St} {c d : Nat} (h : FRm m u c) (g : FRm u v d) (hcd : c ≤ d) : FRm m v c := ⟨fun x y h1 h2 h3 => (g.1 x y (by omega) (by omega) (h3.imp id (fun q => q.imp id (fun z => ⟨z.1, by omega⟩)))).trans (h.1 x y h1 h2 h3), g.2.trans h.2⟩
theorem FRh.p {t : St} {a y : Nat} {v : Int} : FRh t (pI t 303 y v) a := ⟨fun x z h1 _ _ => by rw [pI_ne h1], rfl, by rw [pI_ne (by decide)]; omega, by rw [pI_ne (by decide)]; omega⟩
theorem FRm.p {m : St} {c y : Nat} {v : Int} (h : PFd y) (h33 : y ≠ 33 := by decide) : FRm m (pI m 200 y v) c := ⟨fun x z _ _ h3 => by
  by_cases hx : x = 200
  · subst hx
    have hzy : z ≠ y := by
      rcases h3 with q | q | q
      · exact absurd rfl q
      · exact fun e9 => q (by rw [e9]; exact h)
      · omega
    rw [pI_nf hzy]
  · rw [pI_ne hx], rfl⟩
theorem FRh.c {t u : St} {a : Nat} (h : sC t u) : FRh t u a := ⟨fun x y h1 h2 _ => h.1 x y (Or.inl h1) (by omega), h.2, by rw [h.1 302 18 (by omega) (by omega)]; omega, by rw [h.1 302 18 (by omega) (by omega)]; omega⟩
theorem FRm.c {m v : St} {c p : Nat} (h : sM m v p) (hp : c ≤ p) : FRm m v c := ⟨fun x y h1 _ h3 => by
  by_cases h9 : x = 200 ∧ y = 33
  · obtain ⟨rfl, rfl⟩ := h9
    rcases h3 with q | q | q
    · exact absurd rfl q
    · exact absurd (by unfold PFd; omega) q
    · exact h.2.2.2 (by omega)
  · refine h.1 x y (by omega) ?_
    by_cases hx : x = 200
    · subst hx
      rcases h3 with q | q | q
      · exact absurd rfl q
      · unfold PFd at q
        omega
      · omega
    · exact Or.inl hx, h.2.1⟩
/-- both have found the same fault -/
def FLT (B : Nat → Int) (e mm : Nat) (t m : St) (a c : Nat) (F G : Option (Int × St)) : Prop := ∃ u v : St, F = some (0, u) ∧ G = some (0, v) ∧ FR u v B e mm ∧ FRh t u a ∧ FRm m v c
/-- both fail, or both go on -/
def SIM (B : Nat → Int) (e mm : Nat) (t m : St) (a c : Nat) (Q : St → St → Prop) (F G : Option (Int × St)) : Prop := FLT B e mm t m a c F G ∨ ∃ u v : St, F = some (1, u) ∧ G = some (1, v) ∧ Q u v
section
variable {B : Nat → Int} {e mm : Nat} {t m : St} {a c : Nat}
theorem SIM.bind {Q R : St → St → Prop} {F G : Option (Int × St)} {KF KG : St → Option (Int × St)} (h : SIM B e mm t m a c Q F G) (g : ∀ u v, Q u v → SIM B e mm t m a c R (KF u) (KG v)) :
    SIM B e mm t m a c R (bdI F fun x y => cmpI x 0 (if x = 0 then boI 0 (some (0, y)) else KF y)) (bdI G fun x y => cmpI x 0 (if x = 0 then boI 0 (some (0, y)) else KG y)) := by
  rcases h with ⟨u, v, h1, h2, h3⟩ | ⟨u, v, h1, h2, h3⟩
  · left
    refine ⟨u, v, ?_, ?_, h3⟩
    · rw [h1, bdI_s, cmpI_ok (by omega), if_pos rfl, boI_0]
    · rw [h2, bdI_s, cmpI_ok (by omega), if_pos rfl, boI_0]
  · rw [h1, h2, bdI_s, bdI_s, cmpI_ok (by omega), cmpI_ok (by omega), if_neg (by decide), if_neg (by decide)]
    exact g u v h3
theorem SIM.mono {Q R : St → St → Prop} {F G : Option (Int × St)} (h : SIM B e mm t m a c Q F G) (g : ∀ u v, Q u v → R u v) : SIM B e mm t m a c R F G := by
  rcases h with h | ⟨u, v, h1, h2, h3⟩
  · exact Or.inl h
  · exact Or.inr ⟨u, v, h1, h2, g u v h3⟩
/-- from a later beginning -/
theorem SIM.weak {Q : St → St → Prop} {F G : Option (Int × St)} {t1 m1 : St} {a1 c1 : Nat} (h : SIM B e mm t1 m1 a1 c1 Q F G) (g1 : FRh t t1 a) (g2 : FRm m m1 c) (ha : a ≤ a1) (hc : c ≤ c1) : SIM B e mm t m a c Q F G := by
  rcases h with ⟨u, v, h1, h2, h3, h4, h5⟩ | h
  · exact Or.inl ⟨u, v, h1, h2, h3, g1.tr h4 ha, g2.tr h5 hc⟩
  · exact Or.inr h
theorem FR_of {kp : Int} {i : Nat} {f : Int} (h : PR t m B e mm kp i) (hf : 1 ≤ f ∧ f ≤ 7) : FR (pI t 303 5 f) (pI m 200 8 f) B e mm := by
  obtain ⟨p1, p2, p3, p4, _, _, _, _, p9, _⟩ := h
  refine ⟨p1.eqP eqP.fld, i, p2, ?_, ?_, ?_, ?_, ?_, ?_⟩
  · rw [pI_nf (by decide)]; exact p4
  · rw [pI_nf (by decide)]; exact p3.2.2.1
  · rw [pI_at, pI_at]
  · rw [pI_at]; exact hf.1
  · rw [pI_at]; exact hf.2
  · rw [pI_ne (by decide), pI_nf (by decide)]; exact p9.1
theorem flt_w {kp : Int} {i : Nat} {f : Int} (N : Nat) (h : PR t m B e mm kp i) (hf : 1 ≤ f ∧ f ≤ 7) : FLT B e mm t m a c (f_X7_wrong N f t) (f_X12_wrong N f m) :=
  ⟨_, _, c_wrong, s_wrong, FR_of h hf, FRh.p, FRm.p (by unfold PFd; omega)⟩
/-- what holds behind a token that was taken -/
def TKN (kp : Int) (i : Nat) (as : Int) (t m u v : St) : Prop := PR u v B e mm kp (i + 1) ∧ sC t u ∧ sM m v (tpm m kp) ∧ (kp ≠ 0 → v.1 31 (tpm m kp) = as ∧ tpm v kp = tpm m kp + 1)
end
theorem tpm_le {m : St} {kp : Int} (h : 0 ≤ m.1 200 33 ∧ m.1 200 33 ≤ 6000) (h2 : 0 ≤ m.1 200 34) : (kp = 1 → (tpm m kp : Int) = m.1 200 33) ∧ (kp ≠ 1 → (tpm m kp : Int) = 6000 + m.1 200 34) := by
  unfold tpm
  constructor
  · intro h9; rw [if_pos h9]; omega
  · intro h9; rw [if_neg h9]; omega
/-- pass against takes -/
theorem sim_pass {N : Nat} {B : Nat → Int} {e mm i a c : Nat} {kp as : Int} {t m : St} (h : PR t m B e mm kp i) (hkp : kp = 0 ∨ kp = 1 ∨ kp = 2) (hi : i < mm) (hc : c ≤ tpm m kp) (hN : 5000 ≤ N) : SIM B e mm t m a c (TKN (B := B) (e := e) (mm := mm) kp i as t m) (f_X7_pass N t) (f_X12_takes N as m) := by
  rcases PTK (N := N) (as := as) h hkp hi hN with ⟨h1, h2⟩ | ⟨u, v, h1, h2, h3, h4, h5, h6⟩
  · left
    refine ⟨_, _, h1, h2, FR_of h (by omega), FRh.p, FRm.p (by unfold PFd; omega)⟩
  · right
    exact ⟨u, v, h1, h2, h3, h4, h5, h6⟩
theorem sim_bo {B : Nat → Int} {e mm : Nat} {t m : St} {a c : Nat} {Q : St → St → Prop} {F G : Option (Int × St)} (h : SIM B e mm t m a c Q F G) : SIM B e mm t m a c Q (bdI F fun x y => boI x (some (x, y))) (bdI G fun x y => boI x (some (x, y))) := by
  rcases h with ⟨u, v, h1, h2, h3⟩ | ⟨u, v, h1, h2, h3⟩
  · left; exact ⟨u, v, by rw [h1, bdI_s, boI_0], by rw [h2, bdI_s, boI_0], h3⟩
  · right; exact ⟨u, v, by rw [h1, bdI_s, boI_1], by rw [h2, bdI_s, boI_1], h3⟩
theorem flt_bo {B : Nat → Int} {e mm : Nat} {t m : St} {a c : Nat} {F G : Option (Int × St)} (h : FLT B e mm t m a c F G) : FLT B e mm t m a c (bdI F fun x y => boI x (some (x, y))) (bdI G fun x y => boI x (some (x, y))) := by
  obtain ⟨u, v, h1, h2, h3⟩ := h
  exact ⟨u, v, by rw [h1, bdI_s, boI_0], by rw [h2, bdI_s, boI_0], h3⟩
section
variable {N : Nat} {B : Nat → Int} {e mm i a c : Nat} {kp : Int} {t m : St}
/-- a key word, both sides -/
theorem sim_key {k : Int} (h : PR t m B e mm kp i) (hkp : kp = 0 ∨ kp = 1 ∨ kp = 2) (hk : 0 ≤ k ∧ k ≤ 37) (hc : c ≤ tpm m kp) (hN : 5000 ≤ N) : SIM B e mm t m a c (TKN (B := B) (e := e) (mm := mm) kp i k t m) (f_X7_take N k t) (f_X12_key N k m) := by
  have hq := tq_of h
  generalize hhk : cKd B e (ch B e i) = hk9 at hq
  unfold f_X7_take f_X12_key
  have hr : inR hk9 := by
    have := hq.2; have := sgi_rng (m.1 200 5); omega
  rw [lt1_k, hq.1, cmpI_ok ⟨hr, by omega⟩, k_isKey hq hk, bdI_s]
  by_cases h9 : hk9 = k
  · rw [if_pos h9, if_pos h9, cmpI_ok (by omega), if_neg (by decide)]
    exact sim_bo (sim_pass h hkp (tq_lt h (by omega)) hc hN)
  · rw [if_neg h9, if_neg h9, cmpI_ok (by omega), if_pos rfl]
    exact Or.inl (flt_bo (flt_w N h (by omega)))
theorem sim_sign {k : Int} (h : PR t m B e mm kp i) (hkp : kp = 0 ∨ kp = 1 ∨ kp = 2) (hk : isSg k) (hc : c ≤ tpm m kp) (hN : 5000 ≤ N) : SIM B e mm t m a c (TKN (B := B) (e := e) (mm := mm) kp i (5000 + k) t m) (f_X7_take N (40 + sgi k) t) (f_X12_sign N k m) := by
  have hq := tq_of h
  generalize hhk : cKd B e (ch B e i) = hk9 at hq
  have hsr := sgi_rng k
  unfold f_X7_take f_X12_sign
  have hr : inR hk9 := by
    have := hq.2; have := sgi_rng (m.1 200 5); omega
  rw [lt1_k, hq.1, cmpI_ok ⟨hr, by omega⟩, k_isSign hq hk, bdI_s]
  by_cases h9 : hk9 = 40 + sgi k
  · rw [if_pos h9, if_pos h9, cmpI_ok (by omega), if_neg (by decide)]
    exact sim_bo (sim_pass h hkp (tq_lt h (by omega)) hc hN)
  · rw [if_neg h9, if_neg h9, cmpI_ok (by omega), if_pos rfl]
    exact Or.inl (flt_bo (flt_w N h (by omega)))
end
