/-! the history: what is kept, both sides -/
/-- one kept moment: the hall's Moment i, the model's rows at i -/
def MOMr (n c : Nat) (t m μ : St) (i : Nat) : Prop :=
  (∃ X Y W T : Nat → Int, FXs X Y W n ∧ ∀ d, d < n → μ.1 (1300 + i) d = T d * 16384 + cdZ (X d) (Y d) (W d) ∧ (m.1 61 (256 * i + 4 * d) = X d ∧ m.1 61 (256 * i + 4 * d + 1) = Y d ∧ m.1 61 (256 * i + 4 * d + 2) = W d ∧ m.1 61 (256 * i + 4 * d + 3) = T d) ∧ (-(8 * (c : Int)) ≤ T d ∧ T d ≤ 8 * (c : Int)) ∧ X d ≤ 4 * ((n : Int) - 1) ∧ Y d ≤ 4 * ((n : Int) - 1)) ∧
  (μ.1 (1000 + i) 6 = m.1 62 i ∧ 0 ≤ m.1 62 i ∧ m.1 62 i ≤ 64 * (c : Int)) ∧ (μ.1 (1000 + i) 7 = m.1 63 i ∧ 0 ≤ m.1 63 i ∧ m.1 63 i ≤ (c : Int)) ∧
  ((μ.1 (1000 + i) 1 = 0 ∧ μ.1 (1000 + i) 5 = 0 ∧ m.1 64 i = -1) ∨ (μ.1 (1000 + i) 1 = 1 ∧ ∃ k h a : Nat, m.1 64 i = ((k + 1 : Nat) : Int) ∧ μ.1 (1000 + i) 2 = a ∧ μ.1 (1000 + i) 5 = h ∧ μ.2 (1000 + i) 3 = m.2 66 (1600 * i + k) ∧ RF (XC t m) m (t.1 302 18) n (μ.2 (1600 + i)) (fun j => un1 (m.2 65 (1600 * i + j))) (fun j => un2 (m.2 65 (1600 * i + j))) (fun j => un3 (m.2 65 (1600 * i + j))) (fun j => m.2 66 (1600 * i + j)) k h a))
/-- the slot s steps back -/
def slT (p : Int) (s : Nat) : Nat := ((p + 201 - (s : Int)) % 201).toNat
def HISr (n c : Nat) (t m μ : St) (B : Nat) (len : Nat → Nat) : Prop :=
  (t.1 309 2 = m.1 200 59 ∧ 0 ≤ m.1 200 59 ∧ m.1 200 59 ≤ 200) ∧ (t.1 309 1 = m.1 200 60 ∧ 0 ≤ m.1 200 60 ∧ m.1 200 60 ≤ 200) ∧ (m.1 200 60 ≤ (B : Int) ∧ B ≤ 201) ∧ (∀ i, i < B → len i ≤ 1500) ∧
  ∀ s : Nat, 1 ≤ s → (s : Int) ≤ m.1 200 59 → slT (m.1 200 60) s < B ∧ μ.1 (1000 + slT (m.1 200 60) s) 5 ≤ (len (slT (m.1 200 60) s) : Int) ∧ MOMr n c t m μ (slT (m.1 200 60) s)
section
variable {N n c : Nat} {t m u v μ μ2 : St} {i B : Nat} {len : Nat → Nat}
theorem MOMr.up {c2 : Nat} (h : MOMr n c t m μ i) (hc : c ≤ c2) : MOMr n c2 t m μ i := by
  obtain ⟨⟨X, Y, W, T, h1, h2⟩, h3, h4, h5⟩ := h
  refine ⟨⟨X, Y, W, T, h1, fun d hd => ?_⟩, ⟨h3.1, h3.2.1, by omega⟩, ⟨h4.1, h4.2.1, by omega⟩, h5⟩
  obtain ⟨a1, a2, a3, a4⟩ := h2 d hd
  exact ⟨a1, a2, by omega, a4⟩
theorem MOMr.cg (h : MOMr n c t m μ i) (e61 : ∀ y, 256 * i ≤ y → y < 256 * i + 256 → v.1 61 y = m.1 61 y) (e62 : v.1 62 i = m.1 62 i ∧ v.1 63 i = m.1 63 i ∧ v.1 64 i = m.1 64 i) (e65 : ∀ y, 1600 * i ≤ y → y < 1600 * i + 1600 → v.2 65 y = m.2 65 y ∧ v.2 66 y = m.2 66 y) (hG : BGr (XC t m) m (t.1 302 18) (XC u v) v (u.1 302 18)) (eμ : μ2.1 (1000 + i) = μ.1 (1000 + i) ∧ μ2.1 (1300 + i) = μ.1 (1300 + i) ∧ μ2.2 (1000 + i) = μ.2 (1000 + i) ∧ μ2.2 (1600 + i) = μ.2 (1600 + i)) : MOMr n c u v μ2 i := by
  obtain ⟨⟨X, Y, W, T, h1, h2⟩, h3, h4, h5⟩ := h
  have h64 := h1.1
  refine ⟨⟨X, Y, W, T, h1, fun d hd => ?_⟩, by rw [eμ.1, e62.1]; exact h3, by rw [eμ.1, e62.2.1]; exact h4, ?_⟩
  · rw [eμ.2.1, e61 _ (by omega) (by omega), e61 _ (by omega) (by omega), e61 _ (by omega) (by omega), e61 _ (by omega) (by omega)]
    exact h2 d hd
  · rw [eμ.1, e62.2.2]
    rcases h5 with h5 | ⟨a1, k, h, a, a2, a3, a4, a5, a6⟩
    · exact Or.inl h5
    · have hk := a6.kk
      refine Or.inr ⟨a1, k, h, a, a2, a3, a4, by rw [eμ.2.2.1, (e65 _ (by omega) (by omega)).2]; exact a5, ?_⟩
      refine (a6.lw hG).cg (fun j _ => by rw [eμ.2.2.2]) (fun j hj => ?_) (fun j hj => ?_) (fun j hj => ?_) (fun j hj => ?_)
      · show un1 _ = un1 _
        rw [(e65 (1600 * i + j) (by omega) (by omega)).1]
      · show un2 _ = un2 _
        rw [(e65 (1600 * i + j) (by omega) (by omega)).1]
      · show un3 _ = un3 _
        rw [(e65 (1600 * i + j) (by omega) (by omega)).1]
      · exact (e65 (1600 * i + j) (by omega) (by omega)).2
theorem MOMr.mv (h : MOMr n c t m μ i) (k : HKf t m u v) : MOMr n c u v μ i := h.cg (fun y _ _ => by rw [k.2.2.1 61 (by omega) (by omega)]) ⟨by rw [k.2.2.1 62 (by omega) (by omega)], by rw [k.2.2.1 63 (by omega) (by omega)], by rw [k.2.2.1 64 (by omega) (by omega)]⟩ (fun y _ _ => by rw [k.2.2.2.1.1, k.2.2.2.1.2]; exact ⟨rfl, rfl⟩) k.2.2.2.2 ⟨rfl, rfl, rfl, rfl⟩
theorem HISr.mv {c2 : Nat} (h : HISr n c t m μ B len) (k : HKf t m u v) (hc : c ≤ c2) : HISr n c2 u v μ B len := by
  obtain ⟨h1, h2, h3, h4, h5⟩ := h
  unfold HISr
  rw [k.1, k.2.1.1, k.2.1.2]
  exact ⟨h1, h2, h3, h4, fun s s1 s2 => ⟨(h5 s s1 s2).1, (h5 s s1 s2).2.1, ((h5 s s1 s2).2.2.mv k).up hc⟩⟩
theorem slT_lt {p : Int} {s : Nat} : slT p s < 201 := by unfold slT; omega
theorem slT_ne {p : Int} {s : Nat} (hp : 0 ≤ p ∧ p ≤ 200) (hs : 1 ≤ s ∧ s ≤ 200) : slT p s ≠ p.toNat := by unfold slT; omega
/-- the model writes in the spare slot -/
theorem BGr.wr (hw : WRm n i m v) : BGr (XC t m) m (t.1 302 18) (XC t v) v (t.1 302 18) := BGr.same rfl rfl (hw.1 31 (by omega)) (hw.1 32 (by omega)) (hw.1 18 (by omega)) (hw.1 29 (by omega)) (fun b _ => by rw [hw.1 200 (by omega)])
theorem MOMr.wr {j : Nat} (h : MOMr n c t m μ j) (hw : WRm n i m v) (hij : j ≠ i) (eμ : μ2.1 (1000 + j) = μ.1 (1000 + j) ∧ μ2.1 (1300 + j) = μ.1 (1300 + j) ∧ μ2.2 (1000 + j) = μ.2 (1000 + j) ∧ μ2.2 (1600 + j) = μ.2 (1600 + j)) : MOMr n c t v μ2 j :=
  h.cg (fun y y1 y2 => hw.2.1 y (by omega)) (hw.2.2.1 j hij) (fun y y1 y2 => hw.2.2.2.2 y (by omega)) (BGr.wr hw) eμ
theorem HISr.wr (h : HISr n c t m μ B len) (hi : m.1 200 60 = i) (hw : WRm n i m v) : HISr n c t v μ B len := by
  obtain ⟨h1, h2, h3, h4, h5⟩ := h
  unfold HISr
  rw [hw.1 200 (by omega)]
  refine ⟨h1, h2, h3, h4, fun s s1 s2 => ⟨(h5 s s1 s2).1, (h5 s s1 s2).2.1, (h5 s s1 s2).2.2.wr hw ?_ ⟨rfl, rfl, rfl, rfl⟩⟩⟩
  have := slT_ne (p := m.1 200 60) (s := s) h2.2 ⟨s1, by omega⟩
  omega
/-- both write in the spare slot -/
theorem HISr.nt {z : St} {b st : Int} {r len2 : Nat → Nat} {r2 : (Nat → Nat) × (Nat → Nat)} (h : HISr n c t m μ B len) (hi : m.1 200 60 = i) (hw : WRm n i m v) (hp : NPo r len i z r2) : HISr n c t v (mU μ i z b st) (if i < B then B else B + 1) r2.2 := by
  obtain ⟨h1, h2, h3, h4, h5⟩ := h
  have hi2 : i < 201 := by omega
  have hB : B ≤ (if i < B then B else B + 1) ∧ (if i < B then B else B + 1) ≤ 201 ∧ (if i < B then B else B + 1) ≤ B + 1 ∧ i < (if i < B then B else B + 1) := by
    split <;> omega
  unfold HISr
  rw [hw.1 200 (by omega)]
  refine ⟨h1, h2, ⟨by omega, hB.2.1⟩, fun j hj => ?_, fun s s1 s2 => ?_⟩
  · by_cases hji : j = i
    · rw [hji]; exact hp.2.2.1
    · rw [hp.2.1 j hji]
      exact h4 j (by split at hj <;> omega)
  · have hne := slT_ne (p := m.1 200 60) (s := s) h2.2 ⟨s1, by omega⟩
    have hji : slT (m.1 200 60) s ≠ i := by omega
    obtain ⟨a1, a2, a3⟩ := h5 s s1 s2
    have ho := mU_o (μ := μ) (z := z) (b := b) (st := st) hi2 (slT_lt (p := m.1 200 60) (s := s)) hji
    refine ⟨by omega, ?_, a3.wr hw hji ho⟩
    rw [ho.1, hp.2.1 _ hji]
    exact a2
/-- what the hall has noted -/
def NTz (n : Nat) (t m z : St) : Prop := (∀ d, d < n → z.1 1300 d = m.1 41 d * 16384 + cdZ (m.1 38 d) (m.1 39 d) (m.1 40 d)) ∧ (z.1 1000 1 = t.1 307 2 ∧ z.1 1000 2 = t.1 307 3 ∧ z.2 1000 3 = t.2 307 4 ∧ z.1 1000 5 = dpO t) ∧ ∀ j : Nat, (j : Int) < dpO t → z.2 1600 j = t.2 410 j
theorem nt_of {t5 : St} (h : GR0 n c t m) (hH : HISr n c t m μ B len) (hi : m.1 200 60 = i) (hc : c ≤ 600) (hN : 100 ≤ N) (g : ∀ a, (a = 305 ∨ a = 307 ∨ a = 309 ∨ (390 ≤ a ∧ a ≤ 397)) → t5.1 a = t.1 a) (gL : t5.2 307 = t.2 307 ∧ t5.2 410 = t.2 410) (gC : CIk t5) : ∃ z : St, NTh N t5 μ B i len z ∧ NTz n t m z := by
  obtain ⟨h1, h2, h3, h4, h5⟩ := hH
  obtain ⟨hb, hF, hr, hn, ht, hs⟩ := h
  have hi2 : i < 201 := by omega
  have hfl := hF.1.2.2.1
  have hFH : FH 0 t5 (m.1 38) (m.1 39) (m.1 40) n := by
    have := hfl.2
    unfold FH at this ⊢
    rw [g (305 + 0) (by omega), g (390 + 10 * 0) (by omega), g (391 + 10 * 0) (by omega), g (392 + 10 * 0) (by omega), g (397 + 10 * 0) (by omega)]
    exact this
  have hl : t5.1 307 2 = 0 ∨ (t5.1 307 2 = 1 ∧ 0 ≤ t5.1 307 6 ∧ t5.1 307 6 ≤ 1500) := by
    rw [g 307 (by omega)]
    rcases hr.1 with h9 | ⟨r1, r2, r3, k, hh, a, ⟨p1, p2, p3, p4⟩, p5⟩
    · exact Or.inl h9.1
    · have hk := p5.kk
      have hhk := p5.hk
      have p2 : t.1 307 6 = hh := p2
      exact Or.inr ⟨r1, by omega, by omega⟩
  have hd : dpO t5 = dpO t := by unfold dpO; rw [g 307 (by omega)]
  obtain ⟨z, z1, z2, z3, z4, z5⟩ := note_pure (N := N) (n6 := if i < B then len i else 4) (T := m.1 41) (τ := cmb t5 (if i < B then μ else mU μ i zZ 0 0) i) hfl.1.2 hFH (fun d hd => by have := hF.2.1 d hd; omega) (fun d hd => by rw [g 393 (by omega)]; exact (hF.2.1 d hd).1) hl (fun a a1 a2 => by
      show (if a = 1000 then _ else if a = 1300 then _ else t5.1 a) = _
      rw [if_neg a1, if_neg a2]) (fun a a1 a2 => by
      show (if a = 1000 then _ else if a = 1600 then _ else t5.2 a) = _
      rw [if_neg a1, if_neg a2]) (by
      by_cases hiB : i < B
      · rw [if_pos hiB]; exact h4 i hiB
      · rw [if_neg hiB]; omega) hN
  refine ⟨z, ⟨by rw [g 309 (by omega)]; omega, ⟨by omega, h3.2, hi2⟩, by have := gC.1; omega, h4 i, z1, z2⟩, z3, ?_, ?_⟩
  · rw [g 307 (by omega), gL.1, hd] at z4
    exact z4
  · rw [hd, gL.2] at z5
    exact z5
theorem MOMr.new {z : St} (h : GR0 n c t m) (hz : NTz n t m z) (hw : WRm n i m v) (hc : WRc n i m v) (hi : i < 201) : MOMr n c t v (mU μ i z (t.1 300 11) (t.1 300 12)) i := by
  obtain ⟨hb, hF, hr, hn, ht, hs⟩ := h
  obtain ⟨z1, z2, z3⟩ := hz
  obtain ⟨c1, c2, c3⟩ := hc
  have hU := mU_c (μ := μ) (z := z) (b := t.1 300 11) (st := t.1 300 12) hi
  unfold MOMr
  rw [hU.1, hU.2.1, hU.2.2.1, hU.2.2.2, c2.1, c2.2]
  refine ⟨⟨m.1 38, m.1 39, m.1 40, m.1 41, hF.1.2.2.1.1.2, fun d hd => ⟨z1 d hd, c1 d hd, (hF.2.1 d hd).2, hF.2.2.1 d hd⟩⟩, hn.1, hn.2.1, ?_⟩
  show (z.1 1000 1 = 0 ∧ z.1 1000 5 = 0 ∧ v.1 64 i = -1) ∨ (z.1 1000 1 = 1 ∧ ∃ k h a : Nat, v.1 64 i = ((k + 1 : Nat) : Int) ∧ z.1 1000 2 = a ∧ z.1 1000 5 = h ∧ z.2 1000 3 = v.2 66 (1600 * i + k) ∧ RF (XC t v) v (t.1 302 18) n (z.2 1600) (fun j => un1 (v.2 65 (1600 * i + j))) (fun j => un2 (v.2 65 (1600 * i + j))) (fun j => un3 (v.2 65 (1600 * i + j))) (fun j => v.2 66 (1600 * i + j)) k h a)
  rw [z2.1, z2.2.1, z2.2.2.1, z2.2.2.2]
  rcases hr.1 with ⟨r1, r2⟩ | ⟨r1, r2, r3, k, hh, a, ⟨p1, p2, p3, p4⟩, p5⟩
  · refine Or.inl ⟨r1, by unfold dpO; rw [if_pos r1], ?_⟩
    rcases c3 with c3 | c3
    · exact c3.2
    · omega
  · have hk := p5.kk
    have hd : dpO t = t.1 307 6 := by unfold dpO; rw [if_neg (by omega)]
    have p2 : t.1 307 6 = hh := p2
    rcases c3 with c3 | ⟨_, k2, c4, c5, c6⟩
    · omega
    · have hkk : k2 = k := by omega
      subst hkk
      refine Or.inr ⟨r1, k2, hh, a, c5, p1, by rw [hd]; exact p2, ?_, ?_⟩
      · rw [(c6 k2 (Nat.le_refl _)).2.2.2]; exact p4
      · refine (p5.lw (BGr.wr hw)).cg (fun j hj => z3 j (by omega)) (fun j hj => (c6 j hj).1) (fun j hj => (c6 j hj).2.1) (fun j hj => (c6 j hj).2.2.1) (fun j hj => (c6 j hj).2.2.2)
/-- the step is kept -/
theorem HISr.kp (h : HISr n c t m μ B len) (hi : m.1 200 60 = i) (hM : MOMr n c t m μ i) (hB : i < B) (hl : μ.1 (1000 + i) 5 ≤ (len i : Int)) : HISr n c (pI (pI t 309 1 ((m.1 200 60 + 1) % 201)) 309 2 (min (m.1 200 59 + 1) 200)) (pI (pI m 200 60 ((m.1 200 60 + 1) % 201)) 200 59 (min (m.1 200 59 + 1) 200)) μ B len := by
  obtain ⟨h1, h2, h3, h4, h5⟩ := h
  generalize hu : pI (pI t 309 1 ((m.1 200 60 + 1) % 201)) 309 2 (min (m.1 200 59 + 1) 200) = u
  generalize hv : pI (pI m 200 60 ((m.1 200 60 + 1) % 201)) 200 59 (min (m.1 200 59 + 1) 200) = v
  have u1 : u.1 309 1 = (m.1 200 60 + 1) % 201 := by rw [← hu, pI_nf (by decide), pI_at]
  have u2 : u.1 309 2 = min (m.1 200 59 + 1) 200 := by rw [← hu, pI_at]
  have uo : ∀ a, a ≠ 309 → u.1 a = t.1 a := fun a ha => by rw [← hu, pI_ne ha, pI_ne ha]
  have v1 : v.1 200 60 = (m.1 200 60 + 1) % 201 := by rw [← hv, pI_nf (by decide), pI_at]
  have v2 : v.1 200 59 = min (m.1 200 59 + 1) 200 := by rw [← hv, pI_at]
  have vo : ∀ a, a ≠ 200 → v.1 a = m.1 a := fun a ha => by rw [← hv, pI_ne ha, pI_ne ha]
  have vb : ∀ b, b ≠ 59 → b ≠ 60 → v.1 200 b = m.1 200 b := fun b b1 b2 => by rw [← hv, pI_nf b1, pI_nf b2]
  have vL : v.2 = m.2 := by rw [← hv]; rfl
  have hG : BGr (XC t m) m (t.1 302 18) (XC u v) v (u.1 302 18) := BGr.same (uo 363 (by decide)) (by rw [uo 302 (by decide)]) (vo 31 (by decide)) (vo 32 (by decide)) (vo 18 (by decide)) (vo 29 (by decide)) (fun b _ => vb b (by omega) (by omega))
  have mv : ∀ j, MOMr n c t m μ j → MOMr n c u v μ j := fun j hj => hj.cg (fun y _ _ => by rw [vo 61 (by decide)]) ⟨by rw [vo 62 (by decide)], by rw [vo 63 (by decide)], by rw [vo 64 (by decide)]⟩ (fun y _ _ => by rw [vL]; exact ⟨rfl, rfl⟩) hG ⟨rfl, rfl, rfl, rfl⟩
  refine ⟨⟨by rw [u2, v2], by omega, by omega⟩, ⟨by rw [u1, v1], by omega, by omega⟩, ⟨by rw [v1]; omega, h3.2⟩, h4, fun s s1 s2 => ?_⟩
  rw [v1]
  rw [v2] at s2
  by_cases hs : s = 1
  · have e1 : slT ((m.1 200 60 + 1) % 201) s = i := by unfold slT; omega
    rw [e1]
    exact ⟨hB, hl, mv i hM⟩
  · have e1 : slT ((m.1 200 60 + 1) % 201) s = slT (m.1 200 60) (s - 1) := by unfold slT; omega
    rw [e1]
    obtain ⟨a1, a2, a3⟩ := h5 (s - 1) (by omega) (by omega)
    exact ⟨a1, a2, mv _ a3⟩
/-- all is laid anew -/
theorem HISr.cl {n2 c2 : Nat} (h : HISr n c t m μ B len) (e1 : u.1 309 2 = 0 ∧ v.1 200 59 = 0) (e2 : u.1 309 1 = t.1 309 1 ∧ v.1 200 60 = m.1 200 60) : HISr n2 c2 u v μ B len := by
  obtain ⟨h1, h2, h3, h4, h5⟩ := h
  unfold HISr
  rw [e1.1, e1.2, e2.1, e2.2]
  exact ⟨⟨rfl, by omega, by omega⟩, h2, h3, h4, fun s s1 s2 => by omega⟩
end
