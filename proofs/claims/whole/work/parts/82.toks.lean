/-! the tokens of a text on both sides -/
/-- what the hall holds of a text: its tokens up to the first that is none, or the end -/
def TKs (t : St) (B : Nat → Int) (e m : Nat) : Prop := (∀ i, i ≤ m → TK t B e i) ∧ (∀ i, i < m → ch B e i < e ∧ tKnd B e (ch B e i) ≠ 5) ∧ (ch B e m = e ∨ (ch B e m < e ∧ tKnd B e (ch B e m) = 5)) ∧ (m : Int) < t.1 301 7 ∧ t.1 301 7 ≤ 4098 ∧ m ≤ 4096
/-- nothing but the tokens and the tape's end has changed -/
def eqR (t u : St) : Prop := (∀ a b : Nat, a ≠ 332 → a ≠ 333 → a ≠ 334 → (a ≠ 301 ∨ (b ≠ 7 ∧ b ≠ 1)) → u.1 a b = t.1 a b) ∧ ∀ a : Nat, a ≠ 335 → u.2 a = t.2 a
theorem s_read {N : Nat} {t : St} {B : Nat → Int} {e : Nat} (h : cTx t B e) (hk : kwOK t) (hN : 5000 ≤ N) : ∃ (u : St) (m : Nat), f_X10_read N t = some u ∧ eqR t u ∧ u.1 301 1 = 0 ∧ TKs u B e m := by
  have he := h.2.1
  have h0 : cTx (pI t 301 7 ((0 : Nat) : Int)) B e := by
    refine ⟨?_, h.2.1, fun i hi => ?_, h.2.2.2⟩
    · rw [pI_nf (by decide)]; exact h.1
    · rw [pI_ne (by decide)]; exact h.2.2.1 i hi
  have hk0 : kwOK (pI t 301 7 ((0 : Nat) : Int)) := hk
  unfold f_X10_read
  simp only [lt1_k]
  rw [show (0 : Int) = ((0 : Nat) : Int) from rfl, c_skipBlanks h0 (Nat.zero_le _) (by omega), bdI_s]
  obtain ⟨u, m, a1, a2, a3, a4, a5⟩ := s_readL (N := N) (B := B) (e := e) hN (fun t16 => bdV (f_X10_put N 48 ((0 : Nat) : Int) (t16.1 301 1) t16) fun t18 => some (pI t18 301 1 ((0 : Nat) : Int))) e 0 N (pI t 301 7 ((0 : Nat) : Int)) h0 hk0 pI_at (Nat.zero_le _) (by omega) (by omega) (fun i hi => by omega)
  have hux := h0.eq a2
  rw [show SK B e 0 = ch B e 0 from rfl, a1, hux.1]
  have hfr : ∀ (c : Nat) (k v s x : Int), eqR t (pI (putS u c k v s) 301 1 x) := by
    intro c k v s x
    refine ⟨fun a b h1 h2 h3 h4 => ?_, fun a h1 => ?_⟩
    · unfold putS
      have e1 : ∀ (y : St) (f : Nat) (z : Int), f = 7 ∨ f = 1 → (pI y 301 f z).1 a b = y.1 a b := by
        intro y f z hf
        rcases h4 with h5 | h5
        · rw [pI_ne h5]
        · rw [pI_nf (by omega)]
      rw [e1 _ _ _ (Or.inr rfl), e1 _ _ _ (Or.inl rfl), pI_ne h3, pI_ne h2, pI_ne h1, a2.1 a b h1 h2 h3 (by omega), e1 _ _ _ (Or.inl rfl)]
    · show u.2 a = t.2 a
      rw [a2.2 a h1]; rfl
  rcases a5 with ⟨hm, hc⟩ | ⟨hm, hb, hT, hc⟩
  · rw [s_put hc (by omega), bdV_s]
    refine ⟨_, m, rfl, hfr _ _ _ _ _, pI_at, ?_, fun i hi => (a3 i hi).2, Or.inl hm, ?_, ?_, a4⟩
    · intro i hi
      have hTn : TK (putS u m 48 ((0 : Nat) : Int) e) B e m := by
        have := TK.new (t := u) (B := B) (e := e) (c := m)
        rw [hm] at this
        have w1 : wdS u m B e e = u ∨ isLt (B e) := by
          unfold wdS
          by_cases q : isLt (B e)
          · exact Or.inr q
          · left; rw [if_neg (fun q2 => q q2.1)]
        have hK : cKd B e e = 48 := by unfold cKd; rw [if_neg (Nat.lt_irrefl _)]
        have hV : cVl B e e = 0 := by unfold cVl; rw [if_neg (fun q => Nat.lt_irrefl _ q.1)]
        unfold putS
        refine ⟨?_, ?_, ?_, fun q => by rw [hm] at q; omega⟩
        · rw [pI_ne (by decide), pI_at, hm]
        · rw [pI_ne (by decide), pI_ne (by decide), pI_ne (by decide), pI_at, hm, hK]
        · rw [pI_ne (by decide), pI_ne (by decide), pI_at, hm, hV]; rfl
      have hTi : TK (putS u m 48 ((0 : Nat) : Int) e) B e i := by
        by_cases q : i = m
        · rw [q]; exact hTn
        · have hi2 := (a3 i (by omega)).1
          have hne : i ≠ m := q
          unfold putS
          refine ⟨?_, ?_, ?_, hi2.2.2.2⟩
          · rw [pI_ne (by decide), pI_nf hne, pI_ne (by decide), pI_ne (by decide)]; exact hi2.1
          · rw [pI_ne (by decide), pI_ne (by decide), pI_ne (by decide), pI_nf hne]; exact hi2.2.1
          · rw [pI_ne (by decide), pI_ne (by decide), pI_nf hne, pI_ne (by decide)]; exact hi2.2.2.1
      exact ⟨by rw [pI_ne (by decide)]; exact hTi.1, by rw [pI_ne (by decide)]; exact hTi.2.1, by rw [pI_ne (by decide)]; exact hTi.2.2.1, hTi.2.2.2⟩
    · rw [pI_nf (by decide), putS_c]; omega
    · rw [pI_nf (by decide), putS_c]; omega
  · rw [s_put hc (by omega), bdV_s]
    refine ⟨_, m, rfl, hfr _ _ _ _ _, pI_at, ?_, fun i hi => (a3 i hi).2, Or.inr ⟨hm, hb⟩, ?_, ?_, a4⟩
    · intro i hi
      have hTu : TK u B e i := by
        by_cases q : i = m
        · rw [q]; exact hT
        · exact (a3 i (by omega)).1
      have hne : i ≠ m + 1 := by omega
      unfold putS
      refine ⟨?_, ?_, ?_, hTu.2.2.2⟩
      · rw [pI_ne (by decide), pI_ne (by decide), pI_nf hne, pI_ne (by decide), pI_ne (by decide)]; exact hTu.1
      · rw [pI_ne (by decide), pI_ne (by decide), pI_ne (by decide), pI_ne (by decide), pI_nf hne]; exact hTu.2.1
      · rw [pI_ne (by decide), pI_ne (by decide), pI_ne (by decide), pI_nf hne, pI_ne (by decide)]; exact hTu.2.2.1
    · rw [pI_nf (by decide), putS_c]; omega
    · rw [pI_nf (by decide), putS_c]; omega
/-- the hall's kind for the model's kind and value -/
def ckOf (k v : Int) : Int := if k = 0 then 48 else if k = 1 then v else if k = 2 then 38 else if k = 3 then 39 else if k = 4 then 40 + sgi v else 49
theorem ck_0 (v : Int) : ckOf 0 v = 48 := by unfold ckOf; rw [if_pos rfl]
theorem ck_1 (v : Int) : ckOf 1 v = v := by unfold ckOf; rw [if_neg (by decide), if_pos rfl]
theorem ck_2 (v : Int) : ckOf 2 v = 38 := by unfold ckOf; rw [if_neg (by decide), if_neg (by decide), if_pos rfl]
theorem ck_3 (v : Int) : ckOf 3 v = 39 := by unfold ckOf; rw [if_neg (by decide), if_neg (by decide), if_neg (by decide), if_pos rfl]
theorem ck_4 (v : Int) : ckOf 4 v = 40 + sgi v := by unfold ckOf; rw [if_neg (by decide), if_neg (by decide), if_neg (by decide), if_neg (by decide), if_pos rfl]
theorem ck_5 (v : Int) : ckOf 5 v = 49 := by unfold ckOf; rw [if_neg (by decide), if_neg (by decide), if_neg (by decide), if_neg (by decide), if_neg (by decide)]
theorem cKd_ck {B : Nat → Int} {e q : Nat} : cKd B e q = ckOf (tKnd B e q) (tVal B e q) := by
  unfold cKd tKnd tVal
  by_cases hq : q < e
  · rw [if_pos hq, if_pos hq]
    by_cases hl : isLt (B q)
    · rw [if_pos hl, if_pos hl, if_pos hl]
      by_cases h24 : 24 < wnd B e (e - q) q - q
      · rw [if_pos h24, if_pos h24, ck_5]
      · rw [if_neg h24, if_neg h24]
        by_cases hk : tKey B e q = -1
        · rw [if_pos hk, if_pos hk, ck_2]
        · rw [if_neg hk, if_neg hk, ck_1]
    · rw [if_neg hl, if_neg hl, if_neg hl]
      by_cases hn : isDg (B q) ∨ B q = 45
      · rw [if_pos hn, if_pos hn, if_pos hn]
        by_cases hg : 1 ≤ (tNum B e q).1 ∧ (tNum B e q).1 ≤ 5
        · rw [if_pos hg, if_pos hg, ck_3]
        · rw [if_neg hg, if_neg hg, ck_5]
      · rw [if_neg hn, if_neg hn, if_neg hn]
        by_cases hs : isSg (B q)
        · rw [if_pos hs, if_pos hs, ck_4]
        · rw [if_neg hs, if_neg hs, ck_5]
  · rw [if_neg hq, if_neg hq, ck_0]
theorem tKnd_rng {B : Nat → Int} {e q : Nat} : 0 ≤ tKnd B e q ∧ tKnd B e q ≤ 5 := by
  unfold tKnd
  split
  · split
    · split
      · decide
      · split <;> decide
    · split
      · split <;> decide
      · split <;> decide
  · decide
/-- the model at the i-th token of a text -/
def MTk (t : St) (B : Nat → Int) (e i : Nat) : Prop := mTx t B e ∧ mBy t ∧ TokM t B e (ch B e i)
theorem mTx.eqF {t u : St} {B : Nat → Int} {e : Nat} (h : mTx t B e) (g : eqF t u) : mTx u B e := by
  refine ⟨?_, h.2.1, fun i hi => ?_⟩
  · rw [g.1 200 7 (by omega)]; exact h.1
  · rw [g.1 0 i (by omega)]; exact h.2.2 i hi
theorem mBy.eqF {t u : St} (h : mBy t) (g : eqF t u) : mBy u := fun i hi => by rw [g.1 0 i (by omega)]; exact h i hi
theorem s_nextT {N : Nat} {t : St} {B : Nat → Int} {e i : Nat} (h : MTk t B e i) (hN : 5000 ≤ N) : ∃ u : St, f_X12_next N t = some u ∧ eqF t u ∧ MTk u B e (i + 1) := by
  obtain ⟨h1, h2, h3⟩ := h
  have hle := tEnd_le (B := B) (e := e) (ch_le (B := B) (e := e) i)
  obtain ⟨u, a1, a2, a3⟩ := s_next h1 h2 hle.2.1 h3.2.1 hN
  exact ⟨u, a1, a2, h1.eqF a2, h2.eqF a2, a3⟩
