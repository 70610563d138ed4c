/-! the hall's tokens: all of a text -/
abbrev isNm (c : Int) : Prop := isDg c ∨ c = 45
def cKd (B : Nat → Int) (e q : Nat) : Int := if q < e then (if isLt (B q) then (if 24 < wnd B e (e - q) q - q then 49 else if tKey B e q = -1 then 38 else tKey B e q) else if isNm (B q) then (if 1 ≤ (tNum B e q).1 ∧ (tNum B e q).1 ≤ 5 then 39 else 49) else if isSg (B q) then 40 + sgi (B q) else 49) else 48
def cVl (B : Nat → Int) (e q : Nat) : Int := if q < e ∧ ¬ isLt (B q) ∧ isNm (B q) then tVal B e q else 0
def wdS (t : St) (c : Nat) (B : Nat → Int) (e q : Nat) : St := if isLt (B q) ∧ ¬ 24 < wnd B e (e - q) q - q then letS t c B q (wnd B e (e - q) q) else t
theorem sgi_neg {c : Int} : sgi c < 0 ↔ ¬ isSg c := by
  unfold sgi
  constructor
  · intro h q
    rcases q with q | q | q | q | q | q | q | q <;> (subst q; revert h; decide)
  · intro h
    rw [if_neg (by omega), if_neg (by omega), if_neg (by omega), if_neg (by omega), if_neg (by omega), if_neg (by omega), if_neg (by omega), if_neg (by omega)]; decide
theorem sgi_rng (c : Int) : -1 ≤ sgi c ∧ sgi c ≤ 7 := by
  unfold sgi
  split; · decide
  split; · decide
  split; · decide
  split; · decide
  split; · decide
  split; · decide
  split; · decide
  split <;> decide
theorem s_readToken {N : Nat} {t : St} {B : Nat → Int} {e q c : Nat} (h : cTx t B e) (hq : q < e) (hc : t.1 301 7 = c) (hcl : c < 4098) (hk : kwOK t) (hN : 5000 ≤ N) :
    f_X10_readToken N q t = some (if tKnd B e q = 5 then -1 else (tEnd B e q : Int), putS (wdS t c B e q) c (cKd B e q) (cVl B e q) q) := by
  have he := h.2.1
  have hr := h.2.2.2 q hq
  unfold f_X10_readToken wdS
  simp only [jn1_k]
  rw [c_byteAt h hq, bdI_s, c_isLetter (by omega), bdI_s, cmpI_ok (by split <;> omega)]
  by_cases hl : isLt (B q)
  · rw [if_pos hl, if_neg (by decide), s_readWord h hq hl hc hcl hk hN]
    have hv : cVl B e q = 0 := if_neg (fun h9 => h9.2.1 hl)
    by_cases h24 : 24 < wnd B e (e - q) q - q
    · have hK : tKnd B e q = 5 := by unfold tKnd; rw [if_pos hq, if_pos hl, if_pos h24]
      have hC : cKd B e q = 49 := by unfold cKd; rw [if_pos hq, if_pos hl, if_pos h24]
      rw [if_pos h24, bdI_s, if_pos hK, if_neg (show ¬ (isLt (B q) ∧ ¬ 24 < wnd B e (e - q) q - q) from fun h9 => h9.2 h24), hC, hv]
    · have hK : tKnd B e q = if tKey B e q = -1 then 2 else 1 := by unfold tKnd; rw [if_pos hq, if_pos hl, if_neg h24]
      have hC : cKd B e q = if tKey B e q = -1 then 38 else tKey B e q := by unfold cKd; rw [if_pos hq, if_pos hl, if_neg h24]
      have hE : tEnd B e q = wnd B e (e - q) q := by unfold tEnd; rw [if_pos hq, if_pos hl]
      rw [if_neg h24, bdI_s, if_neg (show ¬ tKnd B e q = 5 by rw [hK]; split <;> decide), if_pos (show isLt (B q) ∧ ¬ 24 < wnd B e (e - q) q - q from ⟨hl, h24⟩), hC, hv, hE]
  · rw [if_neg hl, if_pos rfl, cmpI_ok (by omega), if_neg (show ¬ (isLt (B q) ∧ ¬ 24 < wnd B e (e - q) q - q) from fun h9 => hl h9.1)]
    by_cases hn : isNm (B q)
    · have hC : cKd B e q = if 1 ≤ (tNum B e q).1 ∧ (tNum B e q).1 ≤ 5 then 39 else 49 := by unfold cKd; rw [if_pos hq, if_neg hl, if_pos hn]
      have hK : tKnd B e q = if 1 ≤ (tNum B e q).1 ∧ (tNum B e q).1 ≤ 5 then 3 else 5 := by unfold tKnd; rw [if_pos hq, if_neg hl, if_pos hn]
      have hE : tEnd B e q = (tNum B e q).2.2 := by unfold tEnd; rw [if_pos hq, if_neg hl, if_pos hn]
      have hV : cVl B e q = if B q = 45 then -(tNum B e q).2.1 else (tNum B e q).2.1 := by unfold cVl tVal; rw [if_pos ⟨hq, hl, hn⟩, if_neg hl, if_pos hn]
      have hrd := s_readNumber h hq hn hc hcl hN
      have hfin : some ((if 1 ≤ (tNum B e q).1 ∧ (tNum B e q).1 ≤ 5 then ((tNum B e q).2.2 : Int) else -1), putS t c (if 1 ≤ (tNum B e q).1 ∧ (tNum B e q).1 ≤ 5 then 39 else 49) (if B q = 45 then -(tNum B e q).2.1 else (tNum B e q).2.1) q) = some (if tKnd B e q = 5 then -1 else (tEnd B e q : Int), putS t c (cKd B e q) (cVl B e q) q) := by
        rw [hC, hK, hE, hV]
        by_cases hg : 1 ≤ (tNum B e q).1 ∧ (tNum B e q).1 ≤ 5
        · simp only [if_pos hg, if_neg (show ¬ (3 : Int) = 5 by decide)]
        · simp only [if_neg hg]
          rfl
      by_cases h45 : B q = 45
      · rw [if_pos h45, hrd, bdI_s]
        exact hfin
      · have hd : isDg (B q) := hn.resolve_right h45
        rw [if_neg h45, c_isDigit (by omega), bdI_s, if_pos hd, cmpI_ok (by omega), if_neg (by decide), hrd, bdI_s]
        exact hfin
    · have hd : ¬ isDg (B q) := fun h9 => hn (Or.inl h9)
      have h45 : ¬ B q = 45 := fun h9 => hn (Or.inr h9)
      have hC : cKd B e q = if isSg (B q) then 40 + sgi (B q) else 49 := by unfold cKd; rw [if_pos hq, if_neg hl, if_neg hn]
      have hK : tKnd B e q = if isSg (B q) then 4 else 5 := by unfold tKnd; rw [if_pos hq, if_neg hl, if_neg hn]
      have hE : tEnd B e q = q + 1 := by unfold tEnd; rw [if_pos hq, if_neg hl, if_neg hn]
      have hV : cVl B e q = 0 := if_neg (fun h9 => hn h9.2.2)
      have hsr := sgi_rng (B q)
      rw [if_neg h45, c_isDigit (by omega), bdI_s, if_neg hd, cmpI_ok (by omega), if_pos rfl, show B q % 65536 = B q from by omega, s_indexOf hr (by omega), bdI_s, cmpI_ok (by omega), hC, hK, hE, hV]
      by_cases hs : isSg (B q)
      · have hsn : ¬ sgi (B q) < 0 := fun h9 => sgi_neg.mp h9 hs
        rw [if_neg hsn, s_put hc hcl, bdV_s, cmpI_ok (by omega), if_neg hsn, if_pos hs, if_pos hs, if_neg (by decide)]; rfl
      · have hsn : sgi (B q) < 0 := sgi_neg.mpr hs
        rw [if_pos hsn, s_put hc hcl, bdV_s, cmpI_ok (by omega), if_pos hsn, if_neg hs, if_neg hs, if_pos rfl]
/-- where the tokens of a text begin -/
def ch (B : Nat → Int) (e : Nat) : Nat → Nat
  | 0 => SK B e 0
  | i + 1 => SK B e (tEnd B e (ch B e i))
theorem tEnd_le {B : Nat → Int} {e q : Nat} (hq : q ≤ e) : q ≤ tEnd B e q ∧ tEnd B e q ≤ e ∧ (q < e → q < tEnd B e q) := by
  unfold tEnd
  by_cases h : q < e
  · rw [if_pos h]
    by_cases hl : isLt (B q)
    · rw [if_pos hl, ← wnd_q1 h hl]
      have := wnd_le (B := B) (e := e) (e - (q + 1)) (q + 1) (by omega); omega
    · rw [if_neg hl]
      by_cases hn : isDg (B q) ∨ B q = 45
      · rw [if_pos hn]
        have := nvf_le (B := B) (e := e) (e - (q + 1)) (q + 1) (if B q = 45 then 0 else 1) (if B q = 45 then 0 else B q - 48) (by omega) (by split <;> decide)
        unfold tNum
        omega
      · rw [if_neg hn]; omega
  · rw [if_neg h]; omega
theorem ch_le {B : Nat → Int} {e : Nat} : ∀ i, ch B e i ≤ e := by
  intro i
  cases i with
  | zero => exact (SK_le (Nat.zero_le _)).2
  | succ i =>
    unfold ch
    have hi : ch B e i ≤ e := by
      induction i with
      | zero => exact (SK_le (Nat.zero_le _)).2
      | succ i ih => unfold ch; exact (SK_le (tEnd_le ih).2.1).2
    exact (SK_le (tEnd_le hi).2.1).2
theorem ch_lt {B : Nat → Int} {e i : Nat} (h : ch B e i < e) : ch B e i < ch B e (i + 1) := by
  have h1 := (tEnd_le (B := B) (Nat.le_of_lt h)).2.2 h
  have h2 := (tEnd_le (B := B) (Nat.le_of_lt h)).2.1
  have h3 := (SK_le (B := B) h2).1
  show ch B e i < SK B e (tEnd B e (ch B e i))
  omega
def TK (t : St) (B : Nat → Int) (e i : Nat) : Prop := t.1 334 i = ch B e i ∧ t.1 332 i = cKd B e (ch B e i) ∧ t.1 333 i = cVl B e (ch B e i) ∧
  (ch B e i < e → isLt (B (ch B e i)) → wnd B e (e - ch B e i) (ch B e i) - ch B e i ≤ 24 → ∀ j, j < 3 → t.2 335 (3 * i + j) = lt3 B (ch B e i) (wnd B e (e - ch B e i) (ch B e i)) j)
/-- nothing but the tokens has changed -/
def eqT (t u : St) : Prop := (∀ a b : Nat, a ≠ 332 → a ≠ 333 → a ≠ 334 → (a ≠ 301 ∨ b ≠ 7) → u.1 a b = t.1 a b) ∧ ∀ a : Nat, a ≠ 335 → u.2 a = t.2 a
theorem eqT.rf {t : St} : eqT t t := ⟨fun _ _ _ _ _ _ => rfl, fun _ _ => rfl⟩
theorem eqT.tr {t u v : St} (h : eqT t u) (g : eqT u v) : eqT t v := ⟨fun a b h1 h2 h3 h4 => (g.1 a b h1 h2 h3 h4).trans (h.1 a b h1 h2 h3 h4), fun a h1 => (g.2 a h1).trans (h.2 a h1)⟩
theorem wdS_1 {t : St} {c : Nat} {B : Nat → Int} {e q : Nat} : (wdS t c B e q).1 = t.1 := by
  unfold wdS; split <;> rfl
theorem wdS_2 {t : St} {c : Nat} {B : Nat → Int} {e q a : Nat} (h : a ≠ 335) : (wdS t c B e q).2 a = t.2 a := by
  unfold wdS; split
  · unfold letS; rw [pL_ne h, pL_ne h, pL_ne h]
  · rfl
theorem wdS_3 {t : St} {c b : Nat} {B : Nat → Int} {e q : Nat} (h : b < 3 * c) : (wdS t c B e q).2 335 b = t.2 335 b := by
  unfold wdS; split
  · unfold letS; rw [pL_nf (by omega), pL_nf (by omega), pL_nf (by omega)]
  · rfl
theorem eqT.put {t : St} {c : Nat} {B : Nat → Int} {e q : Nat} {k v s : Int} : eqT t (putS (wdS t c B e q) c k v s) := by
  refine ⟨fun a b h1 h2 h3 h4 => ?_, fun a h1 => wdS_2 h1⟩
  unfold putS
  have e4 : ∀ x : St, (pI x 301 7 ((c : Int) + 1)).1 a b = x.1 a b := by
    intro x
    rcases h4 with h5 | h5
    · rw [pI_ne h5]
    · rw [pI_nf h5]
  rw [e4, pI_ne h3, pI_ne h2, pI_ne h1, wdS_1]
theorem TK.old {t : St} {B : Nat → Int} {e i c q : Nat} {k v s : Int} (h : TK t B e i) (hi : i < c) : TK (putS (wdS t c B e q) c k v s) B e i := by
  have hne : i ≠ c := by omega
  unfold putS
  refine ⟨?_, ?_, ?_, fun h1 h2 h3 j hj => ?_⟩
  · rw [pI_ne (by decide), pI_nf hne, pI_ne (by decide), pI_ne (by decide), wdS_1]; exact h.1
  · rw [pI_ne (by decide), pI_ne (by decide), pI_ne (by decide), pI_nf hne, wdS_1]; exact h.2.1
  · rw [pI_ne (by decide), pI_ne (by decide), pI_nf hne, pI_ne (by decide), wdS_1]; exact h.2.2.1
  · show (wdS t c B e q).2 335 (3 * i + j) = _
    rw [wdS_3 (by omega)]
    exact h.2.2.2 h1 h2 h3 j hj
theorem TK.new {t : St} {B : Nat → Int} {e c : Nat} : TK (putS (wdS t c B e (ch B e c)) c (cKd B e (ch B e c)) (cVl B e (ch B e c)) (ch B e c)) B e c := by
  unfold putS
  refine ⟨?_, ?_, ?_, fun h1 h2 h3 j hj => ?_⟩
  · rw [pI_ne (by decide), pI_at]
  · rw [pI_ne (by decide), pI_ne (by decide), pI_ne (by decide), pI_at]
  · rw [pI_ne (by decide), pI_ne (by decide), pI_at]
  · show (wdS t c B e (ch B e c)).2 335 (3 * c + j) = _
    unfold wdS
    rw [if_pos ⟨h2, by omega⟩]
    unfold letS
    have hj3 : j = 0 ∨ j = 1 ∨ j = 2 := by omega
    rcases hj3 with rfl | rfl | rfl
    · rw [pL_nf (by omega), pL_nf (by omega), Nat.add_zero, pL_at]
    · rw [pL_nf (by omega), pL_at]
    · rw [pL_at]
