/-! a text's tokens are read -/
theorem cTx.eq {t u : St} {B : Nat → Int} {e : Nat} (h : cTx t B e) (g : eqT t u) : cTx u B e := by
  refine ⟨?_, h.2.1, fun i hi => ?_, h.2.2.2⟩
  · rw [g.1 301 1 (by decide) (by decide) (by decide) (Or.inr (by decide))]; exact h.1
  · rw [g.1 330 i (by decide) (by decide) (by decide) (Or.inl (by decide))]; exact h.2.2.1 i hi
theorem kwOK.eq {t u : St} (h : kwOK t) (g : eqT t u) : kwOK u := fun w hw => by rw [g.2 331 (by decide)]; exact h w hw
theorem putS_c {t : St} {c : Nat} {k v s : Int} : (putS t c k v s).1 301 7 = ((c + 1 : Nat) : Int) := by
  unfold putS; rw [pI_at]; omega
theorem s_readL {N : Nat} {B : Nat → Int} {e : Nat} (hN : 5000 ≤ N) (K : St → Option St) : ∀ (d c n : Nat) (t : St), cTx t B e → kwOK t → t.1 301 7 = c → c ≤ ch B e c → e ≤ ch B e c + d → d + 1 < n → (∀ i, i < c → TK t B e i ∧ ch B e i < e ∧ tKnd B e (ch B e i) ≠ 5) →
    ∃ (u : St) (m : Nat), f_X10_read_L13 N K n (ch B e c) c t = K u ∧ eqT t u ∧ (∀ i, i < m → TK u B e i ∧ ch B e i < e ∧ tKnd B e (ch B e i) ≠ 5) ∧ m ≤ 4096 ∧
      ((ch B e m = e ∧ u.1 301 7 = m) ∨ (ch B e m < e ∧ tKnd B e (ch B e m) = 5 ∧ TK u B e m ∧ u.1 301 7 = ((m + 1 : Nat) : Int))) := by
  have hend : ∀ (c n : Nat) (t : St), cTx t B e → t.1 301 7 = c → c ≤ ch B e c → ch B e c = e → (∀ i, i < c → TK t B e i ∧ ch B e i < e ∧ tKnd B e (ch B e i) ≠ 5) →
      ∃ (u : St) (m : Nat), f_X10_read_L13 N K (n + 1) (ch B e c) c t = K u ∧ eqT t u ∧ (∀ i, i < m → TK u B e i ∧ ch B e i < e ∧ tKnd B e (ch B e i) ≠ 5) ∧ m ≤ 4096 ∧
      ((ch B e m = e ∧ u.1 301 7 = m) ∨ (ch B e m < e ∧ tKnd B e (ch B e m) = 5 ∧ TK u B e m ∧ u.1 301 7 = ((m + 1 : Nat) : Int))) := by
    intro c n t h hc hcc hce hi
    have he := h.2.1
    refine ⟨t, c, ?_, eqT.rf, hi, by omega, Or.inl ⟨hce, hc⟩⟩
    unfold f_X10_read_L13
    simp only [lt1_k, jn1_k]
    rw [cmpI_ok (by omega)]
    by_cases h4 : (c : Int) < 4096
    · rw [if_pos h4, cmpI_ok (by omega), if_neg (by omega), h.1, cmpI_ok (by omega), if_neg (by omega)]
    · rw [if_neg h4]
  intro d
  induction d with
  | zero =>
    intro c n t h hk hc hcc hd hn hi
    obtain ⟨n, rfl⟩ : ∃ k, n = k + 1 := ⟨n - 1, by omega⟩
    exact hend c n t h hc hcc (by have := ch_le (B := B) (e := e) c; omega) hi
  | succ d ih =>
    intro c n t h hk hc hcc hd hn hi
    obtain ⟨n, rfl⟩ : ∃ k, n = k + 1 := ⟨n - 1, by omega⟩
    have he := h.2.1
    by_cases hce : ch B e c = e
    · exact hend c n t h hc hcc hce hi
    · have hlt : ch B e c < e := by have := ch_le (B := B) (e := e) c; omega
      have hte := tEnd_le (B := B) (Nat.le_of_lt hlt)
      have hrt := s_readToken h hlt hc (by omega) hk hN
      have hg := eqT.put (t := t) (c := c) (B := B) (e := e) (q := ch B e c) (k := cKd B e (ch B e c)) (v := cVl B e (ch B e c)) (s := ((ch B e c : Nat) : Int))
      generalize hU : putS (wdS t c B e (ch B e c)) c (cKd B e (ch B e c)) (cVl B e (ch B e c)) ((ch B e c : Nat) : Int) = U at hrt hg
      have hUc : U.1 301 7 = ((c + 1 : Nat) : Int) := by rw [← hU]; exact putS_c
      have hUi : ∀ i, i < c → TK U B e i ∧ ch B e i < e ∧ tKnd B e (ch B e i) ≠ 5 := fun i hi2 => ⟨by rw [← hU]; exact (hi i hi2).1.old hi2, (hi i hi2).2⟩
      have hUn : TK U B e c := by rw [← hU]; exact TK.new
      have hUx := h.eq hg
      have hUk := hk.eq hg
      conv => enter [1, u, 1, m, 1, 1]; unfold f_X10_read_L13
      simp only [lt1_k, jn1_k]
      rw [cmpI_ok (by omega), if_pos (by omega), cmpI_ok (by omega), if_neg (by omega), h.1, cmpI_ok (by omega), if_pos (by omega), hrt, bdI_s]
      by_cases hb : tKnd B e (ch B e c) = 5
      · rw [if_pos hb, cmpI_ok (by omega), if_pos (by decide)]
        obtain ⟨n, rfl⟩ : ∃ k, n = k + 1 := ⟨n - 1, by omega⟩
        refine ⟨U, c, ?_, hg, hUi, by omega, Or.inr ⟨hlt, hb, hUn, hUc⟩⟩
        unfold f_X10_read_L13
        simp only [lt1_k, jn1_k]
        rw [cmpI_ok (by omega)]
        by_cases h4 : (c : Int) + 1 < 4096
        · rw [if_pos h4, cmpI_ok (by omega), if_pos (by decide)]
        · rw [if_neg h4]
      · rw [if_neg hb, cmpI_ok (by omega), if_neg (by omega), c_skipBlanks hUx hte.2.1 (by omega), bdI_s, show ((c : Int) + 1) = ((c + 1 : Nat) : Int) from by omega]
        have hcl := ch_lt (B := B) (e := e) (i := c) hlt
        obtain ⟨u, m, a1, a2, a3⟩ := ih (c + 1) n U hUx hUk hUc (by omega) (by omega) (by omega) (fun i hi2 => by
          by_cases q : i = c
          · rw [q]; exact ⟨hUn, hlt, hb⟩
          · exact hUi i (by omega))
        exact ⟨u, m, a1, hg.tr a2, a3⟩
