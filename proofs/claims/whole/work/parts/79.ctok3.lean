/-! the hall's words and tokens -/
theorem fmw_congr2 {P Q : Nat → Bool} {M : Nat} (h : ∀ w, w < M → P w = Q w) : ∀ d w, w + d ≤ M → fmw P d w = fmw Q d w := by
  intro d
  induction d with
  | zero => intro w _; rfl
  | succ d ih => intro w hw; unfold fmw; rw [h w (by omega), ih (w + 1) (by omega)]
theorem fmw_none {P : Nat → Bool} {M : Nat} (h : ∀ w, w < M → P w = false) : ∀ d w, w + d ≤ M → fmw P d w = -1 := by
  intro d
  induction d with
  | zero => intro w _; rfl
  | succ d ih => intro w hw; unfold fmw; rw [h w (by omega), if_neg (by decide)]; exact ih (w + 1) (by omega)
/-- the key words as the hall holds them -/
def kwP (w : Nat) : Int64 := Int64.ofNat (pk8 (fun j => kwZ (kwS w + j)) (kwN w) 8)
def kwOK (t : St) : Prop := ∀ w, w < 38 → t.2 331 w = kwP w
theorem wnd_q1 {B : Nat → Int} {e q : Nat} (hq : q < e) (hl : isLt (B q)) : wnd B e (e - (q + 1)) (q + 1) = wnd B e (e - q) q := by
  rw [show e - q = (e - (q + 1)) + 1 from by omega]
  conv => rhs; unfold wnd
  rw [if_pos (show q < e ∧ isWc (B q) from ⟨hq, Or.inl hl⟩)]
def lt3 (B : Nat → Int) (q w i : Nat) : Int64 := Int64.ofNat (pk8 (fun j => B (q + 8 * i + j)) (w - (q + 8 * i)) 8)
def letS (t : St) (c : Nat) (B : Nat → Int) (q w : Nat) : St := pL (pL (pL t 335 (3 * c) (lt3 B q w 0)) 335 (3 * c + 1) (lt3 B q w 1)) 335 (3 * c + 2) (lt3 B q w 2)
theorem wc_rng {x : Int} (h : isWc x) : 0 < x ∧ x < 256 := by omega
theorem s_lt3 {N : Nat} {t : St} {B : Nat → Int} {e q w i : Nat} (h : cTx t B e) (hw : w ≤ e) (hq : q ≤ e) (hi : i ≤ 2) (hN : 100 ≤ N) : f_X11_lettersOf N 330 4096 ((q : Int) + 8 * i) w t = some (lt3 B q w i, t) := by
  have he := h.2.1
  rw [show ((q : Int) + 8 * (i : Int)) = ((q + 8 * i : Nat) : Int) from by omega]
  exact s_lettersOf (B := fun j => B (q + 8 * i + j)) (fun j hj => h.2.2.1 _ (by omega)) (fun j hj => h.2.2.2 _ (by omega)) (by omega) (by omega) (by omega) hN
theorem s_L70 {N : Nat} {t : St} {B : Nat → Int} {e q w c : Nat} (h : cTx t B e) (hw : w ≤ e) (hq : q ≤ e) (hc : t.1 301 7 = c) (hl : c < 4098) (hN : 100 ≤ N) (K : St → Option (Int × St)) : f_X10_readWord_L70 N K q w N 0 t = K (letS t c B q w) := by
  have he := h.2.1
  obtain ⟨n, rfl⟩ : ∃ k, N = k + 4 := ⟨N - 4, by omega⟩
  have step : ∀ (u : St) (k i : Nat), u.1 = t.1 → i < 3 → f_X10_readWord_L70 (n + 4) K q w (k + 1) i u = f_X10_readWord_L70 (n + 4) K q w k ((i + 1 : Nat) : Int) (pL u 335 (3 * c + i) (lt3 B q w i)) := by
    intro u k i hu hi
    have hcu : cTx u B e := by unfold cTx; rw [hu]; exact h
    have hc7 : u.1 301 7 = c := by rw [hu]; exact hc
    conv => lhs; unfold f_X10_readWord_L70
    simp only [lt1_k]
    rw [hc7, cmpI_ok (by omega), if_pos (by omega), cmpI_ok (by omega), if_pos (by omega), s_lt3 hcu hw hq (by omega) hN, bdL_s, ixI_ok (by omega), show ((3 : Int) * c + i).toNat = 3 * c + i from by omega, show ((i : Int) + 1) = ((i + 1 : Nat) : Int) from by omega]
  have s0 := step t (n + 3) 0 rfl (by decide)
  have s1 := step (pL t 335 (3 * c + 0) (lt3 B q w 0)) (n + 2) 1 rfl (by decide)
  have s2 := step (pL (pL t 335 (3 * c + 0) (lt3 B q w 0)) 335 (3 * c + 1) (lt3 B q w 1)) (n + 1) 2 rfl (by decide)
  show f_X10_readWord_L70 (n + 4) K q w (n + 3 + 1) ((0 : Nat) : Int) t = _
  rw [s0, s1, s2]
  conv => lhs; unfold f_X10_readWord_L70
  simp only [lt1_k]
  rw [cmpI_ok (by omega), if_neg (by omega)]
  rfl
theorem kw_kind {t : St} {B : Nat → Int} {e q : Nat} (hk : kwOK t) (hq : q < e) (hl : isLt (B q)) (h8 : wnd B e (e - q) q - q ≤ 8) : fmL (fun w => decide (t.2 331 w = lt3 B q (wnd B e (e - q) q) 0)) 38 0 = if tKey B e q = -1 then 38 else tKey B e q := by
  have hw := wnd_le (B := B) (e - q) q (Nat.le_of_lt hq)
  rw [fmL_fmw]
  have hP : fmw (fun w => decide (t.2 331 w = lt3 B q (wnd B e (e - q) q) 0)) 38 0 = tKey B e q := by
    unfold tKey
    refine fmw_congr2 (M := 38) (fun w hw38 => ?_) 38 0 (by decide)
    have hwc : ∀ j, j < wnd B e (e - q) q - q → 0 < B (q + j) ∧ B (q + j) < 256 := fun j hj => wc_rng (wnd_wc (B := B) (e := e) (e - q) q (q + j) (by omega) (by omega))
    obtain ⟨t1, t2, t3, t4, t5⟩ := kw_tab w hw38
    have hkl : ∀ j, j < kwN w → 0 < kwZ (kwS w + j) ∧ kwZ (kwS w + j) < 256 := fun j hj => by have := kw_let w hw38 j (by omega) hj; omega
    have hz : lt3 B q (wnd B e (e - q) q) 0 = Int64.ofNat (pk8 (fun j => B (q + j)) (wnd B e (e - q) q - q) 8) := rfl
    have e1 : (t.2 331 w = lt3 B q (wnd B e (e - q) q) 0) ↔ kmt (fun j => B (q + j)) (wnd B e (e - q) q - q) w := by
      rw [hk w hw38, hz]
      unfold kwP
      constructor
      · intro h9
        have h10 := ofN_inj (Nat.lt_of_lt_of_le (pk8_lt (fun i hi => by have := hkl i hi; omega) 8) (by decide)) (Nat.lt_of_lt_of_le (pk8_lt (fun i hi => by have := hwc i hi; omega) 8) (by decide)) h9
        have h11 := (pk8_word t4 h8 hkl hwc).mp h10
        exact ⟨h11.1.symm, fun i hi => h11.2 i (by omega)⟩
      · intro h9
        rw [(pk8_word t4 h8 hkl hwc).mpr ⟨h9.1.symm, fun i hi => h9.2 i (by have := h9.1; omega)⟩]
    cases hd : kmb (fun j => B (q + j)) (wnd B e (e - q) q - q) w with
    | true => exact decide_eq_true (e1.mpr (kmb_kmt.mp hd))
    | false => exact decide_eq_false (fun h9 => by have := kmb_kmt.mpr (e1.mp h9); rw [hd] at this; cases this)
  rw [hP]
theorem kw_long {B : Nat → Int} {e q : Nat} (h8 : 8 < wnd B e (e - q) q - q) : tKey B e q = -1 := by
  unfold tKey
  refine fmw_none (M := 38) (fun w hw => ?_) 38 0 (by decide)
  obtain ⟨t1, t2, t3, t4, t5⟩ := kw_tab w hw
  unfold kmb
  rw [decide_eq_false (by omega)]; rfl
theorem s_readWord {N : Nat} {t : St} {B : Nat → Int} {e q c : Nat} (h : cTx t B e) (hq : q < e) (hl : isLt (B q)) (hc : t.1 301 7 = c) (hcl : c < 4098) (hk : kwOK t) (hN : 5000 ≤ N) :
    f_X10_readWord N q t = if 24 < wnd B e (e - q) q - q then some (-1, putS t c 49 0 q) else some ((wnd B e (e - q) q : Int), putS (letS t c B q (wnd B e (e - q) q)) c (if tKey B e q = -1 then 38 else tKey B e q) 0 q) := by
  have he := h.2.1
  have hw := wnd_le (B := B) (e - q) q (Nat.le_of_lt hq)
  unfold f_X10_readWord
  simp only [jn1_k]
  rw [show ((q : Int) + 1) = ((q + 1 : Nat) : Int) from by omega, c_wnd h _ (e - (q + 1)) (q + 1) N (by omega) (by omega) (by omega), wnd_q1 hq hl, cmpI_ok (by omega)]
  by_cases h24 : 24 < wnd B e (e - q) q - q
  · rw [if_pos (by omega), if_pos h24, s_put hc hcl, bdV_s]
  · rw [if_neg (by omega), if_neg h24, s_L70 h hw.2 (by omega) hc hcl (by omega), cmpI_ok (by omega)]
    have hc2 : (letS t c B q (wnd B e (e - q) q)).1 301 7 = c := hc
    have hx2 : cTx (letS t c B q (wnd B e (e - q) q)) B e := h
    have hk2 : kwOK (letS t c B q (wnd B e (e - q) q)) := by
      intro w hw2
      unfold letS
      rw [pL_ne (by decide), pL_ne (by decide), pL_ne (by decide)]
      exact hk w hw2
    by_cases h8 : 8 < wnd B e (e - q) q - q
    · rw [if_pos (by omega), s_put hc2 hcl, bdV_s, if_pos (kw_long h8)]
    · have hlo := s_lt3 (N := N) (i := 0) hx2 hw.2 (Nat.le_of_lt hq) (by decide) (by omega)
      rw [show ((q : Int) + 8 * ((0 : Nat) : Int)) = q from by omega] at hlo
      rw [if_neg (by omega), hlo, bdL_s]
      unfold f_X10_kindOfWord
      have hkw := s_kindW (t := letS t c B q (wnd B e (e - q) q)) (x := lt3 B q (wnd B e (e - q) q) 0) 38 0 N (by decide) (by omega)
      rw [show ((0 : Nat) : Int) = 0 from rfl] at hkw
      rw [hkw, bdI_s, kw_kind hk2 hq hl (by omega), s_put hc2 hcl, bdV_s]
