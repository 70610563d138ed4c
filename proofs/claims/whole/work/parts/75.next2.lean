/-! the model's next token: all of it -/
theorem mBy.up {t : St} {k f : Nat} {v : Int} (h : mBy t) (hk : k ≠ 0) : mBy (pI t k f v) := fun i hi => by rw [pI_ne (fun q => hk q.symm)]; exact h i hi
theorem mTx.by_lt {t : St} {B : Nat → Int} {e i : Nat} (h : mTx t B e) (hb : mBy t) (hi : i < e) (hw : B i < 128) : t.1 0 i = B i := by
  have h1 := h.2.2 i hi
  have h2 := hb i (by have := h.2.1; omega)
  omega
set_option maxHeartbeats 4000000 in
set_option maxRecDepth 100000 in
theorem s_next {N : Nat} {t : St} {B : Nat → Int} {e p : Nat} (h : mTx t B e) (hb : mBy t) (hp : p ≤ e) (hat : t.1 200 2 = p) (hN : 5000 ≤ N) : ∃ u : St, f_X12_next N t = some u ∧ eqF t u ∧ TokM u B e (skp B e (e - p) p) := by
  have ht : pI t 200 2 (p : Int) = t := by rw [← hat]; exact pI_self
  have hq := skp_le (B := B) (e - p) p hp
  have he := h.2.1
  unfold f_X12_next
  rw [← ht, s_skp h (by omega) _ (e - p) p N (by omega) hp (by omega)]
  rw [ht]
  generalize hQ : skp B e (e - p) p = q at hq
  have hT2 : mTx (pI t 200 2 (q : Int)) B e := h.up (by decide)
  have hT24 : mTx (pI (pI t 200 2 (q : Int)) 200 4 (q : Int)) B e := hT2.up (by decide)
  have hT4 : mTx (pI t 200 4 (q : Int)) B e := h.up (by decide)
  have hF0 : eqF t (pI (pI t 200 2 (q : Int)) 200 4 (q : Int)) := (eqF.rf.up (by decide) (by decide)).up (by decide) (by decide)
  simp only [lt1_k, jn1_k]
  rw [pI_at, pI_nf (show 2 ≠ 4 by decide), pI_at, s_bt hT24 hq.2, bdI_s]
  by_cases hqe : q < e
  · have hr := h.2.2 q hqe
    have hbt : bt9 B e q = B q := if_pos hqe
    rw [hbt, cmpI_ok (by omega), if_neg (by omega), s_isLetter (by omega), bdI_s]
    by_cases hl : isLt (B q)
    · rw [if_pos hl, cmpI_ok (by omega), if_neg (by decide), pI_comm (i := 2) (j := 4) (by decide), s_wnd hT4 _ (e - q) q N (by omega) hq.2 (by omega)]
      have hw := wnd_le (B := B) (e - q) q hq.2
      have hL : ((wnd B e (e - q) q : Nat) : Int) - (q : Int) = ((wnd B e (e - q) q - q : Nat) : Int) := by omega
      rw [pI_at, pI_nf (show 4 ≠ 2 by decide), pI_at, hL]
      have hB6 : mBy (pI (pI (pI t 200 4 (q : Int)) 200 2 ((wnd B e (e - q) q : Nat) : Int)) 200 6 ((wnd B e (e - q) q - q : Nat) : Int)) := ((hb.up (by decide)).up (by decide)).up (by decide)
      rw [s_keyAt (p := q) (L := wnd B e (e - q) q - q) pI_at (by rw [pI_nf (by decide), pI_nf (by decide), pI_at]) (by omega) (fun i hi => by have := hB6 (q + i) (by omega); constructor <;> omega) (by omega), bdI_s]
      have hk : fmw (kmb (fun j => (pI (pI (pI t 200 4 (q : Int)) 200 2 ((wnd B e (e - q) q : Nat) : Int)) 200 6 ((wnd B e (e - q) q - q : Nat) : Int)).1 0 (q + j)) (wnd B e (e - q) q - q)) 38 0 = tKey B e q := by
        unfold tKey
        refine fmw_congr (fun w => kmb_congr (fun j hj => ?_)) 38 0
        rw [pI_ne (by decide), pI_ne (by decide), pI_ne (by decide)]
        exact h.by_lt hb (by omega) (by have := wnd_wc (B := B) (e := e) (e - q) q (q + j) (by omega) (by omega); omega)
      rw [hk]
      have hkr : tKey B e q = -1 ∨ (0 ≤ tKey B e q ∧ tKey B e q < 38) := by
        rcases fmw_rng (P := kmb (fun j => B (q + j)) (wnd B e (e - q) q - q)) 38 0 with h9 | h9
        · exact Or.inl h9
        · right; unfold tKey; omega
      have hF : eqF t (pI (pI (pI (pI t 200 4 (q : Int)) 200 2 ((wnd B e (e - q) q : Nat) : Int)) 200 6 ((wnd B e (e - q) q - q : Nat) : Int)) 200 5 (tKey B e q)) := (((eqF.rf.up (by decide) (by decide)).up (by decide) (by decide)).up (by decide) (by decide)).up (by decide) (by decide)
      have hM : ∀ v : Int, v = tKnd B e q → TokM (pI (pI (pI (pI (pI t 200 4 (q : Int)) 200 2 ((wnd B e (e - q) q : Nat) : Int)) 200 6 ((wnd B e (e - q) q - q : Nat) : Int)) 200 5 (tKey B e q)) 200 3 v) B e q := by
        intro v hv
        refine ⟨?_, ?_, ?_, fun _ => ?_, fun _ _ => ?_⟩
        · rw [pI_nf (by decide), pI_nf (by decide), pI_nf (by decide), pI_nf (by decide), pI_at]
        · rw [pI_nf (by decide), pI_nf (by decide), pI_nf (by decide), pI_at]; unfold tEnd; rw [if_pos hqe, if_pos hl]
        · rw [pI_at, hv]
        · rw [pI_nf (by decide), pI_at]; unfold tVal; rw [if_pos hl]
        · rw [pI_nf (by decide), pI_nf (by decide), pI_at]
      have hK : tKnd B e q = if 24 < wnd B e (e - q) q - q then 5 else if tKey B e q = -1 then 2 else 1 := by unfold tKnd; rw [if_pos hqe, if_pos hl]
      rw [pI_nf (show 6 ≠ 5 by decide), pI_at, cmpI_ok (by omega)]
      by_cases h24 : 24 < wnd B e (e - q) q - q
      · rw [if_pos (by omega)]
        exact ⟨_, rfl, hF.up (by decide) (by decide), hM 5 (by rw [hK, if_pos h24])⟩
      · rw [if_neg (by omega), pI_at, cmpI_ok (by omega)]
        by_cases h1 : tKey B e q = -1
        · rw [if_pos h1]
          exact ⟨_, rfl, hF.up (by decide) (by decide), hM 2 (by rw [hK, if_neg h24, if_pos h1])⟩
        · rw [if_neg h1]
          exact ⟨_, rfl, hF.up (by decide) (by decide), hM 1 (by rw [hK, if_neg h24, if_neg h1])⟩
    · rw [if_neg hl, cmpI_ok (by omega), if_pos rfl, s_isDigit (by omega), bdI_s]
      have hq1 : ((q : Int) + 1) = ((q + 1 : Nat) : Int) := by omega
      have hnum : isDg (B q) ∨ B q = 45 → ∃ u : St, (f_X12_next_L289 N (fun k70 t71 => bdI (f_X12_in N k70 1 5 t71) fun v73 t72 => cmpI v73 0 (if v73 = 0 then cmpI (B q) 45 (if B q = 45 then some (pI (pI t72 200 3 5) 200 5 (-(pI t72 200 3 5).1 200 5)) else some (pI (pI t72 200 3 5) 200 5 ((pI t72 200 3 5).1 200 5))) else cmpI (B q) 45 (if B q = 45 then some (pI (pI t72 200 3 3) 200 5 (-(pI t72 200 3 3).1 200 5)) else some (pI (pI t72 200 3 3) 200 5 ((pI t72 200 3 3).1 200 5))))) N (if B q = 45 then 0 else 1) (pI (pI (pI (pI t 200 2 (q : Int)) 200 4 (q : Int)) 200 2 ((q : Int) + 1)) 200 5 (if B q = 45 then 0 else B q - 48))) = some u ∧ eqF t u ∧ TokM u B e q := by
        intro hn
        have e1 : ∀ v : Int, pI (pI (pI (pI t 200 2 (q : Int)) 200 4 (q : Int)) 200 2 ((q : Int) + 1)) 200 5 v = pI (pI (pI t 200 4 (q : Int)) 200 5 v) 200 2 ((q + 1 : Nat) : Int) := by
          intro v
          rw [pI_comm (i := 2) (j := 4) (by decide), pI_pI, pI_comm (i := 2) (j := 5) (by decide), hq1]
        rw [e1]
        have hg0 : (0 : Int) ≤ (if B q = 45 then (0 : Int) else 1) := by split <;> decide
        have hg1 : (if B q = 45 then (0 : Int) else 1) ≤ 1 := by split <;> decide
        rw [s_nvf hT4 _ (e - (q + 1)) (q + 1) N (if B q = 45 then 0 else 1) (if B q = 45 then 0 else B q - 48) (by omega) (by omega) (by omega) hg0 (by omega)]
        have hle := nvf_le (B := B) (e := e) (e - (q + 1)) (q + 1) (if B q = 45 then (0 : Int) else 1) (if B q = 45 then (0 : Int) else B q - 48) (by omega) hg0
        have hvr : 0 ≤ (tNum B e q).2.1 ∧ (tNum B e q).2.1 ≤ 99999 := by
          unfold tNum
          by_cases h45 : B q = 45
          · rw [if_pos h45, if_pos h45]
            exact nvf_v (B := B) (e := e) _ _ 0 0 0 (by omega) (by omega) (by omega) (by intro; omega) (by intro; omega) (by intro; omega) (by intro; omega) (by intro; omega) (by intro; omega)
          · rw [if_neg h45, if_neg h45]
            exact nvf_v (B := B) (e := e) _ _ 1 _ 9 (by omega) (by omega) (by omega) (by intro; omega) (by intro; omega) (by intro; omega) (by intro; omega) (by intro; omega) (by intro; omega)
        have hnm : nvf B e (e - (q + 1)) (q + 1) (if B q = 45 then 0 else 1) (if B q = 45 then 0 else B q - 48) = tNum B e q := rfl
        rw [hnm] at hle ⊢
        have hF : ∀ a b : Int, eqF t (pI (pI (pI (pI (pI t 200 4 (q : Int)) 200 5 (tNum B e q).2.1) 200 2 ((tNum B e q).2.2 : Int)) 200 3 a) 200 5 b) := fun a b => ((((eqF.rf.up (by decide) (by decide)).up (by decide) (by decide)).up (by decide) (by decide)).up (by decide) (by decide)).up (by decide) (by decide)
        have e5 : ∀ a : Int, (pI (pI (pI (pI t 200 4 (q : Int)) 200 5 (tNum B e q).2.1) 200 2 ((tNum B e q).2.2 : Int)) 200 3 a).1 200 5 = (tNum B e q).2.1 := by
          intro a; rw [pI_nf (by decide), pI_nf (by decide), pI_at]
        have hM : ∀ a b : Int, a = tKnd B e q → b = tVal B e q → TokM (pI (pI (pI (pI (pI t 200 4 (q : Int)) 200 5 (tNum B e q).2.1) 200 2 ((tNum B e q).2.2 : Int)) 200 3 a) 200 5 b) B e q := by
          intro a b ha hb2
          refine ⟨?_, ?_, ?_, fun _ => ?_, fun _ h9 => absurd h9 hl⟩
          · rw [pI_nf (by decide), pI_nf (by decide), pI_nf (by decide), pI_nf (by decide), pI_at]
          · rw [pI_nf (by decide), pI_nf (by decide), pI_at]; unfold tEnd; rw [if_pos hqe, if_neg hl, if_pos hn]
          · rw [pI_nf (by decide), pI_at, ha]
          · rw [pI_at, hb2]
        have hK : tKnd B e q = if 1 ≤ (tNum B e q).1 ∧ (tNum B e q).1 ≤ 5 then 3 else 5 := by unfold tKnd; rw [if_pos hqe, if_neg hl, if_pos hn]
        have hV : tVal B e q = if B q = 45 then -(tNum B e q).2.1 else (tNum B e q).2.1 := by unfold tVal; rw [if_neg hl, if_pos hn]
        rw [s_in (by refine ⟨⟨?_, ?_⟩, ⟨?_, ?_⟩, ⟨?_, ?_⟩⟩ <;> omega), bdI_s]
        by_cases hg : 1 ≤ (tNum B e q).1 ∧ (tNum B e q).1 ≤ 5
        · rw [if_pos hg, cmpI_ok (by omega), if_neg (by decide), cmpI_ok (by omega), e5]
          by_cases h45 : B q = 45
          · rw [if_pos h45]
            exact ⟨_, rfl, hF _ _, hM _ _ (by rw [hK, if_pos hg]) (by rw [hV, if_pos h45])⟩
          · rw [if_neg h45]
            exact ⟨_, rfl, hF _ _, hM _ _ (by rw [hK, if_pos hg]) (by rw [hV, if_neg h45])⟩
        · rw [if_neg hg, cmpI_ok (by omega), if_pos rfl, cmpI_ok (by omega), e5]
          by_cases h45 : B q = 45
          · rw [if_pos h45]
            exact ⟨_, rfl, hF _ _, hM _ _ (by rw [hK, if_neg hg]) (by rw [hV, if_pos h45])⟩
          · rw [if_neg h45]
            exact ⟨_, rfl, hF _ _, hM _ _ (by rw [hK, if_neg hg]) (by rw [hV, if_neg h45])⟩
      have e24 : (pI (pI t 200 2 (q : Int)) 200 4 (q : Int)).1 200 2 = q := by rw [pI_nf (by decide), pI_at]
      by_cases hd : isDg (B q)
      · have hnn := hnum (Or.inl hd)
        rw [if_neg (show ¬ B q = 45 by omega), if_neg (show ¬ B q = 45 by omega)] at hnn
        rw [if_pos hd, cmpI_ok (by omega), if_neg (by decide), e24]
        simp (disch := omega) only [cmpI_ok, if_neg (show ¬ B q = 45 by omega)] at hnn ⊢
        exact hnn
      · rw [if_neg hd, cmpI_ok (by omega), if_pos rfl, cmpI_ok (by omega), e24]
        by_cases h45 : B q = 45
        · have hnn := hnum (Or.inr h45)
          rw [if_pos h45, if_pos h45] at hnn
          rw [if_pos h45]
          simp (disch := omega) only [cmpI_ok, if_pos h45] at hnn ⊢
          exact hnn
        · rw [if_neg h45]
          have hnn : ¬ (isDg (B q) ∨ B q = 45) := fun h9 => h9.elim hd h45
          have hF : ∀ a : Int, eqF t (pI (pI (pI (pI (pI t 200 2 (q : Int)) 200 4 (q : Int)) 200 2 ((q : Int) + 1)) 200 5 (B q)) 200 3 a) := fun a => (((hF0.up (by decide) (by decide)).up (by decide) (by decide)).up (by decide) (by decide))
          have hM : ∀ a : Int, a = tKnd B e q → TokM (pI (pI (pI (pI (pI t 200 2 (q : Int)) 200 4 (q : Int)) 200 2 ((q : Int) + 1)) 200 5 (B q)) 200 3 a) B e q := by
            intro a ha
            refine ⟨?_, ?_, ?_, fun _ => ?_, fun _ h9 => absurd h9 hl⟩
            · rw [pI_nf (by decide), pI_nf (by decide), pI_nf (by decide), pI_at]
            · rw [pI_nf (by decide), pI_nf (by decide), pI_at]; unfold tEnd; rw [if_pos hqe, if_neg hl, if_neg hnn, hq1]
            · rw [pI_at, ha]
            · rw [pI_nf (by decide), pI_at]; unfold tVal; rw [if_neg hl, if_neg hnn]
          have hK : tKnd B e q = if isSg (B q) then 4 else 5 := by unfold tKnd; rw [if_pos hqe, if_neg hl, if_neg hnn]
          by_cases hs : isSg (B q)
          · refine ⟨pI (pI (pI (pI (pI t 200 2 (q : Int)) 200 4 (q : Int)) 200 2 ((q : Int) + 1)) 200 5 (B q)) 200 3 4, ?_, hF _, hM _ (by rw [hK, if_pos hs])⟩
            rcases hs with h9 | h9 | h9 | h9 | h9 | h9 | h9 | h9 <;> rw [h9] <;> rfl
          · refine ⟨pI (pI (pI (pI (pI t 200 2 (q : Int)) 200 4 (q : Int)) 200 2 ((q : Int) + 1)) 200 5 (B q)) 200 3 5, ?_, hF _, hM _ (by rw [hK, if_neg hs])⟩
            rw [cmpI_ok (by omega), if_neg (by omega), cmpI_ok (by omega), if_neg (by omega), cmpI_ok (by omega), if_neg (by omega), cmpI_ok (by omega), if_neg (by omega), cmpI_ok (by omega), if_neg (by omega), cmpI_ok (by omega), if_neg (by omega), cmpI_ok (by omega), if_neg (by omega), cmpI_ok (by omega), if_neg (by omega)]
            rfl
  · have hbt : bt9 B e q = -1 := if_neg hqe
    rw [hbt, cmpI_ok (by omega), if_pos rfl]
    refine ⟨_, rfl, hF0.up (by decide) (by decide), ?_, ?_, ?_, fun h9 => absurd h9 hqe, fun h9 => absurd h9 hqe⟩
    · rw [pI_nf (by decide), pI_at]
    · rw [pI_nf (by decide), pI_nf (by decide), pI_at]; unfold tEnd; rw [if_neg hqe]
    · rw [pI_at]; unfold tKnd; rw [if_neg hqe]
